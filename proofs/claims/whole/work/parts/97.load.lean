-- LOAD: THE END
section n_lod
variable {b : Nat → Nat} {L T p D i j Z F R N K A M : Nat} {g h0 h h' : sm_H} {u q w : Nat → Int32}
theorem n_S0.rows {h1 h1' : sm_H} (S : n_S0 p D h0 h1) {h0' : sm_H} (e0 : h0' p = h0 p) (e2 : h0' (p + 2) = h0 (p + 2)) (e : ∀ r, 40 ≤ r → r ≤ 49 → h1' r = h1 r) : n_S0 p D h0' h1' := by
  unfold n_S0 at S ⊢
  rw [e0, e2, e 40 (by omega) (by omega), e 41 (by omega) (by omega), e 42 (by omega) (by omega), e 43 (by omega) (by omega), e 44 (by omega) (by omega), e 45 (by omega) (by omega), e 46 (by omega) (by omega), e 47 (by omega) (by omega), e 48 (by omega) (by omega), e 49 (by omega) (by omega)]
  exact S
-- the class ends, all well
theorem n_clG {p2 : Nat} (hp : p = 1 ∨ p = 24) (hp2 : p2 = 1 ∨ p2 = 24) (G : n_G p h0 i h) (C : n_IT Z D F R N K A p h q) (h40 : h 40 0 = nI p2) : ∃ H1, f_sc_load_L70 0 (nI M) h = some (nI M, H1) ∧ (∀ r, r ≠ 0 → r ≠ 17 → r ≠ 18 → r < 40 ∨ 49 < r → H1 r = h r) ∧ H1 17 1 = nI p2 ∧ (∀ k, k ≠ 1 → H1 17 k = h 17 k) ∧ H1 18 1 = 0 ∧ H1 0 4 = 0 ∧ n_S0 p D h H1 := by
  obtain ⟨q1, q2⟩ := p_isPp hp
  obtain ⟨q3, q4⟩ := p_isPp hp2
  obtain ⟨gB, b1, b2, b3⟩ := n_stb (D := D) (h := sm_up h 18 1 0) hp C.1.1.2.2.1 (by rw [sm_up_ne _ _ _ _ _ (by omega)]; exact C.1.2.1.2.2.1)
  refine ⟨sm_up (sm_up gB 17 1 (nI p2)) 0 4 0, ?_, fun r r0 r1 r2 r3 => ?_, ?_, fun k hk => ?_, ?_, p_up_at, ?_⟩
  · unfold f_sc_load_L70
    refine w_lt ?_
    rw [show (0 + 17 + 1 : Nat) = 18 from rfl, show (0 + 17 : Nat) = 17 from rfl, show (0 + 40 : Nat) = 40 from rfl, sm_up_ne _ _ _ _ 17 (by decide), sm_up_ne _ _ _ _ 40 (by decide), G.2.1, if_pos rfl, h40, q3, s_true, q4]
    refine w_lt ?_
    rw [G.1, q1, s_true, q2]
    refine w_lt ?_
    refine w_bd b1 ?_
    refine w_lt ?_
    refine w_lt ?_
    rfl
  · rw [sm_up_ne _ _ _ _ _ r0, sm_up_ne _ _ _ _ _ r1, b2 r (by omega), sm_up_ne _ _ _ _ _ r2]
  · rw [sm_up_ne _ _ _ _ _ (by decide), p_up_at]
  · rw [sm_up_ne _ _ _ _ _ (by decide), sm_up_off (by omega), b2 17 (by omega), sm_up_ne _ _ _ _ _ (by decide)]
  · rw [sm_up_ne _ _ _ _ _ (by decide), sm_up_ne _ _ _ _ _ (by decide), b2 18 (by omega), p_up_at]
  · exact b3.rows (sm_up_ne _ _ _ _ _ (by omega)).symm (sm_up_ne _ _ _ _ _ (by omega)).symm (fun r r1 r2 => by rw [sm_up_ne _ _ _ _ _ (by omega), sm_up_ne _ _ _ _ _ (by omega)])
-- the class ends after an error
theorem n_clB {c s : Nat} (X : n_E p h0 c s h) : f_sc_load_L70 0 (nI M) h = some (-4, sm_up h 18 1 0) := by
  obtain ⟨-, -, ⟨x1, x2, x3⟩, -⟩ := X
  unfold f_sc_load_L70
  refine w_lt ?_
  rw [show (0 + 17 + 1 : Nat) = 18 from rfl, show (0 + 17 : Nat) = 17 from rfl, sm_up_ne _ _ _ _ 17 (by decide), x3, if_neg (nI_ne0 (by omega) (by omega))]
-- both sides run over all items
theorem n_run {m : Nat} (B : n_B0 b L T p h0) (RB : n_RB b L g) (G0 : n_G p h0 0 h0) (TA : n_TA b L T (h0 20) (h0 21) (h0 22) (h0 23) m 0 0 false) (f4 : h0 17 4 = 0) (f5 : h0 17 5 = 0) (pl : h0 p 0 = 1 ∧ h0 p 1 = 0 ∧ h0 p 2 = 0 ∧ h0 p 3 = 0 ∧ h0 p 4 = 50 ∧ h0 p 5 = 10 ∧ h0 p 6 = 0 ∧ h0 (p + 9) 0 = 0 ∧ h0 (p + 9) 1 = 0 ∧ h0 (p + 9) 2 = 0) (hu : u 11 = nI L ∧ u 10 = 0 ∧ u 12 = -1 ∧ u 21 = 0 ∧ u 22 = 0 ∧ u 23 = 0) (b0 : q 0 = 1) (b5 : q 5 = 50) (b6 : q 6 = 10) (bq : ∀ k, k < 1268 → k ≠ 0 → k ≠ 5 → k ≠ 6 → q k = 0) : ∃ h' M, f_sc_load_L31 sm_N 0 0 h0 = f_sc_load_L70 0 (nI M) h' ∧ ((∃ u' q' w' i' Z D F R N K A, f_mo_readPlant_L32 sm_N 114 (n_rr g u q w) = some (1, n_rr g u' q' w') ∧ u' 23 = nI M ∧ (∀ k, k ≤ 9 ∨ k = 15 ∨ k = 16 → u' k = u k) ∧ n_G p h0 i' h' ∧ n_IT Z D F R N K A p h' q') ∨ ∃ u' q' w', f_mo_readPlant_L32 sm_N 114 (n_rr g u q w) = some (0, n_rr g u' q' w') ∧ n_bad p h0 h' u u') := by
  obtain ⟨τ, W, s, K0, nx⟩ := TA.unf
  obtain ⟨h1, h2, h3, h4, h5, h6⟩ := hu
  have hT := B.2.1
  exact n_items B RB 1000 0 0 0 false h0 u q w 1 0 0 0 0 0 0 (by omega) ⟨τ, W, s, G0, K0, nx, h1, ⟨0, Nat.zero_le _, Nat.zero_le _, h2⟩, h3⟩ (n_IT.init pl b0 b5 b6 bq) (Nat.zero_le _) (Nat.zero_le _) (by rw [f4, h4]) (by rw [f5, h5]) h6 (Nat.zero_le _) (fun _ => ⟨rfl, rfl, rfl, rfl, rfl, rfl⟩) sm_N sm_N (by unfold sm_N; omega) (by unfold sm_N; omega)
-- the row of the reference when it begins to read
def n_u8 (u : Nat → Int32) (L : Nat) : Nat → Int32 := upd (upd (upd (upd (upd (upd (upd (upd u 11 (nI L)) 15 0) 16 (-1)) 10 0) 12 (-1)) 23 0) 21 0) 22 0
theorem n_u8_ok : (n_u8 u L 11 = nI L ∧ n_u8 u L 10 = 0 ∧ n_u8 u L 12 = -1 ∧ n_u8 u L 21 = 0 ∧ n_u8 u L 22 = 0 ∧ n_u8 u L 23 = 0) ∧ n_u8 u L 15 = 0 ∧ n_u8 u L 16 = -1 ∧ ∀ k, k ≤ 9 → n_u8 u L k = u k := by
  unfold n_u8
  refine ⟨⟨?_, ?_, ?_, ?_, ?_, ?_⟩, ?_, ?_, fun k hk => ?_⟩
  · rw [p_ud_off (by decide), p_ud_off (by decide), p_ud_off (by decide), p_ud_off (by decide), p_ud_off (by decide), p_ud_off (by decide), p_ud_off (by decide), p_ud_at]
  · rw [p_ud_off (by decide), p_ud_off (by decide), p_ud_off (by decide), p_ud_off (by decide), p_ud_at]
  · rw [p_ud_off (by decide), p_ud_off (by decide), p_ud_off (by decide), p_ud_at]
  · rw [p_ud_off (by decide), p_ud_at]
  · rw [p_ud_at]
  · rw [p_ud_off (by decide), p_ud_off (by decide), p_ud_at]
  · rw [p_ud_off (by decide), p_ud_off (by decide), p_ud_off (by decide), p_ud_off (by decide), p_ud_off (by decide), p_ud_off (by decide), p_ud_at]
  · rw [p_ud_off (by decide), p_ud_off (by decide), p_ud_off (by decide), p_ud_off (by decide), p_ud_off (by decide), p_ud_at]
  · rw [p_ud_off (by omega), p_ud_off (by omega), p_ud_off (by omega), p_ud_off (by omega), p_ud_off (by omega), p_ud_off (by omega), p_ud_off (by omega), p_ud_off (by omega)]
-- the reference's load, up to its items
theorem n_mload {B : Nat} (hB : h 114 9 = nI B) (hL : L ≤ B) (hB9 : B ≤ 900) : ∃ q', (q' 0 = 1 ∧ q' 5 = 50 ∧ q' 6 = 10 ∧ ∀ k, k < 1268 → k ≠ 0 → k ≠ 5 → k ≠ 6 → q' k = 0) ∧ ∀ r u2 q2 w2, f_mo_readPlant_L32 sm_N 114 (n_rr h (n_u8 (h 114) L) q' (h 121)) = some (r, n_rr h u2 q2 w2) → f_mo_load 114 (nI L) h = if r = 0 then some (-4, n_rr h (upd u2 9 0) q2 w2) else f_mo_load_L49 sm_N 114 0 (n_rr h (upd u2 9 0) q2 w2) := by
  obtain ⟨q', a1, a2⟩ := n_clear (g := h) (u := n_u8 (h 114) L) (q := h 116) (w := h 121)
  refine ⟨q', a2, fun r u2 q2 w2 hr => ?_⟩
  obtain ⟨u0, hu0⟩ : ∃ u0, u0 = h 114 := ⟨_, rfl⟩
  obtain ⟨q0, hq0⟩ : ∃ q0, q0 = h 116 := ⟨_, rfl⟩
  obtain ⟨w0, hw0⟩ : ∃ w0, w0 = h 121 := ⟨_, rfl⟩
  have self := n_rr_self h
  rw [← hu0, ← hq0, ← hw0] at self
  have RP : f_mo_readPlant 114 (n_rr h (upd (upd (upd u0 11 (nI L)) 15 0) 16 (-1)) q0 w0) = some (r, n_rr h u2 q2 w2) := by
    unfold f_mo_readPlant
    rw [n_u114]
    refine w_lt ?_
    rw [n_u114]
    refine w_lt ?_
    rw [n_u114]
    refine w_lt ?_
    rw [n_u114]
    refine w_lt ?_
    rw [n_u114]
    refine w_lt ?_
    rw [← hu0, ← hq0, ← hw0] at a1
    refine w_bd (show f_mo_clearPlan (114 + 2) _ = some _ from a1) ?_
    rw [← hu0, ← hw0] at hr
    exact hr
  have E0 : f_mo_in (nI L) 0 (h 114 9) h = some (1, h) := by
    rw [e_in, hB, decide_eq_true ⟨nI_pos' (by omega), nI_le hL (by omega)⟩]
    rfl
  have E1 : f_mo_load 114 (nI L) h = sm_b2 (f_mo_readPlant 114 (sm_up (sm_up (sm_up h 114 11 (nI L)) 114 15 0) 114 16 (-1))) fun r11 g12 => sm_let (sm_up g12 114 9 0) fun g14 => if r11 = 0 then (some ((-4), g14)) else (f_mo_load_L49 sm_N 114 0 g14) := by
    unfold f_mo_load
    refine w_b2 E0 ?_
    rw [if_neg (show ¬ (1 : Int32) = 0 by decide)]
    refine w_lt ?_
    refine w_lt ?_
    refine w_lt ?_
    rfl
  have E2 : sm_up (sm_up (sm_up h 114 11 (nI L)) 114 15 0) 114 16 (-1) = n_rr h (upd (upd (upd u0 11 (nI L)) 15 0) 16 (-1)) q0 w0 := by
    have : sm_up (sm_up (sm_up (n_rr h u0 q0 w0) 114 11 (nI L)) 114 15 0) 114 16 (-1) = n_rr h (upd (upd (upd u0 11 (nI L)) 15 0) 16 (-1)) q0 w0 := by rw [n_u114, n_u114, n_u114]
    rw [self] at this
    exact this
  rw [E1, E2]
  refine w_b2 RP ?_
  rw [n_u114]
  refine w_lt ?_
  rfl
end n_lod
