-- LOAD: ALL ITEMS, both sides
section n_pln
variable {b : Nat → Nat} {L T p : Nat} {g h0 : sm_H}
theorem n_L31E {c s : Nat} {h : sm_H} (X : n_E p h0 c s h) (n : Nat) (a2 : Int32) : f_sc_load_L31 (n + 1) 0 a2 h = f_sc_load_L70 0 a2 h := by
  show (if 900 ≤ a2 then f_sc_load_L70 0 a2 h else sm_b2 (f_re_expectsItem 17 h) _) = _
  by_cases z : (900 : Int32) ≤ a2
  · rw [if_pos z]
  · rw [if_neg z]
    refine w_b2 (n_expectsE X) ?_
    rw [if_pos rfl]
theorem n_items (B : n_B0 b L T p h0) (RB : n_RB b L g) : ∀ d m i e le h u q w Z D F R N K A, T - i < d → n_SS b L T p h0 i e le h u → n_IT Z D F R N K A p h q → 3 * K ≤ e → A ≤ 8 * N → h 17 4 = u 21 → h 17 5 = u 22 → u 23 = nI m → 2 * m ≤ i → (m = 0 → D = 0 ∧ F = 0 ∧ R = 0 ∧ N = 0 ∧ K = 0 ∧ A = 0) → ∀ n1 n2, d ≤ n1 → d ≤ n2 → ∃ h' M, f_sc_load_L31 n1 0 (nI m) h = f_sc_load_L70 0 (nI M) h' ∧ ((∃ u' q' w' i' Z D F R N K A, f_mo_readPlant_L32 n2 114 (n_rr g u q w) = some (1, n_rr g u' q' w') ∧ u' 23 = nI M ∧ (∀ k, k ≤ 9 ∨ k = 15 ∨ k = 16 → u' k = u k) ∧ n_G p h0 i' h' ∧ n_IT Z D F R N K A p h' q') ∨ ∃ u' q' w', f_mo_readPlant_L32 n2 114 (n_rr g u q w) = some (0, n_rr g u' q' w') ∧ n_bad p h0 h' u u') := by
  have n1 : ¬ (1 : Int32) = 0 := by decide
  intro d
  induction d with
  | zero => intro m i e le h u q w Z D F R N K A hd; omega
  | succ d ih =>
    intro m i e le h u q w Z D F R N K A hd Y C bud hA f4 f5 h23 hm h00 n1' n2 hn1 hn2
    obtain ⟨n2, rfl⟩ : ∃ k, n2 = k + 1 := ⟨n2 - 1, by omega⟩
    obtain ⟨n1', rfl⟩ : ∃ k, n1' = k + 1 := ⟨n1' - 1, by omega⟩
    obtain ⟨τ, W, s, Y1⟩ := id Y
    obtain ⟨G, Kt, nx, U⟩ := id Y1
    have hi := n_tk_lt B Kt
    obtain ⟨e19, e20, e21, e22, e23⟩ := G.row B
    obtain ⟨u1, p1, p2, p3, p4, p5, p6, -⟩ := n_peek (g := g) (q := q) (w := w) RB Kt U
    have Y2 : n_SS b L T p h0 i e le h u1 := ⟨τ, W, s, G, Kt, nx, p6⟩
    have hu1 : ∀ k, k ≤ 9 ∨ k = 15 ∨ k = 16 ∨ k = 21 ∨ k = 22 ∨ k = 23 → u1 k = u k := fun k hk => p2 k (by omega) (by omega) (by omega) (by omega) (by omega) (by omega)
    have m9 : ¬ (900 : Int32) ≤ nI m := nI_ge (b := 900) (by omega) (by omega)
    have hL := B.1
    have Ex : ∀ x : Int32, (if nI τ = 0 then (0 : Int32) else 1) = x → f_re_expectsItem 17 h = some (x, h) := by
      intro x hx
      rw [← hx]
      unfold f_re_expectsItem f_re_expectsItem_L30
      rw [G.2.1, if_pos rfl, show h (17 + 1) 7 = nI i from G.2.2.2.1, sm_gd_t (sm_inb_nI (k := i) (n := 901) (by omega) (by omega)), nI_clamp (n := i) (by omega), show h (17 + 1 + 2) i = nI τ by rw [show h (17 + 1 + 2) = h0 20 from e20]; exact Kt.2.2.2.2.1]
      by_cases y : nI τ = 0
      · rw [if_pos y, if_pos y]
        rfl
      · rw [if_neg y, if_neg y]
        rfl
    by_cases ht : τ = 0
    · have hs := (Kt.2.2.2.2.2.2.1 ht).1
      have E0 := Ex 0 (by rw [ht, if_pos (show nI 0 = 0 from rfl)])
      refine ⟨h, m, ?_, Or.inl ⟨u1, q, w, i, Z, D, F, R, N, K, A, ?_, by rw [hu1 23 (by omega)]; exact h23, fun k hk => hu1 k (by omega), G, C⟩⟩
      · show (if 900 ≤ nI m then f_sc_load_L70 0 (nI m) h else sm_b2 (f_re_expectsItem 17 h) _) = _
        rw [if_neg m9]
        refine w_b2 E0 ?_
        rw [if_pos rfl]
      · show sm_b2 (f_mo_peek 114 (n_rr g u q w)) _ = _
        refine w_b2 p1 ?_
        rw [if_pos (show n_ba b L s = -1 by unfold n_ba; rw [if_neg (by omega)])]
    · have ht1 : 1 ≤ τ := Nat.one_le_iff_ne_zero.mpr ht
      obtain ⟨hs, hT⟩ := Kt.2.2.2.2.2.2.2.1 ht1
      have E1 := Ex 1 (by rw [if_neg (show ¬ nI τ = 0 from nI_ne0 (by omega) (Nat.lt_of_le_of_lt Kt.2.2.2.2.2.1 (by decide)))])
      have nb : ¬ n_ba b L s = -1 := by
        unfold n_ba
        rw [if_pos hs]
        intro y
        have := congrArg Int32.toInt y
        have b256 := (RB.2 s hs).1
        rw [nI_toInt (by omega), show (-1 : Int32).toInt = -1 by decide] at this
        omega
      obtain ⟨fl, hfl, hfe⟩ : ∃ fl : Int32, ((m = 0 ∧ fl = 1) ∨ (1 ≤ m ∧ fl = 0)) ∧ f_sc_load_L31 (n1' + 1) 0 (nI m) h = f_sc_load_L61 (f_sc_load_L31 n1') 0 (nI m) fl 17 h := by
        by_cases y : m = 0
        · refine ⟨1, Or.inl ⟨y, rfl⟩, ?_⟩
          show (if 900 ≤ nI m then f_sc_load_L70 0 (nI m) h else sm_b2 (f_re_expectsItem 17 h) _) = _
          rw [if_neg m9]
          refine w_b2 E1 ?_
          rw [if_neg n1, if_pos (show nI m = 0 by rw [y]; rfl)]
        · refine ⟨0, Or.inr ⟨by omega, rfl⟩, ?_⟩
          show (if 900 ≤ nI m then f_sc_load_L70 0 (nI m) h else sm_b2 (f_re_expectsItem 17 h) _) = _
          rw [if_neg m9]
          refine w_b2 E1 ?_
          rw [if_neg n1, if_neg (show ¬ nI m = 0 from nI_ne0 (by omega) (by omega))]
      obtain ⟨h2, a1, a2⟩ := n_item (fl := fl) (w := w) B RB Y2 C bud hA (by rw [hu1 21 (by omega)]; exact f4) (by rw [hu1 22 (by omega)]; exact f5) (by rw [hu1 23 (by omega)]; exact h23) (by omega) hfl h00
      have F1 : f_sc_load_L31 (n1' + 1) 0 (nI m) h = f_sc_load_L31 n1' 0 (nI (m + 1)) h2 := by
        rw [hfe]
        unfold f_sc_load_L61
        refine w_bd a1 ?_
        rw [nI_1]
        rfl
      rcases a2 with ⟨u2, q2, w2, i2, e2, le2, Z2, D2, F2, R2, N2, K2, A2, b1, b2, b3, b4, b5, b6, b7, b8, b9⟩ | ⟨u2, q2, w2, b1, b2⟩
      · rcases b1 with ⟨-, y⟩ | ⟨G1, y1, y2⟩
        · exact absurd y n1
        · have Fr : f_mo_readPlant_L32 (n2 + 1) 114 (n_rr g u q w) = f_mo_readPlant_L32 n2 114 (n_rr g (upd u2 23 (nI (m + 1))) q2 w2) := by
            obtain ⟨Rr, hR⟩ : ∃ Rr, Rr = f_mo_readPlant_L32 n2 114 (n_rr g (upd u2 23 (nI (m + 1))) q2 w2) := ⟨_, rfl⟩
            rw [← hR]
            show sm_b2 (f_mo_peek 114 (n_rr g u q w)) _ = _
            refine w_b2 p1 ?_
            rw [if_neg nb]
            refine w_b2 y1 ?_
            rw [if_neg n1]
            refine w_b2 y2 ?_
            rw [if_neg n1, n_r114, b2 23 (by omega), hu1 23 (by omega), h23, nI_1, n_u114]
            exact hR.symm
          have hi2 := n_SS.lt b6
          obtain ⟨h3, M, c1, c2⟩ := ih (m + 1) i2 e2 le2 h2 (upd u2 23 (nI (m + 1))) q2 w2 Z2 D2 F2 R2 N2 K2 A2 (by omega) (b6.uf ⟨p_ud_off (by decide), p_ud_off (by decide), p_ud_off (by decide)⟩) b7 b4 b5 (by rw [p_ud_off (by decide)]; exact b8) (by rw [p_ud_off (by decide)]; exact b9) p_ud_at (by omega) (fun y => by omega) n1' n2 (by omega) (by omega)
          refine ⟨h3, M, by rw [F1]; exact c1, ?_⟩
          rw [Fr]
          have hk : ∀ k, k ≤ 9 ∨ k = 15 ∨ k = 16 → upd u2 23 (nI (m + 1)) k = u k := fun k hk => by rw [p_ud_off (by omega), b2 k (by omega), hu1 k (by omega)]
          rcases c2 with ⟨u', q', w', i', Z', D', F', R', N', K', A', d1, d2, d3, d4, d5⟩ | ⟨u', q', w', d1, c, s', d2, d3, d4, d5⟩
          · exact Or.inl ⟨u', q', w', i', Z', D', F', R', N', K', A', d1, d2, fun k y => (d3 k y).trans (hk k y), d4, d5⟩
          · exact Or.inr ⟨u', q', w', d1, c, s', d2, d3, d4, fun k y => (d5 k y).trans (hk k (Or.inl y))⟩
      · obtain ⟨c, s', x1, x2, x3, x4⟩ := b2
        obtain ⟨n1', rfl⟩ : ∃ k, n1' = k + 1 := ⟨n1' - 1, by omega⟩
        refine ⟨h2, m + 1, by rw [F1]; exact n_L31E x1 n1' _, Or.inr ⟨u2, q2, w2, ?_, c, s', x1, x2, x3, fun k y => (x4 k y).trans (hu1 k (by omega))⟩⟩
        show sm_b2 (f_mo_peek 114 (n_rr g u q w)) _ = _
        refine w_b2 p1 ?_
        rw [if_neg nb]
        rcases b1 with ⟨y, -⟩ | ⟨G1, y1, y2⟩
        · refine w_b2 y ?_
          rw [if_pos rfl]
        · refine w_b2 y1 ?_
          rw [if_neg n1]
          refine w_b2 y2 ?_
          rw [if_pos rfl]
end n_pln
