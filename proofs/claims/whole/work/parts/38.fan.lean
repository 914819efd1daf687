-- A TICK: fans
theorem s_bf : sm_b2i false = 0 := rfl
theorem s_bt : ¬ sm_b2i true = 0 := by decide
section p_fan
variable {s p Y Z D F R t : Nat} {h g : sm_H} {q w : Nat → Int32}
theorem p_RK.lev (K : p_RK Z D F s h q w) (C : p_CT Z D F R) {d P T : Nat} (hd : d < F) (hT : w (76 + 4 * d) = nI T) (hP : P ≤ T) (hT30 : T ≤ 30) : p_RK Z D F s h (upd q (154 + 6 * d) (nI P)) w := by
  obtain ⟨a1, a3, a4, a5, a6, a7⟩ := K
  obtain ⟨c1, c2, c3, c4, c5⟩ := C
  refine ⟨⟨by rw [p_ud_off (by omega)]; exact a1.1, by rw [p_ud_off (by omega)]; exact a1.2⟩, fun e he => ?_, fun f hf => ?_, a5, a6, by rw [p_ud_off (by omega)]; exact a7⟩
  · rw [p_ud_off (by omega), p_ud_off (by omega), p_ud_off (by omega)]
    exact a3 e he
  · rw [p_ud_off (k := 154 + 6 * d) (j := 156 + 6 * f) (by omega), p_ud_off (k := 154 + 6 * d) (j := 157 + 6 * f) (by omega)]
    by_cases z : f = d
    · subst z
      rw [p_ud_at]
      exact ⟨⟨P, T, rfl, hT, hP, hT30⟩, (a4 f hf).2⟩
    · rw [p_ud_off (by omega)]
      exact a4 f hf
-- an event is recorded
theorem t_log (hY : Y ≤ Z) (B : p_B Y s p Z D F R t h q w) (ht : t < 2 ^ 30) (c m : Int32) (g : sm_H) : ∃ h' q', f_lo_add (s + 9) (h s 1) c m h = some h' ∧ f_mo_record 114 c m (sm_row g 117 q) = some (sm_row g 117 q') ∧ p_B Y s p Z D F R (t + 1) h' q' w ∧ p_fh s h h' ∧ (∀ k, k < 200 → k ≠ 9 → q' k = q k) ∧ ∀ i, i < s + 9 → h' i = h i := by
  obtain ⟨V, S, K⟩ := B
  have hs := V.2.1
  have C : p_CT Z D F R := V.2.2.2.1
  obtain ⟨n, n1, n2, S3⟩ := S.log C hY (h s 1) c m (S.1 0 1 0 q_time) ht
  have h9 : h (s + 9) 0 = nI t := by
    obtain ⟨-, -, -, nn, l1, -⟩ := S
    exact l1
  refine ⟨_, _, e_loadd ht h9 _ _ _, e_record n1 n2, ⟨V.rows (fun i hi => p_la_row (by omega)) (by rw [p_la_row (by omega)]), S3, (K.lr C n c m).heap (by rw [p_la_row (by omega)]) (fun j hj hb => by rw [p_la_row (by omega)] at hb; exact Or.inl hb)⟩, fun i hi => p_la_row (by omega), fun k k1 k2 => p_lr_off k1 k2, fun i hi => p_la_row (by omega)⟩
theorem t_level (hY : Y ≤ Z) (B : p_B Y s p Z D F R t h q (g 115)) (ht : t < 2 ^ 30) {f L r : Nat} (hf : f < F) (hL : q (154 + 6 * f) = nI L) (hr : g 115 (76 + 4 * f) = nI r) (hLr : L ≤ r) (hr1 : 1 ≤ r) (hr30 : r ≤ 30) (up : Bool) (x : Int32) :
    ∃ h' q' t' L', f_en_changeLevel s (nI f) (sm_b2i up) h = some h' ∧ f_mo_moveFan_L70 114 (nI f) (nI r) (nI L) x (nI (if up = true then (if L = r then r else L + 1) else L - 1)) (sm_row g 117 q) = f_mo_moveFan_L115 114 (nI f) (nI r) x (nI L') (sm_row g 117 q') ∧ L' = (if up = true then (if L = r then r else L + 1) else L - 1) ∧ t' ≤ t + 1 ∧ p_B Y s p Z D F R t' h' q' (g 115) ∧ p_fh s h h' ∧ q' (154 + 6 * f) = nI L' ∧ (∀ k, k < 200 → k ≠ 154 + 6 * f → k ≠ 9 → q' k = q k) := by
  obtain ⟨V, S, K⟩ := id B
  have hs := V.2.1
  have hp := V.1
  have C : p_CT Z D F R := V.2.2.2.1
  obtain ⟨c1, c2, c3, c4, c5⟩ := id C
  obtain ⟨i1, i2⟩ := V.isP
  obtain ⟨kk, vv, r', -, -, -, -, -, -, -, -, -, er1, er2, -⟩ := V.2.2.2.2.2.2.1 f hf
  have er : h (p + 2) (16 + f) = nI r := by rw [er1, ← er2, hr]
  have hlv : h (s + 3) (16 + f) = nI L := by rw [← hL]; exact S.1 3 (16 + f) _ (q_lev hf)
  have gi : sm_inb (nI (16 + f)) 23 = true := sm_inb_nI (by omega) (by omega)
  have ci : (nI (16 + f)).toNatClampNeg = 16 + f := nI_clamp (by omega)
  have e16 : (16 : Int32) + nI f = nI (16 + f) := nI_add 16 f
  have hf6 : f < 6 := by omega
  -- the goal
  obtain ⟨G, hG⟩ : ∃ G, G = if up = true then r else 0 := ⟨_, rfl⟩
  have st : f_en_changeLevel s (nI f) (sm_b2i up) h = f_en_changeLevel_L22 s (nI f) (sm_b2i up) (nI (16 + f)) (nI G) h := by
    unfold f_en_changeLevel
    simp only [sm_let, e16, i1, i2, s_true, gi, ci, er]
    cases up
    · rw [if_pos s_bf, hG]
      rfl
    · rw [if_neg s_bt, hG]
      rfl
  rw [st]
  unfold f_en_changeLevel_L22
  simp only [gi, s_true, ci, hlv]
  by_cases z : L = G
  · have e : (if up = true then (if L = r then r else L + 1) else L - 1) = L := by
      cases up
      · rw [if_neg (by decide)] at hG ⊢
        omega
      · rw [if_pos rfl] at hG ⊢
        rw [if_pos (by omega)]
        omega
    refine ⟨h, q, t, L, if_pos (by rw [z]), ?_, e.symm, by omega, B, fun _ _ => rfl, hL, fun k _ _ _ => rfl⟩
    rw [e]
    unfold f_mo_moveFan_L70 f_mo_moveFan_L98
    rw [e_pF0 hf6, p_ud_id hL]
    simp only [Option.bind_some, if_true]
  · have zz : ¬ nI L = nI G := fun y => z ((nI_eq (by omega) (by cases up <;> simp at hG <;> omega)).mp y)
    obtain ⟨L', hL', hL2, hL3⟩ : ∃ L', L' = (if up = true then (if L = r then r else L + 1) else L - 1) ∧ L' ≤ r ∧ L' ≠ L := by
      refine ⟨_, rfl, ?_⟩
      cases up
      · rw [if_neg (by decide)] at hG ⊢
        omega
      · rw [if_pos rfl] at hG ⊢
        rw [if_neg (by omega)]
        omega
    rw [← hL']
    have B1 : p_B Y s p Z D F R t (sm_up h (s + 3) (16 + f) (nI L')) (upd q (154 + 6 * f) (nI L')) (g 115) := ⟨V.rows (fun i hi => sm_up_ne _ _ _ _ _ (by omega)) (sm_up_off (by omega)), S.cell C hY (nI L') (q_lev hf), (K.lev C hf hr hL2 hr30).heap (sm_up_off (by omega)) (fun j hj hb => by rw [sm_up_off (by omega)] at hb; exact Or.inl hb)⟩
    have f1 : p_fh s h (sm_up h (s + 3) (16 + f) (nI L')) := fun i hi => sm_up_ne _ _ _ _ _ (by omega)
    have cls : (if nI L = nI G then some h else if sm_b2i up = 0 then f_en_changeLevel_L52 s (nI f) (sm_b2i up) (nI (16 + f)) (nI G) (-1) (nI L) (nI (16 + f)) (s + 3) h else f_en_changeLevel_L52 s (nI f) (sm_b2i up) (nI (16 + f)) (nI G) 1 (nI L) (nI (16 + f)) (s + 3) h) = if L' = G then f_lo_add (s + 9) (sm_up h (s + 3) (16 + f) (nI L') s 1) (if up = true then 4 else 5) (nI f) (sm_up h (s + 3) (16 + f) (nI L')) else some (sm_up h (s + 3) (16 + f) (nI L')) := by
      rw [if_neg zz]
      unfold f_en_changeLevel_L52 f_en_changeLevel_L82
      simp only [gi, s_true, ci, sm_let]
      have bd : ∀ x : Option sm_H, (Option.bind x fun g20 => some g20) = x := fun x => by cases x <;> rfl
      simp only [bd]
      have at1 : ∀ v, sm_up h (s + 3) (16 + f) v (s + 3) (16 + f) = v := fun v => p_up_at
      simp only [at1]
      cases up
      · have e : nI L + (-1) = nI L' := by
          rw [if_neg (by decide)] at hL' hG
          have := pk_m1 (L - 1)
          rw [show L - 1 + 1 = L by omega, ← hL'] at this
          exact this
        rw [if_pos s_bf, if_pos s_bf, e, if_neg (show ¬ false = true by decide)]
        by_cases y : L' = G
        · rw [if_pos (show nI L' = nI G by rw [y]), if_pos y]
        · rw [if_neg (fun x => y ((nI_eq (by omega) (by simp at hG; omega)).mp x)), if_neg y]
      · have e : nI L + 1 = nI L' := by
          rw [if_pos rfl] at hL' hG
          rw [if_neg (by omega)] at hL'
          rw [nI_1, hL']
        rw [if_neg s_bt, if_neg s_bt, e, if_pos (show true = true from rfl)]
        by_cases y : L' = G
        · rw [if_pos (show nI L' = nI G by rw [y]), if_pos y]
        · rw [if_neg (fun x => y ((nI_eq (by omega) (by simp at hG; omega)).mp x)), if_neg y]
    have ref : f_mo_moveFan_L70 114 (nI f) (nI r) (nI L) x (nI L') (sm_row g 117 q) = if L' = G then Option.bind (f_mo_record 114 (if up = true then 4 else 5) (nI f) (sm_row g 117 (upd q (154 + 6 * f) (nI L')))) fun g => f_mo_moveFan_L115 114 (nI f) (nI r) x (nI L') g else f_mo_moveFan_L115 114 (nI f) (nI r) x (nI L') (sm_row g 117 (upd q (154 + 6 * f) (nI L'))) := by
      have ne : ¬ nI L' = nI L := fun y => hL3 ((nI_eq (by omega) (by omega)).mp y)
      unfold f_mo_moveFan_L70
      rw [e_pF0 hf6]
      simp only [Option.bind_some]
      rw [if_neg ne]
      have l98 : ∀ g', f_mo_moveFan_L98 114 (nI f) (nI r) (nI L) x (nI L') g' = if nI L' = 0 then Option.bind (f_mo_record 114 5 (nI f) g') fun g => f_mo_moveFan_L115 114 (nI f) (nI r) x (nI L') g else f_mo_moveFan_L115 114 (nI f) (nI r) x (nI L') g' := fun g' => by
        unfold f_mo_moveFan_L98
        rw [if_neg ne]
      simp only [l98]
      cases up
      · rw [if_neg (by decide)] at hL' hG
        rw [if_neg (show ¬ nI L' = nI r from fun y => by
          have := (nI_eq (by omega) (by omega)).mp y
          omega), if_neg (show ¬ false = true by decide)]
        by_cases y : L' = G
        · rw [if_pos y, if_pos (show nI L' = (0 : Int32) by rw [y, hG]; rfl)]
        · rw [if_neg y, if_neg (nI_ne0 (by omega) (by omega))]
      · rw [if_pos rfl] at hL' hG
        rw [if_neg (by omega)] at hL'
        have n0 : ¬ nI L' = 0 := nI_ne0 (by omega) (by omega)
        rw [if_pos (show true = true from rfl)]
        by_cases y : L' = G
        · rw [if_pos (show nI L' = nI r by rw [y, hG]), if_pos y]
          congr 1
          funext g'
          rw [if_neg n0]
        · rw [if_neg (show ¬ nI L' = nI r from fun x => y (by rw [hG]; exact (nI_eq (by omega) (by omega)).mp x)), if_neg y, if_neg n0]
    rw [cls, ref]
    by_cases y : L' = G
    · rw [if_pos y, if_pos y]
      obtain ⟨h', q', e1, e2, e3, e4, e5, e6⟩ := t_log hY B1 ht (if up = true then 4 else 5) (nI f) g
      refine ⟨h', q', t + 1, L', e1, ?_, rfl, by omega, e3, f1.trans e4, ?_, fun k k1 k2 k3 => ?_⟩
      · rw [e2]
        rfl
      · rw [e5 _ (by omega) (by omega), p_ud_at]
      · rw [e5 k k1 k3, p_ud_off k2]
    · rw [if_neg y, if_neg y]
      exact ⟨_, _, t, L', rfl, rfl, rfl, by omega, B1, f1, p_ud_at, fun k k1 k2 k3 => p_ud_off k2⟩
end p_fan
