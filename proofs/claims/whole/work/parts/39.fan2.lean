-- A TICK: one fan
section p_fan2
variable {s p Y Z D F R t : Nat} {h g : sm_H} {q : Nat → Int32}
theorem t_fan (hY : Y ≤ Z) (B : p_B Y s p Z D F R t h q (g 115)) (ht : t + 1 < 2 ^ 30) {f : Nat} (hf : f < F) (cm : p_cm (h 109 (16 + f)) (g 127 f)) {m : Int32} (hm : ∀ j, j < 32 → sm_bt m j = (decide (j < D) && decide (q (42 + 7 * j) = g 115 (12 + 4 * j)))) (n : Nat) :
    ∃ h' q' t', f_en_runFans_L13 (n + 1) 106 s p m (nI f) h = f_en_runFans_L13 n 106 s p m (nI (f + 1)) h' ∧ f_mo_moveFan 114 (nI f) (sm_row g 117 q) = some (sm_row g 117 q') ∧ t' ≤ t + 2 ∧ p_B Y s p Z D F R t' h' q' (g 115) ∧ p_fh s h h' ∧ q' 0 = q 0 ∧ ∀ d, d < D → q' (42 + 7 * d) = q (42 + 7 * d) := by
  obtain ⟨V, S, K⟩ := id B
  have hs := V.2.1
  have hp := V.1
  have C : p_CT Z D F R := V.2.2.2.1
  obtain ⟨c1, c2, c3, c4, c5⟩ := id C
  obtain ⟨i1, i2⟩ := V.isP
  obtain ⟨a1, a2, a3, a4, a5, a6, a7, a8, gg, ww, w1, w2, w3, w4, w5, w6, w7⟩ := V.2.2.2.2.1
  obtain ⟨kk, vv, r, -, -, -, r1, r2, ek1, ek2, -, -, er1, er2, el, -⟩ := V.2.2.2.2.2.2.1 f hf
  obtain ⟨⟨L, r', hL, hr', hLr, hr30⟩, -, -⟩ := K.2.2.1 f hf
  have err : r' = r := by
    rw [er2] at hr'
    exact ((nI_eq (by omega) (by omega)).mp hr').symm
  subst err
  have hbk : q (155 + 6 * f) = sm_b2i (sm_bt (h s 7) (16 + f)) := S.2.1 0 7 (16 + f) (155 + 6 * f) (w_brk hf)
  have gi : sm_inb (nI (16 + f)) 23 = true := sm_inb_nI (by omega) (by omega)
  have ci : (nI (16 + f)).toNatClampNeg = 16 + f := nI_clamp (by omega)
  have gf : sm_inb (nI f) 6 = true := sm_inb_nI (by omega) (by omega)
  have cf : (nI f).toNatClampNeg = f := nI_clamp (by omega)
  have e16 : (16 : Int32) + nI f = nI (16 + f) := nI_add 16 f
  have hf6 : f < 6 := by omega
  have r115 : ∀ q', sm_row g 117 q' 115 = g 115 := fun q' => p_row_off (by omega)
  have r127 : ∀ q', sm_row g 117 q' 127 = g 127 := fun q' => p_row_off (by omega)
  have r117 : ∀ q', sm_row g 117 q' 117 = q' := fun q' => p_row_at
  have lr : ∀ a b : Nat, a < 100 → b < 100 → (nI a = nI b) = (a = b) := fun a b ha hb => propext (nI_eq (by omega) (by omega))
  obtain ⟨b, b1, b2⟩ := t_way (h := h) (g := sm_row g 117 q) hp V.2.2.1 c3 (by rw [r115]; exact a4) hf6 (by rw [r115, ek1, ek2]) (by rw [r115]; exact el) (m := m) (fun j hj => by
    rw [hm j hj]
    unfold p_op
    rw [r117, r115])
  -- whether it is due, whether it goes up
  obtain ⟨due, hdue⟩ : ∃ due : Bool, due = (decide (h 109 (16 + f) = 1) && b) := ⟨_, rfl⟩
  obtain ⟨up, hup⟩ : ∃ up : Bool, up = (due && !sm_bt (h s 7) (16 + f)) := ⟨_, rfl⟩
  have cls1 : f_en_runFans_L13 (n + 1) 106 s p m (nI f) h = f_en_runFans_L85 (f_en_runFans_L13 n) 106 s p m (nI f) (nI (16 + f)) (sm_b2i due) (sm_b2i up) (nI f) s h := by
    have l58 : ∀ x : Bool, x = due → f_en_runFans_L58 (f_en_runFans_L13 n) 106 s p m (nI f) (nI (16 + f)) (sm_b2i x) h = f_en_runFans_L85 (f_en_runFans_L13 n) 106 s p m (nI f) (nI (16 + f)) (sm_b2i due) (sm_b2i up) (nI f) s h := by
      intro x hx
      subst hx
      unfold f_en_runFans_L58 f_en_runFans_L84
      rw [e_has _ _ _ (by omega)]
      simp only [sm_b2, Option.bind_some]
      cases x
      · rw [if_pos s_bf, hup]
        rfl
      · rw [if_neg s_bt, hup]
        cases sm_bt (h s 7) (16 + f)
        · rw [if_pos s_bf]
          rfl
        · rw [if_neg s_bt]
          rfl
    show (if h p 2 ≤ nI f then _ else _) = _
    rw [a5, if_neg (nI_ge hf (by omega))]
    simp only [sm_let, e16, gi, s_true, ci, Nat.reduceAdd, b1, sm_b2, Option.bind_some]
    by_cases z : h 109 (16 + f) = 1
    · rw [if_pos z]
      rw [decide_eq_true z, Bool.true_and] at hdue
      cases b
      · rw [if_pos s_bf]
        exact l58 false hdue.symm
      · rw [if_neg s_bt]
        exact l58 true hdue.symm
    · rw [if_neg z]
      rw [decide_eq_false z, Bool.false_and] at hdue
      exact l58 false hdue.symm
  have cmd : (g 127 f = 1) = (h 109 (16 + f) = 1) := by
    rcases cm with ⟨x, y⟩ | ⟨x, y⟩ <;> rw [x, y]
    decide
  have ref1 : f_mo_moveFan 114 (nI f) (sm_row g 117 q) = f_mo_moveFan_L70 114 (nI f) (nI r') (nI L) (sm_b2i due) (nI (if up = true then (if L = r' then r' else L + 1) else L - 1)) (sm_row g 117 q) := by
    have l63 : up = false → ∀ g', f_mo_moveFan_L63 114 (nI f) (nI r') (nI L) (sm_b2i due) g' = f_mo_moveFan_L70 114 (nI f) (nI r') (nI L) (sm_b2i due) (nI (if up = true then (if L = r' then r' else L + 1) else L - 1)) g' := by
      intro hu g'
      unfold f_mo_moveFan_L63
      rw [s_greater, hu, if_neg (show ¬ false = true by decide)]
      simp only [sm_b2, Option.bind_some]
      congr 1
      cases L with
      | zero => decide
      | succ L =>
        rw [nI_pred, Nat.add_sub_cancel]
        cases L with
        | zero => rfl
        | succ L => rw [if_pos (show (0 : Int32) < nI (L + 1) from nI_lt (a := 0) (by omega) (by omega))]
    have l37 : ∀ x : Bool, x = due → f_mo_moveFan_L37 114 (nI f) (nI r') (nI L) (sm_b2i x) (sm_row g 117 q) = f_mo_moveFan_L70 114 (nI f) (nI r') (nI L) (sm_b2i due) (nI (if up = true then (if L = r' then r' else L + 1) else L - 1)) (sm_row g 117 q) := by
      intro x hx
      subst hx
      unfold f_mo_moveFan_L37
      simp only [sm_b2, Option.bind_some, e_fI1 hf6, r117, hbk]
      cases x
      · rw [if_pos s_bf]
        exact l63 (by rw [hup]; rfl) _
      · rw [if_neg s_bt]
        cases hb : sm_bt (h s 7) (16 + f)
        · have hu : up = true := by rw [hup, hb]; rfl
          rw [if_pos s_bf, s_lesser, hu, if_pos (show true = true from rfl)]
          simp only [Option.bind_some]
          congr 1
          rw [nI_1]
          by_cases z : L = r'
          · rw [if_pos z, if_neg (nI_nlt (by omega) (by omega))]
          · rw [if_neg z]
            by_cases y : L + 1 = r'
            · rw [y, if_neg (nI_nlt (by omega) (by omega))]
            · rw [if_pos (nI_lt (by omega) (by omega))]
        · rw [if_neg s_bt]
          exact l63 (by rw [hup, hb]; rfl) _
    unfold f_mo_moveFan f_mo_moveFan_L36
    simp only [sm_b2, Option.bind_some, e_fO2 hf6, e_fI0 hf6, r115, r117, r127, er2, hL, gf, s_true, cf, Nat.reduceAdd, b2]
    by_cases z : h 109 (16 + f) = 1
    · rw [if_pos (by rw [cmd]; exact z)]
      rw [decide_eq_true z, Bool.true_and] at hdue
      cases b
      · rw [if_pos s_bf]
        exact l37 false hdue.symm
      · rw [if_neg s_bt]
        exact l37 true hdue.symm
    · rw [if_neg (by rw [cmd]; exact z)]
      rw [decide_eq_false z, Bool.false_and] at hdue
      exact l37 false hdue.symm
  obtain ⟨h1, q1, t1, L', e1, e2, eL, l1, B1, f1, hL1, k1⟩ := t_level hY B (by omega) hf hL er2 hLr r1 r2 up (sm_b2i due)
  have hL2 : L' ≤ r' := by
    rw [eL]
    split
    · split <;> omega
    · omega
  obtain ⟨V1, S1, K1⟩ := id B1
  have hp1 : h1 (s + 3) (16 + f) = nI L' := by rw [← hL1]; exact S1.1 3 (16 + f) _ (q_lev hf)
  obtain ⟨late, hlate⟩ : ∃ late : Bool, late = (due && !decide (L' = r')) := ⟨_, rfl⟩
  obtain ⟨h3, q3, t3, u1, u2, u3, u4, u5, u6, u7⟩ := t_sup hY B1 (u := 16 + f) (by omega) (q_ftm hf) (w_ftr hf) (by omega) (nI r' + nI ww) 2 (nI f) late
  have er3 : h1 (p + 2) (16 + f) = nI r' := by rw [f1 _ (by omega)]; exact er1
  refine ⟨h3, q3, t3, ?_, ?_, by omega, u3, f1.trans u4, ?_, fun d hd => ?_⟩
  · rw [cls1]
    unfold f_en_runFans_L85 f_en_runFans_L114
    rw [e1]
    simp only [Option.bind_some, gi, s_true, ci, er3, hp1]
    have l115 : f_en_runFans_L115 (f_en_runFans_L13 n) 106 s p m (nI f) (nI (16 + f)) (sm_b2i late) h1 = f_en_runFans_L13 n 106 s p m (nI (f + 1)) h3 := by
      have x2 : h1 p 5 = nI ww := by rw [f1 _ (by omega)]; exact w6
      unfold f_en_runFans_L115
      simp only [gi, s_true, ci, er3, x2, u1, Option.bind_some, sm_let, nI_1]
    cases due
    · rw [if_pos s_bf]
      rw [hlate] at l115
      exact l115
    · rw [if_neg s_bt]
      by_cases z : L' = r'
      · rw [if_pos (nI_le (by omega) (by omega))]
        rw [hlate, decide_eq_true z] at l115
        exact l115
      · rw [if_neg (nI_ge (by omega) (by omega))]
        rw [hlate, decide_eq_false z] at l115
        exact l115
  · rw [ref1, e2]
    unfold f_mo_moveFan_L115 f_mo_moveFan_L126
    have l126 : late = false → (Option.bind (f_mo_putFan 114 (nI f) 4 0 (sm_row g 117 q1)) fun g54 => some g54) = some (sm_row g 117 q3) := fun z => by
      rw [e_pF4 hf6, u6 z]
      rfl
    cases due
    · rw [if_pos s_bf]
      exact l126 hlate
    · rw [if_neg s_bt]
      by_cases z : L' = r'
      · rw [if_pos (show nI L' = nI r' by rw [z])]
        exact l126 (by rw [hlate, decide_eq_true z]; rfl)
      · have hl : late = true := by rw [hlate, decide_eq_false z]; rfl
        obtain ⟨u8, u9⟩ := u7 hl
        rw [if_neg (by rw [lr _ _ (by omega) (by omega)]; exact z)]
        simp only [sm_b2, e_fI4 hf6, r117, Option.bind_some, e_pF4 hf6, p_ud_at, s_i6, s_c6, Nat.reduceAdd, r115, w7, e_fI5 hf6]
        rw [p_ud_off (k := 158 + 6 * f) (j := 159 + 6 * f) (by omega)]
        by_cases x : q1 (158 + 6 * f) + 1 = nI r' + nI ww
        · rw [if_pos x]
          by_cases v : q1 (159 + 6 * f) = 0
          · obtain ⟨nn, n1, n2, n3⟩ := u8 x v
            rw [if_pos v, e_pF5 hf6]
            simp only [Option.bind_some]
            rw [e_record n1 n2, n3]
            rfl
          · rw [if_neg v, u9 (fun y => v y.2)]
        · rw [if_neg x, u9 (fun y => x y.1)]
  · rw [u5 0 (by omega) (by omega) (by omega) (by omega), k1 0 (by omega) (by omega) (by omega)]
  · rw [u5 _ (by omega) (by omega) (by omega) (by omega), k1 _ (by omega) (by omega) (by omega)]
end p_fan2
