-- TRIALS: until the smoke is thin
section p_un
variable {p Z D F R j : Nat} {h g : sm_H}
theorem i_max (l a b : Int32) : l ≤ (if a < b then b else a) ↔ (l ≤ a ∨ l ≤ b) := by
  by_cases z : a < b
  · rw [if_pos z]
    exact ⟨Or.inr, fun y => y.elim (fun x => Int32.le_of_lt (Int32.lt_of_le_of_lt x z)) id⟩
  · rw [if_neg z]
    exact ⟨Or.inl, fun y => y.elim id (fun x => Int32.le_trans x (Int32.not_lt.mp z))⟩
theorem t_thick {h1 g1 : sm_H} {t : Nat} (V : p_V 53 p Z D F R h1 (g1 115)) (S : p_ST Z Z D F R 53 h1 (g1 117) t) {l : Int32} (hl : 1 ≤ l) : ∃ M b, f_st_thickestSmoke 53 h1 = some (M, h1) ∧ f_mo_isBelow 114 0 (nI Z - 1) l g1 = some (sm_b2i b, g1) ∧ (l ≤ M ↔ b = false) := by
  obtain ⟨⟨c1, c2, c3, c4, c5⟩, ⟨z1, z2⟩, -⟩ := V.cnt
  obtain ⟨i1, i2⟩ := V.isP
  have A : ∀ n i a, Z - i < n → i ≤ Z → ∃ M, f_st_thickestSmoke_L4 n 53 a (nI i) h1 = some (M, h1) ∧ (l ≤ M ↔ (l ≤ a ∨ ∃ z, i ≤ z ∧ z < Z ∧ l ≤ g1 117 (10 + 4 * z))) := by
    intro n
    induction n with
    | zero => intro i a y; omega
    | succ n ih =>
      intro i a y1 y2
      unfold f_st_thickestSmoke_L4
      rw [i1, s_true, i2]
      simp only [sm_let, z1]
      by_cases y : i = Z
      · rw [if_pos (nI_le (by omega) (by omega))]
        exact ⟨a, rfl, ⟨Or.inl, fun x => x.elim id (fun ⟨z, u, v, _⟩ => absurd u (by omega))⟩⟩
      · have hi : i < 8 := by omega
        have gi : sm_inb (nI i) 8 = true := sm_inb_nI hi (by omega)
        have ci : (nI i).toNatClampNeg = i := nI_clamp (by omega)
        rw [if_neg (nI_ge (by omega) (by omega))]
        simp only [gi, ci, s_true, sm_b2, Option.bind_some, nI_1, s_max, show h1 (53 + 1) i = g1 117 (10 + 4 * i) from S.1 1 i _ (q_smoke (by omega))]
        obtain ⟨M, m1, m2⟩ := ih (i + 1) (if a < g1 117 (10 + 4 * i) then g1 117 (10 + 4 * i) else a) (by omega) (by omega)
        refine ⟨M, m1, ?_⟩
        rw [m2, i_max]
        constructor
        · rintro ((x | x) | ⟨z, u, v, w⟩)
          · exact Or.inl x
          · exact Or.inr ⟨i, by omega, by omega, x⟩
          · exact Or.inr ⟨z, by omega, v, w⟩
        · rintro (x | ⟨z, u, v, w⟩)
          · exact Or.inl (Or.inl x)
          · by_cases e : z = i
            · exact Or.inl (Or.inr (by rw [← e]; exact w))
            · exact Or.inr ⟨z, by omega, v, w⟩
  have B : ∀ n i, Z - i < n → i ≤ Z → ∃ b, f_mo_isBelow_L3 n 114 (nI Z - 1) l (nI i) g1 = some (sm_b2i b, g1) ∧ (b = false ↔ ∃ z, i ≤ z ∧ z < Z ∧ l ≤ g1 117 (10 + 4 * z)) := by
    intro n
    induction n with
    | zero => intro i y; omega
    | succ n ih =>
      intro i y1 y2
      unfold f_mo_isBelow_L3
      rw [show nI Z - 1 = nI (Z - 1) from nI_sub (b := 1) c1]
      by_cases y : i = Z
      · rw [if_pos (nI_lt (by omega) (by omega))]
        exact ⟨true, rfl, ⟨fun x => (by cases x), fun ⟨z, u, v, _⟩ => absurd u (by omega)⟩⟩
      · have hi : i < 8 := by omega
        rw [if_neg (nI_nlt (by omega) (by omega)), e_zI0 hi]
        simp only [sm_b2, Option.bind_some, sm_let, nI_1]
        by_cases x : g1 117 (10 + 4 * i) < l
        · rw [if_pos x, ← show nI Z - 1 = nI (Z - 1) from nI_sub (b := 1) c1]
          obtain ⟨b, m1, m2⟩ := ih (i + 1) (by omega) (by omega)
          refine ⟨b, m1, ?_⟩
          rw [m2]
          constructor
          · rintro ⟨z, u, v, w⟩
            exact ⟨z, by omega, v, w⟩
          · rintro ⟨z, u, v, w⟩
            by_cases e : z = i
            · rw [e] at w
              exact absurd x (Int32.not_lt.mpr w)
            · exact ⟨z, by omega, v, w⟩
        · rw [if_neg x]
          exact ⟨false, rfl, ⟨fun _ => ⟨i, by omega, by omega, Int32.not_lt.mp x⟩, fun _ => rfl⟩⟩
  obtain ⟨M, m1, m2⟩ := A sm_N 0 0 (by unfold sm_N; omega) (by omega)
  obtain ⟨b, b1, b2⟩ := B sm_N 0 (by unfold sm_N; omega) (by omega)
  refine ⟨M, b, m1, b1, ?_⟩
  rw [m2, b2]
  constructor
  · rintro (x | x)
    · exact absurd (Int32.le_trans hl x) (by decide)
    · exact x
  · exact Or.inr
theorem t_stuck {l M : Int32} (ht : f_st_thickestSmoke 53 h = some (M, h)) (hl : l ≤ M) (hp : f_en_pass 106 53 (nI 1) h = some (nI 0, h)) : ∀ n i, 201 - i < n → i ≤ 201 → f_sc_clearAfter_L28 n 0 l (nI i) h = some (-4, h) := by
  intro n
  induction n with
  | zero => intro i y; omega
  | succ n ih =>
    intro i y1 y2
    unfold f_sc_clearAfter_L28 f_sc_clearAfter_L67
    by_cases y : i = 201
    · rw [if_pos (show (200 : Int32) < nI i from nI_lt (a := 200) (by omega) (by omega))]
    · rw [if_neg (show ¬ (200 : Int32) < nI i from nI_nlt (a := 200) (by omega) (by omega)), Nat.zero_add, ht]
      simp only [sm_b2, Option.bind_some]
      rw [if_pos hl, Nat.zero_add, show (1 : Int32) = nI 1 from rfl, hp]
      simp only [Option.bind_some, sm_let]
      rw [show nI i + nI 1 = nI (i + 1) from nI_1 i]
      exact ih (i + 1) (by omega) (by omega)
theorem t_clear (hj : j ≤ 3072) {l : Int32} (hl : 1 ≤ l) : ∀ n i hc gr q, 201 - i < n → i ≤ 201 → p_V 53 p Z D F R hc (gr 115) → p_SO Z D F R 53 hc q (gr 115) j → ∃ r hc' gr' q', f_sc_clearAfter_L28 n 0 l (nI i) hc = some (r, hc') ∧ f_mo_ticksUntil_L3 n 114 0 (nI Z - 1) l (nI i) (sm_row gr 117 q) = some (r, sm_row gr' 117 q') ∧ p_hf 53 hc hc' ∧ p_gf gr gr' := by
  intro n
  induction n with
  | zero => intro i hc gr q y; omega
  | succ n ih =>
    intro i hc gr q y1 y2 V SO
    obtain ⟨t, S, -⟩ := id SO
    unfold f_mo_ticksUntil_L3 f_mo_ticksUntil_L41 f_mo_ticksUntil_L32 f_mo_ticksUntil_L21
    by_cases y : i = 201
    · refine ⟨-4, hc, gr, q, ?_, if_pos (show (200 : Int32) < nI i from nI_lt (a := 200) (by omega) (by omega)), fun _ _ _ => rfl, ⟨fun _ _ _ _ => rfl, fun _ _ => rfl⟩⟩
      unfold f_sc_clearAfter_L28 f_sc_clearAfter_L67
      rw [if_pos (show (200 : Int32) < nI i from nI_lt (a := 200) (by omega) (by omega))]
    · obtain ⟨M, b, m1, m2, m3⟩ := t_thick (h1 := hc) (g1 := sm_row gr 117 q) (p := p) (Z := Z) (D := D) (F := F) (R := R) (t := t) (by rw [p_row_off (by omega)]; exact V) (by rw [p_row_at]; exact S) hl
      rw [if_neg (show ¬ (200 : Int32) < nI i from nI_nlt (a := 200) (by omega) (by omega)), m2]
      simp only [sm_b2, Option.bind_some]
      cases b
      · have hM := m3.mpr rfl
        obtain ⟨r, h', q', g', a1, a2, a3, a4, a5, a6, a7, a8⟩ := t_tt V SO hj 1 (by omega)
        rw [if_pos s_bf, show (1 : Int32) = nI 1 from rfl, a2]
        simp only [Option.bind_some, sm_let]
        by_cases r0 : r = 0
        · obtain ⟨e1, e2, e3, -⟩ := a8 r0
          rw [r0, e1] at a1
          refine ⟨-4, hc, g', q', t_stuck m1 hM a1 (n + 1) i (by omega) y2, ?_, fun _ _ _ => rfl, a7⟩
          rw [r0, if_pos (show nI 0 = (0 : Int32) from rfl)]
        · have r1 : ¬ nI r = 0 := nI_ne0 (by omega) (by omega)
          obtain ⟨v, hc', gr', q'', u1, u2, u3, u4⟩ := ih (i + 1) h' g' q' (by omega) (by omega) a4 a5
          refine ⟨v, hc', gr', q'', ?_, ?_, a6.trans u3, a7.trans u4⟩
          · unfold f_sc_clearAfter_L28
            rw [if_neg (show ¬ (200 : Int32) < nI i from nI_nlt (a := 200) (by omega) (by omega)), Nat.zero_add, m1]
            simp only [sm_b2, Option.bind_some]
            rw [if_pos hM, Nat.zero_add, show (1 : Int32) = nI 1 from rfl, a1]
            simp only [Option.bind_some, sm_let]
            rw [show nI i + nI 1 = nI (i + 1) from nI_1 i]
            exact u1
          · rw [if_neg r1, show nI i + nI 1 = nI (i + 1) from nI_1 i]
            exact u2
      · have hM : ¬ l ≤ M := fun x => by
          have := m3.mp x
          cases this
        refine ⟨nI i, hc, gr, q, ?_, by rw [if_neg s_bt], fun _ _ _ => rfl, ⟨fun _ _ _ _ => rfl, fun _ _ => rfl⟩⟩
        unfold f_sc_clearAfter_L28 f_sc_clearAfter_L46
        rw [if_neg (show ¬ (200 : Int32) < nI i from nI_nlt (a := 200) (by omega) (by omega)), Nat.zero_add, m1]
        simp only [sm_b2, Option.bind_some]
        rw [if_neg hM]
theorem s_clearAfter : sm_S33 p_RR := by
  intro j h y hj hR
  obtain ⟨p, Z, D, F, R, G⟩ := hR
  have a0 : ∀ g, f_mo_in y 1 1000 g = some (sm_b2i (decide (1 ≤ y ∧ y ≤ 1000)), g) := fun g => e_in y 1 1000 g
  refine p_tri G (fun g T => ?_)
  unfold f_sc_clearAfter f_mo_clearAfter f_sc_clearAfter_L12
  rw [a0]
  simp only [sm_b2, Option.bind_some]
  by_cases hy : 1 ≤ y ∧ y ≤ 1000
  · obtain ⟨h0, e1, e2, V1, SO1⟩ := t_copy T
    obtain ⟨G0, hG0⟩ : ∃ G0, G0 = sm_row g 118 (fun m => if m < 350 then g 117 m else g 118 m) := ⟨_, rfl⟩
    have g115 : G0 115 = g 115 := by rw [hG0, p_row_off (by omega)]
    have g117 : G0 117 = g 117 := by rw [hG0, p_row_off (by omega)]
    have zz : G0 115 0 = nI Z := by rw [g115]; exact T.1.2.2.2.2.1.2.1
    rw [← g115] at V1 SO1
    obtain ⟨r, h1, G1, q', u1, u2, u3, u4⟩ := t_clear hj hy.1 sm_N 0 h0 G0 (g 117) (by unfold sm_N; omega) (by omega) V1 SO1
    rw [← g117, p_row_self] at u2
    refine ⟨r, h1, _, ?_, ?_, fun i x y => ?_, p_rf.back (q' := q') hG0 u4⟩
    · rw [if_neg (Int32.not_lt.mpr hy.1), if_pos hy.2, Nat.zero_add, Nat.zero_add, e1]
      exact u1
    · rw [decide_eq_true hy, if_neg (by decide), e_aside, ← hG0]
      refine w_bd rfl ?_
      rw [s_i0, s_c0, show G0 (114 + 1) 0 = nI Z from zz]
      refine w_bd (show f_mo_ticksUntil 114 0 (nI Z - 1) y G0 = _ from u2) ?_
      exact w_bd (e_back q') rfl
    · rw [u3 i x y, e2 i x y]
  · refine ⟨-2, h, g, ?_, ?_, p_cf.refl h, p_rf.refl g⟩
    · by_cases x1 : y < 1
      · rw [if_pos x1]
      · rw [if_neg x1, if_neg (fun z => hy ⟨Int32.not_lt.mp x1, z⟩)]
    · rw [decide_eq_false hy, if_pos (by decide)]
-- the same for one zone
theorem t_pstuck {z : Nat} (hz : z < 8) (hl : 100 ≤ h 54 z) (hp : f_en_pass 106 53 (nI 1) h = some (nI 0, h)) : ∀ n i, 201 - i < n → i ≤ 201 → f_sc_purgeTime_L36 n 0 (nI z) (nI i) h = some (-4, h) := by
  intro n
  induction n with
  | zero => intro i y; omega
  | succ n ih =>
    intro i y1 y2
    unfold f_sc_purgeTime_L36 f_sc_purgeTime_L78
    by_cases y : i = 201
    · rw [if_pos (show (200 : Int32) < nI i from nI_lt (a := 200) (by omega) (by omega))]
    · rw [if_neg (show ¬ (200 : Int32) < nI i from nI_nlt (a := 200) (by omega) (by omega)), sm_gd_t (sm_inb_nI hz (by omega)), nI_clamp (by omega), Nat.zero_add, if_pos hl, Nat.zero_add, show (1 : Int32) = nI 1 from rfl, hp]
      simp only [sm_b2, Option.bind_some, sm_let]
      rw [show nI i + nI 1 = nI (i + 1) from nI_1 i]
      exact ih (i + 1) (by omega) (by omega)
theorem t_purge (hj : j ≤ 3072) {z : Nat} (hz : z < Z) (hz8 : z < 8) : ∀ n i hc gr q, 201 - i < n → i ≤ 201 → p_V 53 p Z D F R hc (gr 115) → p_SO Z D F R 53 hc q (gr 115) j → ∃ r hc' gr' q', f_sc_purgeTime_L36 n 0 (nI z) (nI i) hc = some (r, hc') ∧ f_mo_ticksUntil_L3 n 114 (nI z) (nI z) 100 (nI i) (sm_row gr 117 q) = some (r, sm_row gr' 117 q') ∧ p_hf 53 hc hc' ∧ p_gf gr gr' := by
  intro n
  induction n with
  | zero => intro i hc gr q y; omega
  | succ n ih =>
    intro i hc gr q y1 y2 V SO
    obtain ⟨t, S, -⟩ := id SO
    have gz : sm_inb (nI z) 8 = true := sm_inb_nI hz8 (by omega)
    have cz : (nI z).toNatClampNeg = z := nI_clamp (by omega)
    have sm : hc 54 z = q (10 + 4 * z) := S.1 1 z _ (q_smoke hz)
    unfold f_mo_ticksUntil_L3 f_mo_ticksUntil_L41 f_mo_ticksUntil_L32 f_mo_ticksUntil_L21
    by_cases y : i = 201
    · refine ⟨-4, hc, gr, q, ?_, if_pos (show (200 : Int32) < nI i from nI_lt (a := 200) (by omega) (by omega)), fun _ _ _ => rfl, ⟨fun _ _ _ _ => rfl, fun _ _ => rfl⟩⟩
      unfold f_sc_purgeTime_L36 f_sc_purgeTime_L78
      rw [if_pos (show (200 : Int32) < nI i from nI_lt (a := 200) (by omega) (by omega))]
    · have below : f_mo_isBelow 114 (nI z) (nI z) 100 (sm_row gr 117 q) = some (sm_b2i (!decide (100 ≤ q (10 + 4 * z))), sm_row gr 117 q) := by
        have hN : sm_N = 19998 + 1 + 1 := rfl
        unfold f_mo_isBelow
        rw [hN]
        unfold f_mo_isBelow_L3
        rw [if_neg (nI_nlt (Nat.le_refl _) (by omega)), e_zI0 hz8, p_row_at]
        simp only [sm_b2, Option.bind_some, sm_let, nI_1]
        by_cases x : q (10 + 4 * z) < 100
        · rw [if_pos x, decide_eq_false (Int32.not_le.mpr x)]
          unfold f_mo_isBelow_L3
          rw [if_pos (nI_lt (by omega) (by omega))]
          rfl
        · rw [if_neg x, decide_eq_true (Int32.not_lt.mp x)]
          rfl
      rw [if_neg (show ¬ (200 : Int32) < nI i from nI_nlt (a := 200) (by omega) (by omega)), below]
      simp only [sm_b2, Option.bind_some]
      by_cases b : 100 ≤ q (10 + 4 * z)
      · obtain ⟨r, h', q', g', a1, a2, a3, a4, a5, a6, a7, a8⟩ := t_tt V SO hj 1 (by omega)
        rw [decide_eq_true b, if_pos (show sm_b2i (!true) = 0 from rfl), show (1 : Int32) = nI 1 from rfl, a2]
        simp only [Option.bind_some, sm_let]
        by_cases r0 : r = 0
        · obtain ⟨e1, e2, e3, -⟩ := a8 r0
          rw [r0, e1] at a1
          refine ⟨-4, hc, g', q', t_pstuck hz8 (by rw [sm]; exact b) a1 (n + 1) i (by omega) y2, ?_, fun _ _ _ => rfl, a7⟩
          rw [r0, if_pos (show nI 0 = (0 : Int32) from rfl)]
        · have r1 : ¬ nI r = 0 := nI_ne0 (by omega) (by omega)
          obtain ⟨v, hc', gr', q'', u1, u2, u3, u4⟩ := ih (i + 1) h' g' q' (by omega) (by omega) a4 a5
          refine ⟨v, hc', gr', q'', ?_, ?_, a6.trans u3, a7.trans u4⟩
          · unfold f_sc_purgeTime_L36
            rw [if_neg (show ¬ (200 : Int32) < nI i from nI_nlt (a := 200) (by omega) (by omega)), gz, s_true, cz, Nat.zero_add, if_pos (show 100 ≤ hc (53 + 1) z by rw [show hc (53 + 1) z = q (10 + 4 * z) from sm]; exact b), Nat.zero_add, show (1 : Int32) = nI 1 from rfl, a1]
            simp only [sm_b2, Option.bind_some, sm_let]
            rw [show nI i + nI 1 = nI (i + 1) from nI_1 i]
            exact u1
          · rw [if_neg r1, show nI i + nI 1 = nI (i + 1) from nI_1 i]
            exact u2
      · refine ⟨nI i, hc, gr, q, ?_, by rw [decide_eq_false b, if_neg (by decide)], fun _ _ _ => rfl, ⟨fun _ _ _ _ => rfl, fun _ _ => rfl⟩⟩
        unfold f_sc_purgeTime_L36 f_sc_purgeTime_L57
        rw [if_neg (show ¬ (200 : Int32) < nI i from nI_nlt (a := 200) (by omega) (by omega)), gz, s_true, cz, Nat.zero_add, if_neg (show ¬ 100 ≤ hc (53 + 1) z by rw [show hc (53 + 1) z = q (10 + 4 * z) from sm]; exact b)]
end p_un
