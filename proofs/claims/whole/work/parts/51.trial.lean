-- TRIALS: a copy on one side, a row put aside on the other
def p_cf (h h1 : sm_H) : Prop := ∀ i, (i < 53 ∨ 65 < i) → (i < 108 ∨ 113 < i) → h1 i = h i
def p_rf (g g' : sm_H) : Prop := (∀ i, i ≠ 117 → i ≠ 118 → i ≠ 114 → (i < 122 ∨ 131 < i) → g' i = g i) ∧ (∀ k, k ≠ 31 → g' 114 k = g 114 k) ∧ ∀ m, m < 350 → g' 117 m = g 117 m
def p_TB (p Z D F R j : Nat) (h g : sm_H) : Prop := p_V 40 p Z D F R h (g 115) ∧ p_SO Z D F R 40 h (g 117) (g 115) j
theorem p_cf.trans {h h' h'' : sm_H} (a : p_cf h h') (b : p_cf h' h'') : p_cf h h'' := fun i x y => (b i x y).trans (a i x y)
theorem p_rf.trans {h h' h'' : sm_H} (a : p_rf h h') (b : p_rf h' h'') : p_rf h h'' := ⟨fun i x y z w => (b.1 i x y z w).trans (a.1 i x y z w), fun k hk => (b.2.1 k hk).trans (a.2.1 k hk), fun m hm => (b.2.2 m hm).trans (a.2.2 m hm)⟩
theorem p_cf.refl (h : sm_H) : p_cf h h := fun _ _ _ => rfl
theorem p_rf.refl (h : sm_H) : p_rf h h := ⟨fun _ _ _ _ _ => rfl, fun _ _ => rfl, fun _ _ => rfl⟩
section p_tr
variable {p Z D F R j : Nat} {h g : sm_H}
theorem p_TB.fr {h' g' : sm_H} (T : p_TB p Z D F R j h g) (a : p_cf h h') (b : p_rf g g') : p_TB p Z D F R j h' g' := by
  have e : g' 115 = g 115 := b.1 115 (by omega) (by omega) (by omega) (by omega)
  obtain ⟨V, SO⟩ := T
  have C : p_CT Z D F R := V.2.2.2.1
  rw [← e] at V SO
  refine ⟨V.rows (fun i hi => a i (by omega) (by omega)) (by rw [a 40 (by omega) (by omega)]), SO.copy C (fun o k hk => ?_) b.2.2⟩
  rw [a (40 + o) (by unfold p_ok at hk; omega) (by unfold p_ok at hk; omega)]
theorem p_R0.tri (G : p_R0 j p Z D F R h) {h1 h2 : sm_H} (a : p_cf h h1) (b : p_rf h1 h2) : p_R0 (j + 6) p Z D F R h2 := by
  have e : ∀ i, (i < 53 ∨ 65 < i) → (i < 108 ∨ 113 < i) → i ≠ 117 → i ≠ 118 → i ≠ 114 → (i < 122 ∨ 131 < i) → h2 i = h i := fun i x1 x2 x3 x4 x5 x6 => (b.1 i x3 x4 x5 x6).trans (a i x1 x2)
  refine G.step ⟨fun i hi => e i (by omega) (by omega) (by omega) (by omega) (by omega) (by omega), fun k hk => by rw [b.2.1 k (by omega), a 114 (by omega) (by omega)]⟩ (by rw [e 40 (by omega) (by omega) (by omega) (by omega) (by omega) (by omega)]; exact G.2.1) ?_
  refine (G.2.2.2.2.1.copy G.2.2.2.1.1 (fun o k hk => ?_) (fun m hm => ?_)).mono
  · have : o ≤ 12 := by unfold p_ok at hk; omega
    rw [e (40 + o) (by omega) (by omega) (by omega) (by omega) (by omega) (by omega)]
  · rw [b.2.2 m hm, a 117 (by omega) (by omega)]
theorem p_tri (G : p_R0 j p Z D F R h) {fc : Option (Int32 × sm_H)} {fm : sm_H → Option (Int32 × sm_H)} (X : ∀ g, p_TB p Z D F R j h g → ∃ r h1 g', fc = some (r, h1) ∧ fm g = some (r, g') ∧ p_cf h h1 ∧ p_rf g g') : ∃ r h1 h2, fc = some (r, h1) ∧ fm h1 = some (r, h2) ∧ p_RR (j + 6) h2 := by
  obtain ⟨r, h1, g', a1, a2, a3, a4⟩ := X h ⟨G.V, G.2.2.2.2.1⟩
  obtain ⟨r', h1', g'', b1, b2, b3, b4⟩ := X h1 (by
    unfold p_TB
    rw [a3 115 (by omega) (by omega), a3 117 (by omega) (by omega)]
    exact ⟨G.V, G.2.2.2.2.1⟩)
  rw [a1] at b1
  have e := Option.some.inj b1
  have er : r = r' := congrArg Prod.fst e
  subst er
  exact ⟨r, h1, g'', a1, b2, p, Z, D, F, R, G.tri a3 b4⟩
-- the copy
theorem t_copy (T : p_TB p Z D F R j h g) : ∃ h1, f_st_copyFrom 53 40 h = some h1 ∧ p_cf h h1 ∧ p_V 53 p Z D F R h1 (g 115) ∧ p_SO Z D F R 53 h1 (g 117) (g 115) j := by
  obtain ⟨V, SO⟩ := T
  have C : p_CT Z D F R := V.2.2.2.1
  obtain ⟨t, S, RG⟩ := id SO
  have hz : sm_bz (h 40 2) = true := by
    rw [show h 40 2 = g 117 1 from S.1 0 2 1 q_key]
    exact decide_eq_true RG.1.1
  obtain ⟨h1, e1, e2, e3⟩ := e_copyFrom (a := 53) (b := 40) V.1 (by omega) (fun o a1 a2 a3 a4 => ⟨p_lens (Or.inr (Or.inl rfl)) a1 a2 a3 a4, p_lens (Or.inl rfl) a1 a2 a3 a4⟩) V.2.2.1 hz
  refine ⟨h1, e1, fun i x _ => e2 i x, ⟨V.1, Or.inr rfl, ?_, V.2.2.2.rows (fun o ho => e2 _ (by rcases V.1 with e | e <;> omega))⟩, SO.copy C e3 (fun _ _ => rfl)⟩
  rw [show h1 53 0 = h 40 0 from e3 0 0 (by unfold p_ok; omega)]
  exact V.2.2.1
theorem e_aside : f_mo_putAside 114 g = some (sm_row g 118 (fun m => if m < 350 then g 117 m else g 118 m)) := by
  have L : ∀ n i (f : Nat → Int32), 350 - i < n → i ≤ 350 → f_mo_putAside_L2 n 114 (nI i) (sm_row g 118 f) = some (sm_row g 118 (fun m => if i ≤ m ∧ m < 350 then g 117 m else f m)) := by
    intro n
    induction n with
    | zero => intro i f y; omega
    | succ n ih =>
      intro i f y1 y2
      unfold f_mo_putAside_L2
      rw [show (350 : Int32) = nI 350 from rfl]
      by_cases y : i = 350
      · rw [if_pos (nI_le (by omega) (by omega))]
        refine congrArg (fun f => some (sm_row g 118 f)) (funext fun m => ?_)
        rw [if_neg (by omega)]
      · have gi : sm_inb (nI i) 350 = true := sm_inb_nI (by omega) (by omega)
        have ci : (nI i).toNatClampNeg = i := nI_clamp (by omega)
        rw [if_neg (nI_ge (by omega) (by omega)), gi, s_true, s_true, ci, show (114 + 4 : Nat) = 118 from rfl, show sm_row g 118 f (114 + 3) i = g 117 i from congrFun (p_row_off (by omega)) i, p_row_up]
        simp only [sm_let, nI_1]
        rw [ih (i + 1) _ (by omega) (by omega)]
        refine congrArg (fun f => some (sm_row g 118 f)) (funext fun m => ?_)
        by_cases x : m = i
        · rw [if_neg (by omega), if_pos (by omega), x, p_ud_at]
        · rw [p_ud_off x]
          by_cases w : i + 1 ≤ m ∧ m < 350
          · rw [if_pos w, if_pos (by omega)]
          · rw [if_neg w, if_neg (by omega)]
  have e := L sm_N 0 (g 118) (by unfold sm_N; omega) (by omega)
  rw [p_row_self] at e
  refine e.trans (congrArg (fun f => some (sm_row g 118 f)) (funext fun m => ?_))
  by_cases x : m < 350
  · rw [if_pos x, if_pos (by omega)]
  · rw [if_neg x, if_neg (by omega)]
theorem e_back (q : Nat → Int32) : f_mo_putBack 114 (sm_row g 117 q) = some (sm_row g 117 (fun m => if m < 350 then g 118 m else q m)) := by
  have L : ∀ n i (f : Nat → Int32), 350 - i < n → i ≤ 350 → f_mo_putBack_L2 n 114 (nI i) (sm_row g 117 f) = some (sm_row g 117 (fun m => if i ≤ m ∧ m < 350 then g 118 m else f m)) := by
    intro n
    induction n with
    | zero => intro i f y; omega
    | succ n ih =>
      intro i f y1 y2
      unfold f_mo_putBack_L2
      rw [show (350 : Int32) = nI 350 from rfl]
      by_cases y : i = 350
      · rw [if_pos (nI_le (by omega) (by omega))]
        refine congrArg (fun f => some (sm_row g 117 f)) (funext fun m => ?_)
        rw [if_neg (by omega)]
      · have gi : sm_inb (nI i) 350 = true := sm_inb_nI (by omega) (by omega)
        have ci : (nI i).toNatClampNeg = i := nI_clamp (by omega)
        rw [if_neg (nI_ge (by omega) (by omega)), gi, s_true, s_true, ci, show (114 + 3 : Nat) = 117 from rfl, show sm_row g 117 f (114 + 4) i = g 118 i from congrFun (p_row_off (by omega)) i, p_row_up]
        simp only [sm_let, nI_1]
        rw [ih (i + 1) _ (by omega) (by omega)]
        refine congrArg (fun f => some (sm_row g 117 f)) (funext fun m => ?_)
        by_cases x : m = i
        · rw [if_neg (by omega), if_pos (by omega), x, p_ud_at]
        · rw [p_ud_off x]
          by_cases w : i + 1 ≤ m ∧ m < 350
          · rw [if_pos w, if_pos (by omega)]
          · rw [if_neg w, if_neg (by omega)]
  refine (L sm_N 0 q (by unfold sm_N; omega) (by omega)).trans (congrArg (fun f => some (sm_row g 117 f)) (funext fun m => ?_))
  by_cases x : m < 350
  · rw [if_pos x, if_pos (by omega)]
  · rw [if_neg x, if_neg (by omega)]
-- ticks of a trial
theorem t_tt {h1 g1 : sm_H} {q1 : Nat → Int32} {s : Nat} (V : p_V s p Z D F R h1 (g1 115)) (SO : p_SO Z D F R s h1 q1 (g1 115) j) (hj : j ≤ 3072) (k : Nat) (hk : k ≤ 200) : ∃ r h' q' g', f_en_pass 106 s (nI k) h1 = some (nI r, h') ∧ f_mo_passTicks 114 (nI k) (sm_row g1 117 q1) = some (nI r, sm_row g' 117 q') ∧ r ≤ k ∧ p_V s p Z D F R h' (g' 115) ∧ p_SO Z D F R s h' q' (g' 115) j ∧ p_hf s h1 h' ∧ p_gf g1 g' ∧ (r = 0 → h' = h1 ∧ g' = g1 ∧ q' = q1 ∧ (0 < k → 9999 ≤ q1 0)) := by
  obtain ⟨r, h', q', g', a1, a2, a3, a4, a5, a6, a7, a8, a9⟩ := t_ticks (g := g1) V hj k hk sm_N 0 h1 g1 q1 (by unfold sm_N; omega) (by omega) rfl V SO
  have e : g' 115 = g1 115 := a8.1 115 (by omega) (by omega) (by omega)
  exact ⟨r, h', q', g', a1, a2, a4, by rw [e]; exact a5, by rw [e]; exact a6, a7, a8, a9⟩
-- a frame of the whole trial on the reference's side
theorem p_rf.back {g1 g' : sm_H} {q' : Nat → Int32} (h1 : g1 = sm_row g 118 (fun m => if m < 350 then g 117 m else g 118 m)) (f : p_gf g1 g') : p_rf g (sm_row g' 117 (fun m => if m < 350 then g' 118 m else q' m)) := by
  refine ⟨fun i x y z w => ?_, fun k hk => ?_, fun m hm => ?_⟩
  · rw [p_row_off x, f.1 i x z w, h1, p_row_off y]
  · rw [p_row_off (by omega), f.2 k hk, h1, p_row_off (by omega)]
  · rw [p_row_at]
    try dsimp only
    rw [if_pos hm, f.1 118 (by omega) (by omega) (by omega), h1, p_row_at]
    try dsimp only
    rw [if_pos hm]
-- sums of smoke
theorem t_sum {h1 g1 : sm_H} {s t : Nat} (V : p_V s p Z D F R h1 (g1 115)) (S : p_ST Z Z D F R s h1 (g1 117) t) : ∃ v, f_st_smokeSum s h1 = some (v, h1) ∧ f_mo_allSmoke 114 g1 = some (v, g1) := by
  obtain ⟨⟨c1, c2, c3, c4, c5⟩, ⟨z1, z2⟩, -⟩ := V.cnt
  obtain ⟨i1, i2⟩ := V.isP
  have L : ∀ n i a, Z - i < n → i ≤ Z → ∃ v, f_st_smokeSum_L7 n s a (nI i) h1 = some (v, h1) ∧ f_mo_allSmoke_L9 n 114 a (nI i) g1 = some (v, g1) := by
    intro n
    induction n with
    | zero => intro i a y; omega
    | succ n ih =>
      intro i a y1 y2
      unfold f_st_smokeSum_L7 f_mo_allSmoke_L9
      rw [i1, s_true, i2, s_i0, s_c0, show g1 (114 + 1) 0 = nI Z from z2]
      simp only [sm_let, z1]
      by_cases y : i = Z
      · rw [if_pos (nI_le (by omega) (by omega)), if_pos (nI_le (by omega) (by omega))]
        exact ⟨a, rfl, rfl⟩
      · have hi : i < 8 := by omega
        have gi : sm_inb (nI i) 8 = true := sm_inb_nI hi (by omega)
        have ci : (nI i).toNatClampNeg = i := nI_clamp (by omega)
        rw [if_neg (nI_ge (by omega) (by omega)), if_neg (nI_ge (by omega) (by omega)), e_zI0 hi]
        simp only [gi, ci, s_true, sm_b2, Option.bind_some, nI_1, show h1 (s + 1) i = g1 117 (10 + 4 * i) from S.1 1 i _ (q_smoke (by omega))]
        exact ih (i + 1) _ (by omega) (by omega)
  obtain ⟨v, a, b⟩ := L sm_N 0 (h1 s 5) (by unfold sm_N; omega) (by omega)
  refine ⟨v, a, ?_⟩
  unfold f_mo_allSmoke
  rw [s_j4, s_c4, show g1 (114 + 3) 4 = h1 s 5 from (S.1 0 5 4 q_ss).symm]
  exact b
theorem e_noTrial (x : Int32) (h : sm_H) : f_sc_isNoTrial x h = some (sm_b2i (!decide (0 ≤ x ∧ x ≤ 200)), h) := by
  unfold f_sc_isNoTrial f_sc_isNoTrial_L11 f_sc_isNoTrial_L16
  by_cases a : x < 0
  · rw [if_pos a, decide_eq_false (fun z => absurd a (Int32.not_lt.mpr z.1))]
    rfl
  · rw [if_neg a]
    by_cases b : x ≤ 200
    · rw [if_pos b, decide_eq_true ⟨Int32.not_lt.mp a, b⟩]
      rfl
    · rw [if_neg b, decide_eq_false (fun z => b z.2)]
      rfl
-- the three that let n ticks pass
theorem t_try (hj : j ≤ 3072) (T : p_TB p Z D F R j h g) (k : Nat) (hk : k ≤ 200) : ∃ h1 G1 q', f_sc_tryTicks 0 (nI k) h = some h1 ∧ (∃ G0, f_mo_putAside 114 g = some G0 ∧ ∃ r, f_mo_passTicks 114 (nI k) G0 = some (r, sm_row G1 117 q')) ∧ p_cf h h1 ∧ p_V 53 p Z D F R h1 (G1 115) ∧ p_SO Z D F R 53 h1 q' (G1 115) j ∧ f_mo_putBack 114 (sm_row G1 117 q') = some (sm_row G1 117 (fun m => if m < 350 then G1 118 m else q' m)) ∧ p_rf g (sm_row G1 117 (fun m => if m < 350 then G1 118 m else q' m)) := by
  obtain ⟨h0, e1, e2, V1, SO1⟩ := t_copy T
  obtain ⟨G0, hG0⟩ : ∃ G0, G0 = sm_row g 118 (fun m => if m < 350 then g 117 m else g 118 m) := ⟨_, rfl⟩
  have g115 : G0 115 = g 115 := by rw [hG0, p_row_off (by omega)]
  have g117 : G0 117 = g 117 := by rw [hG0, p_row_off (by omega)]
  rw [← g115] at V1 SO1
  obtain ⟨r, h1, q', G1, a1, a2, a3, a4, a5, a6, a7, -⟩ := t_tt V1 SO1 hj k hk
  rw [← g117, p_row_self] at a2
  refine ⟨h1, G1, q', ?_, ⟨G0, by rw [hG0]; exact e_aside, nI r, a2⟩, fun i x y => ?_, a4, a5, e_back q', p_rf.back hG0 a7⟩
  · unfold f_sc_tryTicks
    simp only [Nat.reduceAdd, e1, Option.bind_some, a1, sm_b2]
  · rw [a6 i x y, e2 i x y]
theorem s_smokeAfter : sm_S30 p_RR := by
  intro j h x y hj hR
  obtain ⟨p, Z, D, F, R, G⟩ := hR
  obtain ⟨⟨c1, c2, c3, c4, c5⟩, ⟨z1, z2⟩, -⟩ := p_RR.parts G
  have a0 : ∀ g, f_mo_in y 0 200 g = some (sm_b2i (decide (0 ≤ y ∧ y ≤ 200)), g) := fun g => e_in y 0 200 g
  refine p_tri G (fun g T => ?_)
  have zz : g 115 0 = nI Z := T.1.2.2.2.2.1.2.1
  unfold f_sc_smokeAfter f_mo_smokeAfter
  rcases p_idx x Z (by omega) with ⟨i, hi, rfl⟩ | hx
  · have hi8 : i < 8 := by omega
    rw [e_lacksZoneI G.1 G.2.1 z1 (by omega) hi, e_isZoneI zz (by omega) hi]
    simp only [sm_b2, Option.bind_some, e_noTrial, a0]
    rw [if_pos trivial, if_neg (show ¬ (1 : Int32) = 0 by decide)]
    by_cases hy : 0 ≤ y ∧ y ≤ 200
    · obtain ⟨k, hk, rfl⟩ : ∃ k, k ≤ 200 ∧ y = nI k := nI_of2 (M := 200) (n := 200) (by decide) (Int32.not_lt.mpr hy.1) hy.2
      obtain ⟨h1, G1, q', b1, ⟨G0, b2, r, b3⟩, b4, b5, b6, b7, b8⟩ := t_try hj T k hk
      obtain ⟨t, S, -⟩ := b6
      refine ⟨h1 54 i, h1, _, ?_, ?_, b4, b8⟩
      · rw [decide_eq_true hy, if_pos (by decide), b1]
        simp only [Option.bind_some, Nat.reduceAdd]
        rw [sm_gd_t (sm_inb_nI hi8 (by omega)), nI_clamp (by omega)]
      · rw [decide_eq_true hy, if_neg (by decide), b2]
        simp only [Option.bind_some, b3, e_zI0 hi8, p_row_at, b7]
        rw [show h1 54 i = q' (10 + 4 * i) from S.1 1 i _ (q_smoke hi)]
    · refine ⟨-2, h, g, ?_, ?_, p_cf.refl h, p_rf.refl g⟩
      · rw [decide_eq_false hy, if_neg (by decide)]
      · rw [decide_eq_false hy, if_pos (by decide)]
  · rw [e_lacksZoneO G.1 G.2.1 z1 hx, e_isZoneO zz (by omega) hx]
    exact ⟨-1, h, g, rfl, rfl, p_cf.refl h, p_rf.refl g⟩
theorem s_allSmokeAfter : sm_S31 p_RR := by
  intro j h y hj hR
  obtain ⟨p, Z, D, F, R, G⟩ := hR
  have a0 : ∀ g, f_mo_in y 0 200 g = some (sm_b2i (decide (0 ≤ y ∧ y ≤ 200)), g) := fun g => e_in y 0 200 g
  refine p_tri G (fun g T => ?_)
  unfold f_sc_allSmokeAfter f_mo_allSmokeAfter
  simp only [sm_b2, Option.bind_some, e_noTrial, a0]
  by_cases hy : 0 ≤ y ∧ y ≤ 200
  · obtain ⟨k, hk, rfl⟩ : ∃ k, k ≤ 200 ∧ y = nI k := nI_of2 (M := 200) (n := 200) (by decide) (Int32.not_lt.mpr hy.1) hy.2
    obtain ⟨h1, G1, q', b1, ⟨G0, b2, r, b3⟩, b4, b5, b6, b7, b8⟩ := t_try hj T k hk
    obtain ⟨t, S, -⟩ := b6
    obtain ⟨v, v1, v2⟩ := t_sum (h1 := h1) (g1 := sm_row G1 117 q') (s := 53) (p := p) (Z := Z) (D := D) (F := F) (R := R) (t := t) (by rw [p_row_off (by omega)]; exact b5) (by rw [p_row_at]; exact S)
    refine ⟨v, h1, _, ?_, ?_, b4, b8⟩
    · rw [decide_eq_true hy, if_pos (by decide), b1]
      simp only [Option.bind_some, Nat.reduceAdd, v1]
    · rw [decide_eq_true hy, if_neg (by decide), b2]
      simp only [Option.bind_some, b3, v2, b7]
  · refine ⟨-2, h, g, ?_, ?_, p_cf.refl h, p_rf.refl g⟩
    · rw [decide_eq_false hy, if_neg (by decide)]
    · rw [decide_eq_false hy, if_pos (by decide)]
theorem s_pressureAfter : sm_S32 p_RR := by
  intro j h y hj hR
  obtain ⟨p, Z, D, F, R, G⟩ := hR
  have a0 : ∀ g, f_mo_in y 0 200 g = some (sm_b2i (decide (0 ≤ y ∧ y ≤ 200)), g) := fun g => e_in y 0 200 g
  refine p_tri G (fun g T => ?_)
  unfold f_sc_pressureAfter f_mo_pressureAfter
  simp only [sm_b2, Option.bind_some, e_noTrial, a0]
  by_cases hy : 0 ≤ y ∧ y ≤ 200
  · obtain ⟨k, hk, rfl⟩ : ∃ k, k ≤ 200 ∧ y = nI k := nI_of2 (M := 200) (n := 200) (by decide) (Int32.not_lt.mpr hy.1) hy.2
    obtain ⟨h1, G1, q', b1, ⟨G0, b2, r, b3⟩, b4, b5, b6, b7, b8⟩ := t_try hj T k hk
    obtain ⟨t, S, -⟩ := b6
    refine ⟨h1 53 3, h1, _, ?_, ?_, b4, b8⟩
    · rw [decide_eq_true hy, if_pos (by decide), b1]
      simp only [Option.bind_some, Nat.reduceAdd]
    · rw [decide_eq_true hy, if_neg (by decide), b2]
      simp only [Option.bind_some, b3, s_j3, s_c3, sm_let, Nat.reduceAdd, p_row_at, b7]
      rw [show h1 53 3 = q' 3 from S.1 0 3 3 q_press]
  · refine ⟨-2, h, g, ?_, ?_, p_cf.refl h, p_rf.refl g⟩
    · rw [decide_eq_false hy, if_neg (by decide)]
    · rw [decide_eq_false hy, if_pos (by decide)]
end p_tr
