-- COMMANDS: the rules' actions
def p_B (Y s p Z D F R t : Nat) (h : sm_H) (q w : Nat → Int32) : Prop := p_V s p Z D F R h w ∧ p_ST Y Z D F R s h q t ∧ p_RK Z D F s h q w
def p_ru (x y : Int32) : Prop := x = y ∧ (x = 0 ∨ x = 1 ∨ x = 2)
def p_RU (h g : sm_H) : Prop := (∀ d, d < 16 → p_ru (h 108 d) (g 123 d)) ∧ ∀ f, f < 6 → p_ru (h 108 (16 + f)) (g 124 f)
def p_F1 (h h' : sm_H) : Prop := ∀ i, i ≠ 108 → h' i = h i
def p_G1 (g g' : sm_H) : Prop := ∀ i, i < 122 ∨ 124 < i → g' i = g i
section p_rules
variable {s p Y Z D F R t : Nat} {h g : sm_H} {q w : Nat → Int32}
theorem p_B.rows {h' : sm_H} (B : p_B Y s p Z D F R t h q w) (e : ∀ i, i ≤ 65 → h' i = h i) : p_B Y s p Z D F R t h' q w := by
  obtain ⟨V, S, K⟩ := B
  have hs := V.2.1
  have e0 : h' s = h s := e _ (by omega)
  have e8 : h' (s + 8) = h (s + 8) := e _ (by omega)
  refine ⟨V.rows (fun i hi => e i (by omega)) (by rw [e0]), S.rows (fun o ho => e _ (by omega)), ?_⟩
  unfold p_RK at K ⊢
  rw [e0, e8]
  exact K
theorem t_rule1 {d : Nat} (hd : d < 23) (v : Int32) (h : sm_H) : ∃ h', f_co_rule 107 (nI d) v h = some h' ∧ p_F1 h h' ∧ ∀ k, h' 108 k = if k = d ∧ h 108 d = 0 then v else h 108 k := by
  unfold f_co_rule
  simp (disch := omega) only [Nat.reduceAdd, sm_inb_nI, s_true, nI_clamp, sm_let]
  by_cases z : h 108 d = 0
  · rw [if_pos z]
    refine ⟨_, rfl, fun i hi => sm_up_ne _ _ _ _ _ hi, fun k => ?_⟩
    by_cases y : k = d
    · rw [if_pos ⟨y, z⟩, y, p_up_at]
    · rw [if_neg (fun x => y x.1), sm_up_off (by omega)]
  · rw [if_neg z]
    exact ⟨_, rfl, fun i _ => rfl, fun k => by rw [if_neg (fun x => z x.2)]⟩
theorem t_ord1 {a d : Nat} (ha : a ≤ 1) (hd : d < 16) (g : sm_H) : ∃ g', f_mo_order_L44 114 (nI a) (nI d) g = some g' ∧ (∀ i, i ≠ 123 → g' i = g i) ∧ ∀ k, g' 123 k = if k = d ∧ g 123 d = 0 then nI (a + 1) else g 123 k := by
  unfold f_mo_order_L44 f_mo_order_L70
  simp (disch := omega) only [Nat.reduceAdd, sm_inb_nI, s_true, nI_clamp, sm_let, nI_1]
  by_cases z : g 123 d = 0
  · rw [if_pos z]
    refine ⟨_, rfl, fun i hi => sm_up_ne _ _ _ _ _ hi, fun k => ?_⟩
    by_cases y : k = d
    · rw [if_pos ⟨y, z⟩, y, p_up_at]
    · rw [if_neg (fun x => y x.1), sm_up_off (by omega)]
  · rw [if_neg z]
    refine ⟨_, rfl, fun i hi => sm_up_ne _ _ _ _ _ hi, fun k => ?_⟩
    rw [if_neg (fun x => z x.2)]
    by_cases y : k = d
    · rw [y, p_up_at]
    · rw [sm_up_off (by omega)]
theorem t_ord2 {a d : Nat} (ha : 1 ≤ a) (ha2 : a ≤ 3) (hd : d < 6) (g : sm_H) : ∃ g', f_mo_order_L72 114 (nI a) (nI d) g = some g' ∧ (∀ i, i ≠ 124 → g' i = g i) ∧ ∀ k, g' 124 k = if k = d ∧ g 124 d = 0 then nI (a - 1) else g 124 k := by
  have e : nI a - 1 = nI (a - 1) := nI_sub (b := 1) ha
  unfold f_mo_order_L72 f_mo_order_L98
  simp (disch := omega) only [Nat.reduceAdd, sm_inb_nI, s_true, nI_clamp, sm_let, e]
  by_cases z : g 124 d = 0
  · rw [if_pos z]
    refine ⟨_, rfl, fun i hi => sm_up_ne _ _ _ _ _ hi, fun k => ?_⟩
    by_cases y : k = d
    · rw [if_pos ⟨y, z⟩, y, p_up_at]
    · rw [if_neg (fun x => y x.1), sm_up_off (by omega)]
  · rw [if_neg z]
    refine ⟨_, rfl, fun i hi => sm_up_ne _ _ _ _ _ hi, fun k => ?_⟩
    rw [if_neg (fun x => z x.2)]
    by_cases y : k = d
    · rw [y, p_up_at]
    · rw [sm_up_off (by omega)]
theorem p_ru.set {x y : Int32} (e : p_ru x y) {v : Int32} (hv : v = 1 ∨ v = 2) (c : Prop) [Decidable c] : p_ru (if c ∧ x = 0 then v else x) (if c ∧ y = 0 then v else y) := by
  rw [← e.1]
  refine ⟨rfl, ?_⟩
  split
  · exact Or.inr hv
  · exact e.2
theorem p_RU.damper (U : p_RU h g) {h' g' : sm_H} {d : Nat} (hd : d < 16) {v : Int32} (hv : v = 1 ∨ v = 2) (e1 : ∀ k, h' 108 k = if k = d ∧ h 108 d = 0 then v else h 108 k) (e2 : ∀ k, g' 123 k = if k = d ∧ g 123 d = 0 then v else g 123 k) (e3 : g' 124 = g 124) : p_RU h' g' := by
  refine ⟨fun k hk => ?_, fun k hk => ?_⟩
  · rw [e1, e2]
    by_cases z : k = d
    · subst z
      exact (U.1 k hk).set hv (k = k)
    · rw [if_neg (fun y => z y.1), if_neg (fun y => z y.1)]
      exact U.1 k hk
  · rw [e1, e3, if_neg (by omega)]
    exact U.2 k hk
theorem p_RU.fan (U : p_RU h g) {h' g' : sm_H} {d : Nat} (hd : d < 6) {v : Int32} (hv : v = 1 ∨ v = 2) (e1 : ∀ k, h' 108 k = if k = 16 + d ∧ h 108 (16 + d) = 0 then v else h 108 k) (e2 : ∀ k, g' 124 k = if k = d ∧ g 124 d = 0 then v else g 124 k) (e3 : g' 123 = g 123) : p_RU h' g' := by
  refine ⟨fun k hk => ?_, fun k hk => ?_⟩
  · rw [e1, e3, if_neg (by omega)]
    exact U.1 k hk
  · rw [e1, e2]
    by_cases z : k = d
    · subst z
      have := (U.2 k hk).set hv (k = k)
      simp only [true_and] at this ⊢
      exact this
    · rw [if_neg (by omega), if_neg (fun y => z y.1)]
      exact U.2 k hk
theorem t_zone (V : p_V s p Z D F R h (g 115)) (U : p_RU h g) {z : Nat} (hz : z < Z) {u v : Int32} (hu : u = 1 ∨ u = 2) (hv : v = 1 ∨ v = 2) : ∃ h' g', f_co_ruleZone 107 p (nI z) u v h = some h' ∧ f_mo_orderDampers 114 (nI z) u v g = some g' ∧ p_F1 h h' ∧ p_G1 g g' ∧ p_RU h' g' := by
  obtain ⟨⟨c1, c2, c3, c4, c5⟩, -, ⟨d1, d2⟩, -, -⟩ := V.cnt
  have Pd := V.2.2.2.2.2.1
  have hp := V.1
  have l1 : (1 : Int32).toNatClampNeg = 1 := by decide
  have L : ∀ n i h1 g1, D - i < n → i ≤ D → p_F1 h h1 → p_G1 g g1 → p_RU h1 g1 → ∃ h' g', f_co_ruleZone_L3 n 107 p (nI z) u v (nI i) h1 = some h' ∧ f_mo_orderDampers_L3 n 114 (nI z) u v (nI i) g1 = some g' ∧ p_F1 h h' ∧ p_G1 g g' ∧ p_RU h' g' := by
    intro n
    induction n with
    | zero => intro i h1 g1 y; omega
    | succ n ih =>
      intro i h1 g1 a1 a2 f1 f2 U1
      have r115 : g1 115 = g 115 := f2 _ (by omega)
      have rp : ∀ o, o ≤ 15 → h1 (p + o) = h (p + o) := fun o ho => f1 _ (by omega)
      unfold f_co_ruleZone_L3 f_mo_orderDampers_L3
      rw [show h1 p 1 = nI D by rw [f1 p (by omega)]; exact d1, s_i1, l1, show g1 (114 + 1) 1 = nI D by rw [r115]; exact d2]
      by_cases y : i = D
      · rw [if_pos (nI_le (by omega) (by omega)), if_pos (nI_le (by omega) (by omega))]
        exact ⟨h1, g1, rfl, rfl, f1, f2, U1⟩
      · obtain ⟨k, zz, r, k1, k2, -, -, e1, e2, e3, e4, -⟩ := Pd i (by omega)
        rw [if_neg (nI_ge (by omega) (by omega)), if_neg (nI_ge (by omega) (by omega))]
        have E1 : h1 (p + 3) i = nI zz := by rw [rp 3 (by omega)]; exact e3
        have E2 : h1 (p + 1) i = nI k := by rw [rp 1 (by omega)]; exact e1
        have E3 : g1 115 (10 + 4 * i + 1) = nI zz := by rw [r115, show 10 + 4 * i + 1 = 11 + 4 * i by omega]; exact e4
        have E4 : g1 115 (10 + 4 * i + 0) = nI k := by rw [r115]; exact e2
        simp (disch := omega) only [sm_inb_nI, s_true, nI_clamp, sm_b2, s_l1, s_l0, e_damperOf, Option.bind_some, E1, E2, E3, E4, nI_eq]
        have skip : ∃ h' g', f_co_ruleZone_L45 (f_co_ruleZone_L3 n) 107 p (nI z) u v (nI i) h1 = some h' ∧ f_mo_orderDampers_L57 (f_mo_orderDampers_L3 n) 114 (nI z) u v (nI i) g1 = some g' ∧ p_F1 h h' ∧ p_G1 g g' ∧ p_RU h' g' := by
          simp only [f_co_ruleZone_L45, f_mo_orderDampers_L57, sm_let, nI_1]
          exact ih (i + 1) h1 g1 (by omega) (by omega) f1 f2 U1
        by_cases x : zz = z
        · rw [if_pos x, if_pos x]
          have set : ∀ w, w = 1 ∨ w = 2 → ∃ h' g', f_co_ruleZone_L42 (f_co_ruleZone_L3 n) 107 p (nI z) u v (nI i) w (nI i) 107 h1 = some h' ∧ (if g1 123 i = nI 0 then f_mo_orderDampers_L56 (f_mo_orderDampers_L3 n) 114 (nI z) u v (nI i) w (nI i) 123 g1 else f_mo_orderDampers_L57 (f_mo_orderDampers_L3 n) 114 (nI z) u v (nI i) g1) = some g' ∧ p_F1 h h' ∧ p_G1 g g' ∧ p_RU h' g' := by
            intro w hw
            obtain ⟨h2, m1, m2, m3⟩ := t_rule1 (d := i) (by omega) w h1
            have f3 : p_F1 h h2 := fun j hj => (m2 j hj).trans (f1 j hj)
            simp only [f_co_ruleZone_L42, f_co_ruleZone_L45, m1, Option.bind_some, sm_let, nI_1]
            by_cases x0 : g1 123 i = nI 0
            · rw [if_pos x0]
              simp (disch := omega) only [f_mo_orderDampers_L56, f_mo_orderDampers_L57, sm_inb_nI, s_true, nI_clamp, sm_let, nI_1]
              refine ih (i + 1) h2 _ (by omega) (by omega) f3 (fun j hj => (sm_up_ne _ _ _ _ _ (by omega)).trans (f2 j hj)) (U1.damper (d := i) (by omega) hw m3 (fun j => ?_) (sm_up_ne _ _ _ _ _ (by omega)))
              by_cases yy : j = i
              · rw [if_pos ⟨yy, x0⟩, yy, p_up_at]
              · rw [if_neg (fun b => yy b.1), sm_up_off (by omega)]
            · rw [if_neg x0]
              simp only [f_mo_orderDampers_L57, sm_let, nI_1]
              exact ih (i + 1) h2 g1 (by omega) (by omega) f3 f2 (U1.damper (d := i) (by omega) hw m3 (fun j => by rw [if_neg (fun b => x0 b.2)]) rfl)
          by_cases k0 : k = 0
          · simp only [if_pos k0]
            exact set u hu
          · simp only [if_neg k0]
            exact set v hv
        · rw [if_neg x, if_neg x]
          exact skip
  exact L sm_N 0 h g (by unfold sm_N; omega) (by omega) (fun _ _ => rfl) (fun _ _ => rfl) U
theorem t_act (V : p_V s p Z D F R h (g 115)) (U : p_RU h g) {a b : Int32} (ok : p_oka Z D F a b) : ∃ h' g', f_co_act 107 p a b h = some h' ∧ f_mo_order 114 a b g = some g' ∧ p_F1 h h' ∧ p_G1 g g' ∧ p_RU h' g' := by
  obtain ⟨⟨c1, c2, c3, c4, c5⟩, -, ⟨d1, d2⟩, -, -⟩ := V.cnt
  have v1 : (1 : Int32) = 1 ∨ (1 : Int32) = 2 := Or.inl rfl
  have v2 : (2 : Int32) = 1 ∨ (2 : Int32) = 2 := Or.inr rfl
  unfold f_co_act f_mo_order
  rcases ok with ⟨d, hd, rfl, rfl | rfl⟩ | ⟨d, hd, rfl, rfl | rfl⟩ | ⟨d, hd, rfl, rfl | rfl | rfl | rfl⟩
  · obtain ⟨h', e1, e2, e3⟩ := t_rule1 (d := d) (by omega) 1 h
    obtain ⟨g', e4, e5, e6⟩ := t_ord1 (a := 0) (d := d) (by omega) (by omega) g
    rw [if_pos rfl, if_pos rfl, e1]
    exact ⟨h', g', rfl, e4, e2, fun i hi => e5 i (by omega), U.damper (by omega) v1 e3 e6 (e5 _ (by omega))⟩
  · obtain ⟨h', e1, e2, e3⟩ := t_rule1 (d := d) (by omega) 2 h
    obtain ⟨g', e4, e5, e6⟩ := t_ord1 (a := 1) (d := d) (by omega) (by omega) g
    rw [if_neg (by decide), if_pos rfl, if_neg (by decide), if_pos rfl, e1]
    exact ⟨h', g', rfl, e4, e2, fun i hi => e5 i (by omega), U.damper (by omega) v2 e3 e6 (e5 _ (by omega))⟩
  · obtain ⟨h', e1, e2, e3⟩ := t_rule1 (d := 16 + d) (by omega) 1 h
    obtain ⟨g', e4, e5, e6⟩ := t_ord2 (a := 2) (d := d) (by omega) (by omega) (by omega) g
    rw [if_neg (by decide), if_neg (by decide), if_pos rfl, if_neg (by decide), if_neg (by decide), if_pos rfl, show (16 : Int32) + nI d = nI (16 + d) from nI_add 16 d, e1]
    exact ⟨h', g', rfl, e4, e2, fun i hi => e5 i (by omega), U.fan (by omega) v1 e3 e6 (e5 _ (by omega))⟩
  · obtain ⟨h', e1, e2, e3⟩ := t_rule1 (d := 16 + d) (by omega) 2 h
    obtain ⟨g', e4, e5, e6⟩ := t_ord2 (a := 3) (d := d) (by omega) (by omega) (by omega) g
    rw [if_neg (by decide), if_neg (by decide), if_neg (by decide), if_pos rfl, if_neg (by decide), if_neg (by decide), if_neg (by decide), if_pos rfl, show (16 : Int32) + nI d = nI (16 + d) from nI_add 16 d, e1]
    exact ⟨h', g', rfl, e4, e2, fun i hi => e5 i (by omega), U.fan (by omega) v2 e3 e6 (e5 _ (by omega))⟩
  · obtain ⟨h', g', e1, e2, e3⟩ := t_zone V U hd v2 v1
    rw [if_neg (by decide), if_neg (by decide), if_neg (by decide), if_neg (by decide), if_pos rfl, if_neg (by decide), if_neg (by decide), if_neg (by decide), if_neg (by decide), if_pos rfl, e1, e2]
    exact ⟨h', g', rfl, rfl, e3⟩
  · obtain ⟨h', g', e1, e2, e3⟩ := t_zone V U hd v1 v2
    rw [if_neg (by decide), if_neg (by decide), if_neg (by decide), if_neg (by decide), if_neg (by decide), if_pos rfl, if_neg (by decide), if_neg (by decide), if_neg (by decide), if_neg (by decide), if_neg (by decide), if_pos rfl, e1, e2]
    exact ⟨h', g', rfl, rfl, e3⟩
  · obtain ⟨h', g', e1, e2, e3⟩ := t_zone V U hd v2 v2
    rw [if_neg (by decide), if_neg (by decide), if_neg (by decide), if_neg (by decide), if_neg (by decide), if_neg (by decide), if_pos rfl, if_neg (by decide), if_neg (by decide), if_neg (by decide), if_neg (by decide), if_neg (by decide), if_neg (by decide), if_pos rfl, e1, e2]
    exact ⟨h', g', rfl, rfl, e3⟩
  · obtain ⟨h', g', e1, e2, e3⟩ := t_zone V U hd v1 v1
    rw [if_neg (by decide), if_neg (by decide), if_neg (by decide), if_neg (by decide), if_neg (by decide), if_neg (by decide), if_neg (by decide), if_neg (by decide), if_neg (by decide), if_neg (by decide), if_neg (by decide), if_neg (by decide), if_neg (by decide), if_neg (by decide), e1, e2]
    exact ⟨h', g', rfl, rfl, e3⟩
end p_rules
