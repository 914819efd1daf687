-- CONDITIONS: a stack of bits on one side, an array of truth values on the other
def p_RK (Z D F s : Nat) (h : sm_H) (q : Nat → Int32) (w : Nat → Int32) : Prop :=
  ((q 1 = 0 ∨ q 1 = 1) ∧ ∃ v, v ≤ 100 ∧ q 2 = nI v) ∧
  (∀ d, d < D → (∃ P T, q (42 + 7 * d) = nI P ∧ w (12 + 4 * d) = nI T ∧ P ≤ T ∧ T ≤ 30) ∧ (∃ v, v ≤ 2 ∧ q (44 + 7 * d) = nI v) ∧ ∃ v, v ≤ 2 ∧ q (45 + 7 * d) = nI v) ∧
  (∀ f, f < F → (∃ P T, q (154 + 6 * f) = nI P ∧ w (76 + 4 * f) = nI T ∧ P ≤ T ∧ T ≤ 30) ∧ (∃ v, v ≤ 2 ∧ q (156 + 6 * f) = nI v) ∧ ∃ v, v ≤ 2 ∧ q (157 + 6 * f) = nI v) ∧
  (∀ j, j < 32 → sm_bt (h (s + 8) 0) j = true → j < Z) ∧ (∀ j, j < 32 → sm_bt (h s 8) j = true → j < D ∨ (16 ≤ j ∧ j < 16 + F) ∨ j = 22) ∧
  ((q 7 = -1 ∧ h (s + 8) 0 = 0) ∨ ∃ z, z < Z ∧ q 7 = nI z ∧ sm_bt (h (s + 8) 0) z = true)
theorem p_RG.rk {Z D F s t j : Nat} {h : sm_H} {q w : Nat → Int32} (S : p_RG Z D F s h q w t j) : p_RK Z D F s h q w := ⟨S.1, S.2.2⟩
def p_V (s p Z D F R : Nat) (h : sm_H) (w : Nat → Int32) : Prop := (p = 1 ∨ p = 24) ∧ (s = 40 ∨ s = 53) ∧ h s 0 = nI p ∧ p_PL Z D F R p h w
theorem p_V.rows {s p Z D F R : Nat} {h h' : sm_H} {w : Nat → Int32} (V : p_V s p Z D F R h w) (e : ∀ i, i ≤ 39 → h' i = h i) (e0 : h' s 0 = h s 0) : p_V s p Z D F R h' w := by
  obtain ⟨v1, v2, v3, v4⟩ := V
  exact ⟨v1, v2, by rw [e0]; exact v3, v4.rows (fun o ho => e _ (by omega))⟩
section p_cond
variable {s p Y Z D F R t : Nat} {h g : sm_H}
theorem p_V.cnt (V : p_V s p Z D F R h (g 115)) : (1 ≤ Z ∧ Z ≤ 8 ∧ D ≤ 16 ∧ F ≤ 6 ∧ R ≤ 10) ∧ (h p 0 = nI Z ∧ g 115 0 = nI Z) ∧ (h p 1 = nI D ∧ g 115 1 = nI D) ∧ (h p 2 = nI F ∧ g 115 2 = nI F) ∧ (h p 3 = nI R ∧ g 115 3 = nI R) := by
  obtain ⟨-, -, -, c, ⟨a1, a2, a3, a4, a5, a6, a7, a8, -⟩, -⟩ := V
  exact ⟨c, ⟨a1, a2⟩, ⟨a3, a4⟩, ⟨a5, a6⟩, a7, a8⟩
theorem p_V.isP (V : p_V s p Z D F R h (g 115)) : sm_isP (h s 0) = true ∧ sm_p (h s 0) = p := by
  rw [V.2.2.1]
  exact p_isPp V.1
theorem t_b2 (c : Prop) [Decidable c] (F0 : Int32 → sm_H → Option (Int32 × sm_H)) (hF : ∀ b, F0 (sm_b2i b) h = some (sm_b2i b, h)) : (if c then F0 1 h else F0 0 h) = some (sm_b2i (decide c), h) := by
  by_cases z : c
  · rw [if_pos z, decide_eq_true z]
    exact hF true
  · rw [if_neg z, decide_eq_false z]
    exact hF false
theorem t_b2n (c : Prop) [Decidable c] (F0 : Int32 → sm_H → Option (Int32 × sm_H)) (hF : ∀ b, F0 (sm_b2i b) h = some (sm_b2i b, h)) : (if c then F0 0 h else F0 1 h) = some (sm_b2i (!decide c), h) := by
  by_cases z : c
  · rw [if_pos z, decide_eq_true z]
    exact hF false
  · rw [if_neg z, decide_eq_false z]
    exact hF true
theorem t_gb (b : Bool) (h : sm_H) : (sm_gd (sm_bz (sm_b2i b)) <| some (sm_b2i b, h)) = some (sm_b2i b, h) := sm_gd_t (sm_b2i_bz b)
theorem p_b2i1 (b : Bool) : (sm_b2i b = 1) = (b = true) := propext (sm_b2i_1 b)
theorem p_b2i0 (b : Bool) : (sm_b2i b = 0) = (b = false) := propext (sm_b2i_0 b)
theorem t_isAlarm : f_mo_isAlarm 114 g = some (sm_b2i (!decide (g 117 7 = -1)), g) := by
  have c : (7 : Int32).toNatClampNeg = 7 := by decide
  unfold f_mo_isAlarm
  rw [sm_gd_t (by decide), c]
  exact t_b2n _ _ (fun b => t_gb b g)
theorem t_isTrouble (V : p_V s p Z D F R h (g 115)) (S : p_ST Y Z D F R s h (g 117) t) (K : p_RK Z D F s h (g 117) (g 115)) : f_mo_isTrouble 114 g = some (sm_b2i (!decide (h s 8 = 0)), g) := by
  obtain ⟨⟨c1, c2, c3, c4, c5⟩, -, ⟨-, d2⟩, ⟨-, f2⟩, -⟩ := V.cnt
  have l1 : (1 : Int32).toNatClampNeg = 1 := by decide
  have l2 : (2 : Int32).toNatClampNeg = 2 := by decide
  have l6 : (6 : Int32).toNatClampNeg = 6 := by decide
  have KF : ∀ n i c, F - i < n → i ≤ F → ∃ v, f_mo_isTrouble_L58 n 114 (sm_b2i c) (nI i) g = some (sm_b2i v, g) ∧ (v = true ↔ c = true ∨ ∃ f, i ≤ f ∧ f < F ∧ sm_bt (h s 8) (16 + f) = true) := by
    intro n
    induction n with
    | zero => intro i c z; omega
    | succ n ih =>
      intro i c h1 h2
      unfold f_mo_isTrouble_L58
      rw [sm_gd_t (by decide), l2, show g (114 + 1) 2 = nI F from f2]
      by_cases z : i = F
      · rw [if_pos (nI_le (by omega) (by omega))]
        exact ⟨c, t_gb c g, ⟨fun y => Or.inl y, fun y => y.elim id (fun ⟨f, y1, y2, _⟩ => absurd y2 (by omega))⟩⟩
      · rw [if_neg (nI_ge (by omega) (by omega))]
        have e : g 117 (154 + 6 * i + 5) = sm_b2i (sm_bt (h s 8) (16 + i)) := by
          rw [show 154 + 6 * i + 5 = 159 + 6 * i by omega]
          exact S.2.1 0 8 (16 + i) (159 + 6 * i) (w_ftr (by omega))
        obtain ⟨v, v1, v2⟩ := ih (i + 1) (c || sm_bt (h s 8) (16 + i)) (by omega) (by omega)
        refine ⟨v, ?_, ?_⟩
        · rw [← v1, ← nI_1]
          simp (disch := omega) only [f_mo_isTrouble_L82, f_mo_isTrouble_L87, sm_let, sm_b2, show (5 : Int32) = nI 5 from rfl, e_fanIs, Option.bind_some, e, p_b2i1, p_b2i0]
          cases c <;> cases sm_bt (h s 8) (16 + i) <;> rfl
        · rw [v2, Bool.or_eq_true]
          constructor
          · rintro ((y | y) | ⟨f, y1, y2, y3⟩)
            · exact Or.inl y
            · exact Or.inr ⟨i, by omega, by omega, y⟩
            · exact Or.inr ⟨f, by omega, y2, y3⟩
          · rintro (y | ⟨f, y1, y2, y3⟩)
            · exact Or.inl (Or.inl y)
            · by_cases x : f = i
              · exact Or.inl (Or.inr (by rw [← x]; exact y3))
              · exact Or.inr ⟨f, by omega, y2, y3⟩
  have KD : ∀ n i c, D - i < n → i ≤ D → ∃ v, f_mo_isTrouble_L19 n 114 (sm_b2i c) (nI i) g = some (sm_b2i v, g) ∧ (v = true ↔ c = true ∨ (∃ d, i ≤ d ∧ d < D ∧ sm_bt (h s 8) d = true) ∨ ∃ f, 0 ≤ f ∧ f < F ∧ sm_bt (h s 8) (16 + f) = true) := by
    intro n
    induction n with
    | zero => intro i c z; omega
    | succ n ih =>
      intro i c h1 h2
      unfold f_mo_isTrouble_L19
      rw [sm_gd_t (by decide), l1, show g (114 + 1) 1 = nI D from d2]
      by_cases z : i = D
      · rw [if_pos (nI_le (by omega) (by omega))]
        obtain ⟨v, v1, v2⟩ := KF sm_N 0 c (by unfold sm_N; omega) (by omega)
        refine ⟨v, v1, ?_⟩
        rw [v2]
        constructor
        · rintro (y | y)
          · exact Or.inl y
          · exact Or.inr (Or.inr y)
        · rintro (y | ⟨d, y1, y2, _⟩ | y)
          · exact Or.inl y
          · omega
          · exact Or.inr y
      · rw [if_neg (nI_ge (by omega) (by omega))]
        have e : g 117 (42 + 7 * i + 6) = sm_b2i (sm_bt (h s 8) i) := by
          rw [show 42 + 7 * i + 6 = 48 + 7 * i by omega]
          exact S.2.1 0 8 i (48 + 7 * i) (w_tr (by omega))
        obtain ⟨v, v1, v2⟩ := ih (i + 1) (c || sm_bt (h s 8) i) (by omega) (by omega)
        refine ⟨v, ?_, ?_⟩
        · rw [← v1, ← nI_1]
          simp (disch := omega) only [f_mo_isTrouble_L44, f_mo_isTrouble_L49, sm_let, sm_b2, show (6 : Int32) = nI 6 from rfl, e_damperIs, Option.bind_some, e, p_b2i1, p_b2i0]
          cases c <;> cases sm_bt (h s 8) i <;> rfl
        · rw [v2, Bool.or_eq_true]
          constructor
          · rintro ((y | y) | ⟨f, y1, y2, y3⟩ | y)
            · exact Or.inl y
            · exact Or.inr (Or.inl ⟨i, by omega, by omega, y⟩)
            · exact Or.inr (Or.inl ⟨f, by omega, y2, y3⟩)
            · exact Or.inr (Or.inr y)
          · rintro (y | ⟨f, y1, y2, y3⟩ | y)
            · exact Or.inl (Or.inl y)
            · by_cases x : f = i
              · exact Or.inl (Or.inr (by rw [← x]; exact y3))
              · exact Or.inr (Or.inl ⟨f, by omega, y2, y3⟩)
            · exact Or.inr (Or.inr y)
  have e6 : g 117 6 = sm_b2i (sm_bt (h s 8) 22) := S.2.1 0 8 22 6 w_pt
  obtain ⟨v, v1, v2⟩ := KD sm_N 0 (sm_bt (h s 8) 22) (by unfold sm_N; omega) (by omega)
  have ev : v = !decide (h s 8 = 0) := by
    by_cases z : h s 8 = 0
    · rw [decide_eq_true z]
      cases v
      · rfl
      · rw [z] at v2
        simp [sm_bt0] at v2
    · rw [decide_eq_false z]
      show v = true
      rw [v2]
      obtain ⟨j, hj, hb⟩ : ∃ j, j < 32 ∧ sm_bt (h s 8) j = true := by
        apply Classical.byContradiction
        intro y
        refine z (sm_bt_ext (fun j hj => ?_))
        rw [sm_bt0]
        cases x : sm_bt (h s 8) j
        · rfl
        · exact absurd ⟨j, hj, x⟩ y
      rcases K.2.2.2.2.1 j hj hb with y | y | y
      · exact Or.inr (Or.inl ⟨j, by omega, y, hb⟩)
      · exact Or.inr (Or.inr ⟨j - 16, by omega, by omega, by rw [show 16 + (j - 16) = j by omega]; exact hb⟩)
      · exact Or.inl (by rw [← y]; exact hb)
  rw [← ev, ← v1]
  unfold f_mo_isTrouble f_mo_isTrouble_L16
  rw [sm_gd_t (by decide), l6, show g (114 + 3) 6 = sm_b2i (sm_bt (h s 8) 22) from e6]
  cases sm_bt (h s 8) 22 <;> rfl
theorem t_test (V : p_V s p Z D F R h (g 115)) (S : p_ST Y Z D F R s h (g 117) t) (K : p_RK Z D F s h (g 117) (g 115)) {a b : Int32} (hok : p_okc Z R F a b) : ∃ v, f_co_testHolds s a b h = some (sm_b2i v, h) ∧ f_mo_holds 114 a b g = some (sm_b2i v, g) := by
  obtain ⟨⟨c1, c2, c3, c4, c5⟩, -, ⟨-, d2⟩, ⟨-, f2⟩, -⟩ := V.cnt
  obtain ⟨i1, i2⟩ := V.isP
  rcases hok with ⟨z, hz, rfl, rfl | rfl⟩ | ⟨z, hz, rfl, rfl⟩ | rfl | ⟨z, hz, rfl, rfl⟩ | rfl
  · refine ⟨sm_bt (h (s + 8) 0) z, ?_, ?_⟩
    · unfold f_co_testHolds
      rw [if_pos rfl, e_has _ _ _ (by omega)]
      exact t_gb _ h
    · have e : g 117 (10 + 4 * z + 2) = sm_b2i (sm_bt (h (s + 8) 0) z) := by
        rw [show 10 + 4 * z + 2 = 12 + 4 * z by omega]
        exact S.2.1 8 0 z _ (w_al hz)
      unfold f_mo_holds
      rw [if_pos rfl, show (2 : Int32) = nI 2 from rfl, e_zoneIs (by omega) (by omega), e]
      show (if sm_b2i (sm_bt (h (s + 8) 0) z) = 1 then f_mo_holds_L51 1 g else f_mo_holds_L51 0 g) = _
      rw [t_b2 _ _ (fun b => t_gb b g)]
      cases sm_bt (h (s + 8) 0) z <;> rfl
  · refine ⟨decide (g 117 7 = nI z), ?_, ?_⟩
    · unfold f_co_testHolds
      rw [if_neg (by decide), if_pos rfl, show h (s + 8) 2 = g 117 7 from S.1 8 2 7 q_first]
      exact t_b2 _ _ (fun b => t_gb b h)
    · unfold f_mo_holds
      have c7 : (7 : Int32).toNatClampNeg = 7 := by decide
      rw [if_neg (by decide), if_pos rfl, sm_gd_t (by decide), c7]
      exact t_b2 _ _ (fun b => t_gb b g)
  · refine ⟨sm_bt (h s 6) z, ?_, ?_⟩
    · unfold f_co_testHolds
      rw [if_neg (by decide), if_neg (by decide), if_pos rfl, e_has _ _ _ (by omega)]
      exact t_gb _ h
    · have e : g 117 (190 + z) = sm_b2i (sm_bt (h s 6) z) := S.2.1 0 6 z _ (w_door hz)
      unfold f_mo_holds
      have ei : (190 : Int32) + nI z = nI (190 + z) := nI_add 190 z
      rw [if_neg (by decide), if_neg (by decide), if_pos rfl, ei, sm_gd_t (sm_inb_nI (by omega) (by omega)), nI_clamp (by omega), show g (114 + 3) (190 + z) = _ from e]
      rw [t_b2 _ _ (fun b => t_gb b g)]
      cases sm_bt (h s 6) z <;> rfl
  · have e0 : h s 1 = g 117 0 := S.1 0 1 0 q_time
    have e8 : h (s + 8) 3 = g 117 8 := S.1 8 3 8 q_since
    have ea : (h (s + 8) 0 = 0) = (g 117 7 = -1) := by
      apply propext
      rcases K.2.2.2.2.2 with ⟨y1, y2⟩ | ⟨x, x1, x2, x3⟩
      · exact ⟨fun _ => y1, fun _ => y2⟩
      · refine ⟨fun y => ?_, fun y => ?_⟩
        · rw [y, sm_bt0] at x3
          cases x3
        · rw [x2] at y
          exact absurd y (p_m1 (by omega))
    have d0 : (0 : Int32).toNatClampNeg = 0 := by decide
    have d8 : (8 : Int32).toNatClampNeg = 8 := by decide
    refine ⟨!decide (g 117 7 = -1) && !decide (g 117 0 - g 117 8 < b), ?_, ?_⟩
    · unfold f_co_testHolds
      rw [if_neg (by decide), if_neg (by decide), if_neg (by decide), if_pos rfl, e0, e8]
      by_cases z : g 117 7 = -1
      · rw [if_pos (by rw [ea]; exact z), decide_eq_true z]
        exact t_gb false h
      · rw [if_neg (by rw [ea]; exact z), decide_eq_false z]
        exact t_b2n _ _ (fun b => t_gb b h)
    · unfold f_mo_holds
      rw [if_neg (by decide), if_neg (by decide), if_neg (by decide), if_pos rfl, t_isAlarm]
      simp only [sm_b2, Option.bind_some]
      by_cases z : g 117 7 = -1
      · rw [decide_eq_true z]
        exact t_gb false g
      · rw [decide_eq_false z, if_neg (by decide), sm_gd_t (by decide), sm_gd_t (by decide), d0, d8]
        exact t_b2n _ _ (fun b => t_gb b g)
  · have e1 : h (s + 3) (16 + z) = g 117 (154 + 6 * z) := S.1 3 (16 + z) _ (q_lev hz)
    obtain ⟨k, v, r, -, -, -, -, -, -, -, -, -, er1, er2, -⟩ := V.2.2.2.2.2.2.1 z hz
    refine ⟨decide (g 117 (154 + 6 * z) = nI r), ?_, ?_⟩
    · unfold f_co_testHolds
      rw [if_neg (by decide), if_neg (by decide), if_neg (by decide), if_neg (by decide), if_pos rfl]
      simp (disch := omega) only [s_l16, nI_add, sm_inb_nI, nI_clamp, s_true, sm_let, i1, i2, e1, er1]
      exact t_b2 _ _ (fun b => t_gb b h)
    · unfold f_mo_holds
      rw [if_neg (by decide), if_neg (by decide), if_neg (by decide), if_neg (by decide), if_pos rfl]
      have e2 : g 115 (74 + 4 * z + 2) = nI r := by
        rw [show 74 + 4 * z + 2 = 76 + 4 * z by omega]
        exact er2
      have e3 : g 117 (154 + 6 * z + 0) = g 117 (154 + 6 * z) := rfl
      rw [show (0 : Int32) = nI 0 from rfl, show (2 : Int32) = nI 2 from rfl, e_fanIs (by omega) (by omega)]
      simp only [sm_b2, Option.bind_some]
      rw [e_fanOf (by omega) (by omega), Option.bind_some, e2, e3]
      exact t_b2 _ _ (fun b => t_gb b g)
  · refine ⟨!decide (h s 8 = 0), ?_, ?_⟩
    · unfold f_co_testHolds
      rw [if_neg (by decide), if_neg (by decide), if_neg (by decide), if_neg (by decide), if_neg (by decide)]
      exact t_b2n _ _ (fun b => t_gb b h)
    · unfold f_mo_holds
      rw [if_neg (by decide), if_neg (by decide), if_neg (by decide), if_neg (by decide), if_neg (by decide), t_isTrouble V S K]
      simp only [sm_b2, Option.bind_some]
      exact t_gb _ g
end p_cond
