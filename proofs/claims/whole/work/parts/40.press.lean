-- DOORS, AREAS, PRESSURE
def p_ar (w : Nat → Int32) (P : Nat → Bool) : Nat → Nat
  | 0 => 0
  | d + 1 => p_ar w P d + (w (if P d = true then 100 + 3 * d else 99 + 3 * d)).toNatClampNeg
theorem p_ar_s (w : Nat → Int32) (P : Nat → Bool) (d : Nat) : p_ar w P (d + 1) = p_ar w P d + (w (if P d = true then 100 + 3 * d else 99 + 3 * d)).toNatClampNeg := rfl
theorem p_ar_ext {w : Nat → Int32} {P Q : Nat → Bool} : ∀ n, (∀ d, d < n → P d = Q d) → p_ar w P n = p_ar w Q n := by
  intro n
  induction n with
  | zero => intro _; rfl
  | succ n ih =>
    intro h
    unfold p_ar
    rw [ih (fun d hd => h d (by omega)), h n (by omega)]
theorem p_up_row {h : sm_H} {i j k : Nat} {f : Nat → Int32} {v : Int32} (e : ¬ i = j) : sm_up (sm_row h j f) i k v = sm_row (sm_up h i k v) j f := by
  funext a b
  unfold sm_up sm_row
  by_cases z : a = j
  · subst z
    rw [if_neg (fun y => e y.1.symm), if_pos rfl, if_pos rfl]
  · rw [if_neg z]
    by_cases y : a = i ∧ b = k
    · rw [if_pos y, if_neg z]
      exact (if_pos y).symm
    · rw [if_neg y, if_neg z]
      exact (if_neg y).symm
theorem sm_shb (b : Bool) (k j : Nat) (hk : k < 32) (hj : j < 32) : sm_bt ((sm_b2i b) <<< (nI k &&& 31)) j = (b && decide (j = k)) := by
  cases b
  · have g : ((List.range 32).all fun k => (List.range 32).all fun j => sm_bt ((0 : Int32) <<< (nI k &&& 31)) j == false) = true := by decide +kernel
    have := List.all_eq_true.mp (List.all_eq_true.mp g k (List.mem_range.mpr hk)) j (List.mem_range.mpr hj)
    exact eq_of_beq this
  · exact sm_shl k j hk hj
section p_press
variable {s p Y Z D F R t : Nat} {h g : sm_H} {q w : Nat → Int32}
theorem p_ar_b (P : p_PL Z D F R p h w) (Q : Nat → Bool) : ∀ n, n ≤ R → n ≤ p_ar w Q n ∧ p_ar w Q n ≤ 500 * n := by
  intro n
  induction n with
  | zero => intro _; exact ⟨Nat.le_refl _, Nat.le_refl _⟩
  | succ n ih =>
    intro hn
    obtain ⟨z, a, b, -, a1, a2, b1, b2, -, -, -, e1, -, e2⟩ := P.2.2.2.2.1 n (by omega)
    have := ih (by omega)
    unfold p_ar
    cases Q n
    · rw [if_neg (by decide), e1, nI_clamp (by omega)]
      omega
    · rw [if_pos rfl, e2, nI_clamp (by omega)]
      omega
theorem t_areaC (P : p_PL Z D F R p h w) (x : Int32) : f_pl_area p x h = some (nI (p_ar w (sm_bt x) R), h) := by
  obtain ⟨c1, c2, c3, c4, c5⟩ := P.1
  have hR : h p 3 = nI R := P.2.1.2.2.2.2.2.2.1
  have L : ∀ n i, R - i < n → i ≤ R → f_pl_area_L4 n p x (nI (p_ar w (sm_bt x) i)) (nI i) h = some (nI (p_ar w (sm_bt x) R), h) := by
    intro n
    induction n with
    | zero => intro i z; omega
    | succ n ih =>
      intro i h1 h2
      unfold f_pl_area_L4
      rw [hR]
      by_cases z : i = R
      · rw [if_pos (nI_le (by omega) (by omega)), z]
        rfl
      · obtain ⟨_, a, b, -, a1, a2, b1, b2, -, -, e3, e1, e4, e2⟩ := P.2.2.2.2.1 i (by omega)
        have := ih (i + 1) (by omega) (by omega)
        rw [p_ar_s] at this
        rw [if_neg (nI_ge (by omega) (by omega)), e_has _ _ _ (by omega)]
        have gi : sm_inb (nI i) 10 = true := sm_inb_nI (by omega) (by omega)
        have ci : (nI i).toNatClampNeg = i := nI_clamp (by omega)
        simp only [sm_b2, Option.bind_some, f_pl_area_L36, sm_let, gi, ci, s_true, e3, e4, nI_add, nI_1]
        cases hb : sm_bt x i
        · rw [hb, if_neg (show ¬ false = true by decide), e1, nI_clamp (by omega)] at this
          rw [if_pos s_bf]
          exact this
        · rw [hb, if_pos (show true = true from rfl), e2, nI_clamp (by omega)] at this
          rw [if_neg s_bt]
          exact this
  exact L sm_N 0 (by unfold sm_N; omega) (by omega)
theorem t_areaR (P : p_PL Z D F R p h (g 115)) (x : Int32) : f_mo_areaOf 114 x g = some (nI (p_ar (g 115) (sm_bt x) R), g) := by
  obtain ⟨c1, c2, c3, c4, c5⟩ := P.1
  have hR : g 115 3 = nI R := P.2.1.2.2.2.2.2.2.2.1
  have L : ∀ n i, R - i < n → i ≤ R → f_mo_areaOf_L4 n 114 x (nI (p_ar (g 115) (sm_bt x) i)) (nI i) g = some (nI (p_ar (g 115) (sm_bt x) R), g) := by
    intro n
    induction n with
    | zero => intro i z; omega
    | succ n ih =>
      intro i h1 h2
      unfold f_mo_areaOf_L4
      rw [s_i3, s_c3, show g (114 + 1) 3 = nI R from hR]
      by_cases z : i = R
      · rw [if_pos (nI_le (by omega) (by omega)), z]
        rfl
      · obtain ⟨_, a, b, -, a1, a2, b1, b2, -, -, e3, e1, e4, e2⟩ := P.2.2.2.2.1 i (by omega)
        have := ih (i + 1) (by omega) (by omega)
        rw [p_ar_s] at this
        rw [if_neg (nI_ge (by omega) (by omega)), e_hasBit _ _ _ (by omega)]
        have hi : i < 10 := by omega
        simp only [sm_b2, Option.bind_some, f_mo_areaOf_L30, sm_let, e_rO1 hi, e_rO2 hi, e1, e2, nI_add, nI_1]
        cases hb : sm_bt x i
        · rw [hb, if_neg (show ¬ false = true by decide), e1, nI_clamp (by omega)] at this
          rw [if_pos s_bf]
          exact this
        · rw [hb, if_pos (show true = true from rfl), e2, nI_clamp (by omega)] at this
          rw [if_neg s_bt]
          exact this
  exact L sm_N 0 (by unfold sm_N; omega) (by omega)
theorem t_openDoors (P : p_PL Z D F R p h (g 115)) (S : p_ST Y Z D F R s h (g 117) t) : ∃ x, f_mo_openDoors 114 g = some (x, g) ∧ ∀ j, j < 32 → sm_bt x j = (decide (j < R) && sm_bt (h s 6) j) := by
  obtain ⟨c1, c2, c3, c4, c5⟩ := P.1
  have hR : g 115 3 = nI R := P.2.1.2.2.2.2.2.2.2.1
  have L : ∀ n i x, R - i < n → i ≤ R → (∀ j, j < 32 → sm_bt x j = (decide (j < i) && sm_bt (h s 6) j)) → ∃ x', f_mo_openDoors_L4 n 114 x (nI i) g = some (x', g) ∧ ∀ j, j < 32 → sm_bt x' j = (decide (j < R) && sm_bt (h s 6) j) := by
    intro n
    induction n with
    | zero => intro i x z; omega
    | succ n ih =>
      intro i x h1 h2 h3
      unfold f_mo_openDoors_L4
      rw [s_i3, s_c3, show g (114 + 1) 3 = nI R from hR]
      by_cases z : i = R
      · rw [if_pos (nI_le (by omega) (by omega))]
        exact ⟨x, rfl, by rw [← z]; exact h3⟩
      · have e : g 117 (190 + i) = sm_b2i (sm_bt (h s 6) i) := S.2.1 0 6 i _ (w_door (by omega))
        have gi : sm_inb (nI (190 + i)) 350 = true := sm_inb_nI (by omega) (by omega)
        have ci : (nI (190 + i)).toNatClampNeg = 190 + i := nI_clamp (by omega)
        rw [if_neg (nI_ge (by omega) (by omega)), show (190 : Int32) + nI i = nI (190 + i) from nI_add 190 i]
        simp only [sm_let, gi, ci, s_true, Nat.reduceAdd, e, nI_1]
        refine ih (i + 1) _ (by omega) (by omega) (fun j hj => ?_)
        rw [sm_bt_or, sm_shb _ _ _ (by omega) hj, h3 j hj]
        by_cases y : j = i
        · subst y
          simp
        · rw [decide_eq_false y, Bool.and_false, Bool.or_false]
          congr 1
          rw [decide_eq_decide]
          omega
  exact L sm_N 0 0 (by unfold sm_N; omega) (by omega) (fun j hj => by rw [sm_bt0]; simp)
-- the pressure of an air by an area
def p_pr (q : Int32) (A : Nat) : Int32 := if A = 0 then 0 else if q * q / (nI A * nI A) < 999 then q * q / (nI A * nI A) else 999
theorem t_pressC (P : p_PL Z D F R p h w) (q x : Int32) : f_pl_pressureOf p q x h = some (p_pr q (p_ar w (sm_bt x) R), h) := by
  obtain ⟨c1, c2, c3, c4, c5⟩ := P.1
  have b := p_ar_b P (sm_bt x) R (Nat.le_refl _)
  unfold f_pl_pressureOf f_pl_pressureOf_L27 p_pr
  rw [t_areaC P]
  simp only [sm_b2, Option.bind_some]
  generalize p_ar w (sm_bt x) R = A at b ⊢
  by_cases z : A = 0
  · rw [if_pos (show nI A ≤ (0 : Int32) by rw [z]; decide), if_pos z]
  · have nz : sm_nz (nI A * nI A) = true := by
      rw [nI_mul]
      have h1 : A * A ≤ 5000 * 5000 := Nat.mul_le_mul (by omega) (by omega)
      exact s_nz (Nat.mul_pos (by omega) (by omega)) (by omega)
    rw [if_neg (nI_nle (by omega) (by omega)), if_neg z, nz, s_true, s_min]
    rfl
theorem t_pressR {A : Nat} (hA : A ≤ 5000) (q : Int32) : f_mo_pressureBy q (nI A) g = some (p_pr q A, g) := by
  unfold f_mo_pressureBy f_mo_pressureBy_L21 p_pr
  by_cases z : A = 0
  · rw [if_pos (show nI A = (0 : Int32) by rw [z]; rfl), if_pos z]
  · have nz : sm_nz (nI A * nI A) = true := by
      rw [nI_mul]
      have h1 : A * A ≤ 5000 * 5000 := Nat.mul_le_mul (by omega) (by omega)
      exact s_nz (Nat.mul_pos (by omega) (by omega)) (by omega)
    rw [if_neg (nI_ne0 (by omega) (by omega)), if_neg z, nz, s_true, s_lesser]
    rfl
theorem p_pr_n {Q A : Nat} (hQ : Q ≤ 6000) (hA : A ≤ 5000) : ∃ P, P ≤ 999 ∧ p_pr (nI Q) A = nI P ∧ P = if A = 0 then 0 else min 999 (Q * Q / (A * A)) := by
  refine ⟨_, ?_, ?_, rfl⟩
  · split <;> omega
  · unfold p_pr
    by_cases z : A = 0
    · rw [if_pos z, if_pos z]
      rfl
    · have h1 : A * A ≤ 5000 * 5000 := Nat.mul_le_mul (by omega) (by omega)
      have h2 : Q * Q ≤ 6000 * 6000 := Nat.mul_le_mul (by omega) (by omega)
      have h3 : Q * Q / (A * A) ≤ Q * Q := Nat.div_le_self _ _
      have h4 : 0 < A * A := Nat.mul_pos (by omega) (by omega)
      rw [if_neg z, if_neg z, nI_mul, nI_mul, pk_div (by omega) h4 (by omega)]
      generalize Q * Q / (A * A) = x at h3 ⊢
      by_cases y : x < 999
      · rw [if_pos (show nI x < (999 : Int32) from nI_lt (b := 999) y (by omega)), Nat.min_eq_right (by omega)]
      · rw [if_neg (show ¬ nI x < (999 : Int32) from nI_nlt (b := 999) (by omega) (by omega)), Nat.min_eq_left (by omega)]
        rfl
-- the air of the stair fans
theorem t_stairAir (V : p_V s p Z D F R h (g 115)) (S : p_ST Y Z D F R s h (g 117) t) (K : p_RK Z D F s h (g 117) (g 115)) : ∃ Q, Q ≤ 6000 ∧ f_st_stairAir s h = some (nI Q, h) ∧ f_mo_stairAir 114 g = some (nI Q, g) := by
  obtain ⟨i1, i2⟩ := V.isP
  obtain ⟨⟨c1, c2, c3, c4, c5⟩, -, -, ⟨f1, f2⟩, -⟩ := V.cnt
  have L : ∀ n i a, F - i < n → i ≤ F → a ≤ 999 * i → ∃ Q, Q ≤ 6000 ∧ f_st_stairAir_L4 n s (nI a) (nI i) h = some (nI Q, h) ∧ f_mo_stairAir_L4 n 114 (nI a) (nI i) g = some (nI Q, g) := by
    intro n
    induction n with
    | zero => intro i a z; omega
    | succ n ih =>
      intro i a h1 h2 h3
      unfold f_st_stairAir_L4 f_mo_stairAir_L4
      rw [i1, s_true, i2, s_i2, s_c2, show g (114 + 1) 2 = nI F from f2]
      simp only [sm_let, f1, s_true]
      by_cases z : i = F
      · rw [if_pos (nI_le (by omega) (by omega)), if_pos (nI_le (by omega) (by omega))]
        exact ⟨a, by omega, rfl, rfl⟩
      · have hi : i < F := by omega
        have hi6 : i < 6 := by omega
        obtain ⟨kk, vv, r, -, v1, v2, r1, r2, ek1, ek2, ev1, ev2, er1, er2, -⟩ := V.2.2.2.2.2.2.1 i hi
        obtain ⟨⟨Lv, r', hL, hr', hLr, hr31⟩, -, -⟩ := K.2.2.1 i hi
        have hlv : h (s + 3) (16 + i) = nI Lv := by rw [← hL]; exact S.1 3 (16 + i) _ (q_lev hi)
        have hr30 : r' = r := by
          rw [er2] at hr'
          exact ((nI_eq (by omega) (by omega)).mp hr').symm
        have m1 : vv * Lv ≤ vv * r := Nat.mul_le_mul_left _ (by omega)
        have m2 : vv * r ≤ 999 * 30 := Nat.mul_le_mul (by omega) (by omega)
        have d1 : vv * Lv / r ≤ vv := Nat.div_le_of_le_mul (by rw [Nat.mul_comm r]; exact m1)
        rw [if_neg (nI_ge (by omega) (by omega)), if_neg (nI_ge (by omega) (by omega)), t_isStair hi6]
        simp only [sm_b2, Option.bind_some, e_fO0 hi6, t_fanAir V.1 V.2.2.1 hi6 r1 r2 er1, t_airOf hi6 r1 r2 er2, ek1, ek2, ev1, ev2, hlv, hL, nI_mul, f_st_stairAir_L36, f_mo_stairAir_L35, sm_let]
        rw [pk_div (by omega) (by omega) (by omega)]
        by_cases y : nI kk = 2
        · rw [if_pos y, decide_eq_true y, if_neg s_bt, nI_add, nI_1]
          exact ih (i + 1) _ (by omega) (by omega) (by omega)
        · rw [if_neg y, decide_eq_false y, if_pos s_bf, nI_1, Int32.add_zero]
          exact ih (i + 1) _ (by omega) (by omega) (by omega)
  exact L sm_N 0 0 (by unfold sm_N; omega) (by omega) (by omega)
theorem t_wanted (V : p_V s p Z D F R h (g 115)) (cm : ∀ f, f < F → p_cm (h 109 (16 + f)) (g 127 f)) : ∃ b, f_en_isStairFanStarted 106 p h = some (sm_b2i b, h) ∧ f_mo_isStairWanted 114 g = some (sm_b2i b, g) := by
  obtain ⟨⟨c1, c2, c3, c4, c5⟩, -, -, ⟨f1, f2⟩, -⟩ := V.cnt
  have L : ∀ n i, F - i < n → i ≤ F → ∃ b, f_en_isStairFanStarted_L2 n 106 p (nI i) h = some (sm_b2i b, h) ∧ f_mo_isStairWanted_L2 n 114 (nI i) g = some (sm_b2i b, g) := by
    intro n
    induction n with
    | zero => intro i z; omega
    | succ n ih =>
      intro i h1 h2
      unfold f_en_isStairFanStarted_L2 f_mo_isStairWanted_L2
      rw [s_i2, s_c2, show g (114 + 1) 2 = nI F from f2, f1]
      by_cases z : i = F
      · rw [if_pos (nI_le (by omega) (by omega)), if_pos (nI_le (by omega) (by omega))]
        exact ⟨false, rfl, rfl⟩
      · have hi : i < F := by omega
        have hi6 : i < 6 := by omega
        obtain ⟨kk, vv, r, -, -, -, -, -, ek1, ek2, -⟩ := V.2.2.2.2.2.2.1 i hi
        have gi : sm_inb (nI (16 + i)) 23 = true := sm_inb_nI (by omega) (by omega)
        have ci : (nI (16 + i)).toNatClampNeg = 16 + i := nI_clamp (by omega)
        have gf : sm_inb (nI i) 6 = true := sm_inb_nI (by omega) (by omega)
        have cf : (nI i).toNatClampNeg = i := nI_clamp (by omega)
        have cmd : (g 127 i = 1) = (h 109 (16 + i) = 1) := by
          rcases cm i hi with ⟨x, y⟩ | ⟨x, y⟩ <;> rw [x, y]
          decide
        rw [if_neg (nI_ge (by omega) (by omega)), if_neg (nI_ge (by omega) (by omega)), t_isStair hi6, show (16 : Int32) + nI i = nI (16 + i) from nI_add 16 i]
        simp only [sm_b2, Option.bind_some, e_fO0 hi6, ek1, ek2, gi, ci, gf, cf, s_true, Nat.reduceAdd, f_en_isStairFanStarted_L36, f_mo_isStairWanted_L34, sm_let, nI_1]
        have nx := ih (i + 1) (by omega) (by omega)
        by_cases y : nI kk = 2
        · rw [if_pos y, decide_eq_true y, if_neg s_bt]
          by_cases x : h 109 (16 + i) = 1
          · rw [if_pos x, if_pos (by rw [cmd]; exact x)]
            exact ⟨true, rfl, rfl⟩
          · rw [if_neg x, if_neg (by rw [cmd]; exact x)]
            exact nx
        · rw [if_neg y, decide_eq_false y, if_pos s_bf]
          exact nx
  exact L sm_N 0 (by unfold sm_N; omega) (by omega)
end p_press
