-- DOORS: the pressure of a set; the most; the worst
section p_doors
variable {p Z D F R j : Nat} {h : sm_H}
theorem t_full (P : p_PL Z D F R p h (h 115)) : ∃ Q, Q ≤ 6000 ∧ (∀ x, f_pl_fullPressure p x h = some (p_pr (nI Q) (p_ar (h 115) (sm_bt x) R), h)) ∧ ∀ x, f_mo_pressureOf 114 x h = some (p_pr (nI Q) (p_ar (h 115) (sm_bt x) R), h) := by
  obtain ⟨c1, c2, c3, c4, c5⟩ := P.1
  have f1 : h p 2 = nI F := P.2.1.2.2.2.2.1
  have f2 : h 115 2 = nI F := P.2.1.2.2.2.2.2.1
  have L : ∀ n i a, F - i < n → i ≤ F → a ≤ 999 * i → ∃ Q, Q ≤ 6000 ∧ (∀ x, f_pl_fullPressure_L4 n p x (nI a) (nI i) h = f_pl_fullPressure_L39 p x (nI Q) h) ∧ f_mo_fullFlow_L4 n 114 (nI a) (nI i) h = some (nI Q, h) := by
    intro n
    induction n with
    | zero => intro i a y; omega
    | succ n ih =>
      intro i a y1 y2 y3
      unfold f_mo_fullFlow_L4
      rw [s_i2, s_c2, show h (114 + 1) 2 = nI F from f2]
      by_cases y : i = F
      · refine ⟨a, by omega, fun x => ?_, by rw [if_pos (nI_le (by omega) (by omega))]; rfl⟩
        unfold f_pl_fullPressure_L4
        rw [f1, if_pos (nI_le (by omega) (by omega))]
      · have hi : i < F := by omega
        have hi6 : i < 6 := by omega
        have gf : sm_inb (nI i) 6 = true := sm_inb_nI (by omega) (by omega)
        have cf : (nI i).toNatClampNeg = i := nI_clamp (by omega)
        obtain ⟨kk, vv, r, -, v1, v2, -, -, ek1, ek2, ev1, ev2, -⟩ := P.2.2.2.1 i hi
        rw [if_neg (nI_ge (by omega) (by omega)), e_fO0 hi6]
        simp only [sm_b2, Option.bind_some, e_fO1 hi6, ek2, ev2, f_mo_fullFlow_L36, sm_let, nI_1]
        have cls : ∀ x, f_pl_fullPressure_L4 (n + 1) p x (nI a) (nI i) h = f_pl_fullPressure_L4 n p x (nI (a + (if nI kk = 2 then vv else 0))) (nI (i + 1)) h := by
          intro x
          show (if h p 2 ≤ nI i then _ else _) = _
          rw [f1, if_neg (nI_ge (by omega) (by omega)), t_isStair hi6]
          refine w_b2 rfl ?_
          rw [ek1]
          by_cases z : nI kk = 2
          · rw [decide_eq_true z, if_neg s_bt, gf, s_true, cf, ev1, if_pos z]
            unfold f_pl_fullPressure_L31
            simp only [sm_let, nI_1, nI_add]
          · rw [decide_eq_false z, if_pos s_bf, if_neg z]
            unfold f_pl_fullPressure_L31
            simp only [sm_let, nI_1, Int32.add_zero, Nat.add_zero]
        simp only [cls]
        by_cases z : nI kk = 2
        · rw [if_pos z, nI_add]
          have := ih (i + 1) (a + vv) (by omega) (by omega) (by omega)
          simp only [if_pos z]
          exact this
        · rw [if_neg z]
          have := ih (i + 1) a (by omega) (by omega) (by omega)
          simp only [if_neg z, Nat.add_zero]
          exact this
  obtain ⟨Q, q1, q2, q3⟩ := L sm_N 0 0 (by unfold sm_N; omega) (by omega) (by omega)
  refine ⟨Q, q1, fun x => ?_, fun x => ?_⟩
  · unfold f_pl_fullPressure
    refine (q2 x).trans ?_
    unfold f_pl_fullPressure_L39
    rw [t_pressC P]
    rfl
  · unfold f_mo_pressureOf
    refine w_b2 (show f_mo_fullFlow 114 h = _ from q3) ?_
    refine w_b2 (t_areaR P x) ?_
    refine w_b2 (t_pressR (by have := (p_ar_b P (sm_bt x) R (Nat.le_refl _)).2; omega) (nI Q)) ?_
    rfl
-- the pressure as a number
def p_pn (Q A : Nat) : Nat := if A = 0 then 0 else min 999 (Q * Q / (A * A))
theorem p_pn_eq {Q A : Nat} (hQ : Q ≤ 6000) (hA : A ≤ 5000) : p_pr (nI Q) A = nI (p_pn Q A) ∧ p_pn Q A ≤ 999 := by
  obtain ⟨P, a, b, c⟩ := p_pr_n hQ hA
  unfold p_pn
  rw [← c]
  exact ⟨b, a⟩
theorem p_pn_le {Q A B : Nat} (hA : 1 ≤ A) (h : A ≤ B) : p_pn Q B ≤ p_pn Q A := by
  unfold p_pn
  rw [if_neg (by omega), if_neg (by omega)]
  have h1 : A * A ≤ B * B := Nat.mul_le_mul h h
  have h2 : Q * Q / (B * B) ≤ Q * Q / (A * A) := Nat.div_le_div_left h1 (Nat.mul_pos hA hA)
  omega
theorem i_pow {n : Nat} (hn : n ≤ 10) : (1 : Int32) <<< (nI n &&& 31) = nI (2 ^ n) := by
  have g : ((List.range 11).all fun n => decide ((1 : Int32) <<< (nI n &&& 31) = nI (2 ^ n))) = true := by decide +kernel
  exact of_decide_eq_true (List.all_eq_true.mp g n (List.mem_range.mpr (by omega)))
theorem i_pow_le {n : Nat} (hn : n ≤ 10) : 2 ^ n ≤ 1024 := by
  have : 2 ^ n ≤ 2 ^ 10 := Nat.pow_le_pow_right (by omega) hn
  omega
theorem s_pressureWith : sm_S36 p_RR := by
  intro j h x hj hR
  obtain ⟨p, Z, D, F, R, G⟩ := hR
  obtain ⟨⟨c1, c2, c3, c4, c5⟩, -, -, -, r1, r2⟩ := p_RR.parts G
  obtain ⟨i1, i2⟩ := p_isPp G.1
  obtain ⟨Q, hQ, q1, q2⟩ := t_full G.2.2.2.1
  have b2 := i_pow_le c5
  rcases p_idx x (2 ^ R) (by omega) with ⟨k, hk, rfl⟩ | hx
  · refine ⟨p_pr (nI Q) (p_ar (h 115) (sm_bt (nI k)) R), h, h, ?_, ?_, p, Z, D, F, R, G.mono⟩
    · unfold f_sc_pressureWith
      simp only [Nat.reduceAdd]
      rw [if_neg (nI_pos (by omega)), G.2.1, i1, s_true, i2]
      refine w_lt ?_
      rw [r1, i_pow c5, if_pos (nI_lt hk (by omega)), s_true]
      refine w_lt ?_
      exact w_b2 (q1 _) rfl
    · unfold f_mo_pressureWith f_mo_pressureWith_L28
      rw [s_i3, s_c3, show h (114 + 1) 3 = nI R from r2, i_pow c5, e_inI hk (by omega)]
      refine w_b2 rfl ?_
      rw [if_neg (by decide)]
      exact w_b2 (q2 _) rfl
  · refine ⟨-2, h, h, ?_, ?_, p, Z, D, F, R, G.mono⟩
    · unfold f_sc_pressureWith f_sc_pressureWith_L20
      by_cases x0 : x < 0
      · rw [if_pos x0]
      · simp only [Nat.reduceAdd]
        rw [if_neg x0, G.2.1, i1, s_true, i2]
        refine w_lt ?_
        rw [r1, i_pow c5, if_neg (Int32.not_lt.mpr (hx.resolve_left x0))]
    · unfold f_mo_pressureWith f_mo_pressureWith_L28
      rw [s_i3, s_c3, show h (114 + 1) 3 = nI R from r2, i_pow c5, e_inO hx (by omega)]
      rfl
theorem s_worstDoor : sm_S38 p_RR := by
  intro j h hj hR
  obtain ⟨p, Z, D, F, R, G⟩ := hR
  obtain ⟨⟨c1, c2, c3, c4, c5⟩, -, -, -, r1, r2⟩ := p_RR.parts G
  obtain ⟨t, V, S, K⟩ := G.B
  obtain ⟨i1, i2⟩ := p_isPp G.1
  obtain ⟨Q, hQ, q1, q2⟩ := t_full G.2.2.2.1
  obtain ⟨w, w1, w2⟩ := t_openDoors (g := h) V.2.2.2 S
  -- the pressure with one door more
  obtain ⟨A, hA⟩ : ∃ A : Nat → Nat, A = fun d => p_pn Q (p_ar (h 115) (sm_bt (sm_wb (h 40 6) d true)) R) := ⟨_, rfl⟩
  have ab : ∀ x, p_ar (h 115) (sm_bt x) R ≤ 5000 := fun x => by
    have := (p_ar_b V.2.2.2 (sm_bt x) R (Nat.le_refl _)).2
    omega
  have A1 : ∀ d, A d ≤ 999 := fun d => by rw [hA]; exact (p_pn_eq hQ (ab _)).2
  have Ac : ∀ d, f_pl_fullPressure p (sm_wb (h 40 6) d true) h = some (nI (A d), h) := fun d => by rw [q1, (p_pn_eq hQ (ab _)).1, hA]
  have Ar : ∀ d, d < R → f_mo_pressureOf 114 (w ||| (1 <<< (nI d &&& 31))) h = some (nI (A d), h) := fun d hd => by
    have e : p_ar (h 115) (sm_bt (w ||| (1 <<< (nI d &&& 31)))) R = p_ar (h 115) (sm_bt (sm_wb (h 40 6) d true)) R := by
      apply p_ar_ext
      intro k hk
      have e1 : w ||| (1 <<< (nI d &&& 31)) = sm_wb w d true := rfl
      rw [e1, sm_bt_wb _ _ _ _ (by omega) (by omega), sm_bt_wb _ _ _ _ (by omega) (by omega), w2 k (by omega), decide_eq_true hk, Bool.true_and]
    rw [q2, e, (p_pn_eq hQ (ab _)).1, hA]
  have L : ∀ n i (m l : Int32), R - i < n → i ≤ R → ((m = -4 ∧ l = 1000) ∨ ∃ k, k < R ∧ m = nI k ∧ l = nI (A k)) → ∃ r, f_sc_worstDoor_L9 n 0 m l (nI i) h = some (r, h) ∧ f_mo_worstDoor_L10 n 114 w m (nI i) h = some (r, h) := by
    intro n
    induction n with
    | zero => intro i m l y; omega
    | succ n ih =>
      intro i m l y1 y2 y3
      unfold f_sc_worstDoor_L9 f_mo_worstDoor_L10
      rw [Nat.zero_add, G.2.1, i1, s_true, i2, s_i3, s_c3, show h (114 + 1) 3 = nI R from r2]
      simp only [sm_let, r1]
      by_cases y : i = R
      · rw [if_pos (nI_le (by omega) (by omega)), if_pos (nI_le (by omega) (by omega))]
        exact ⟨m, rfl, rfl⟩
      · have hi : i < R := by omega
        have hlt : R - (i + 1) < n ∧ i + 1 ≤ R := by omega
        rw [if_neg (nI_ge hi (by omega)), if_neg (nI_ge hi (by omega)), e_has _ _ _ (by omega), e_hasBit _ _ _ (by omega), w2 i (by omega), decide_eq_true hi, Bool.true_and]
        simp only [sm_b2, Option.bind_some]
        cases b : sm_bt (h 40 6) i
        · rw [if_pos s_bf, if_pos s_bf, G.2.1, i1, s_true, i2, e_with, show (!decide ((1 : Int32) = 0)) = true by decide]
          simp only [sm_let, Option.bind_some, Ac]
          have take : ∃ r, f_sc_worstDoor_L72 (f_sc_worstDoor_L9 n) 0 (nI i) (nI (A i)) (nI i) h = some (r, h) ∧ f_mo_worstDoor_L56 (f_mo_worstDoor_L10 n) 114 w (nI i) h = some (r, h) := by
            simp only [f_sc_worstDoor_L72, f_mo_worstDoor_L56, f_mo_worstDoor_L58, sm_let, nI_1]
            exact ih (i + 1) _ _ hlt.1 hlt.2 (Or.inr ⟨i, hi, rfl, rfl⟩)
          rcases y3 with ⟨rfl, rfl⟩ | ⟨k, hk, rfl, rfl⟩
          · have := A1 i
            rw [if_neg (show ¬ (1000 : Int32) ≤ nI (A i) from nI_ge (b := 1000) (by omega) (by omega)), if_pos (by decide)]
            exact take
          · have a1 := A1 i
            have a2 := A1 k
            rw [if_neg (nI_pos (by omega)), Ar i hi]
            simp only [Option.bind_some]
            rw [Ar k hk]
            simp only [Option.bind_some]
            by_cases z : A k ≤ A i
            · rw [if_pos (nI_le z (by omega)), if_pos (nI_le z (by omega))]
              simp only [f_sc_worstDoor_L72, f_mo_worstDoor_L58, sm_let, nI_1]
              exact ih (i + 1) _ _ hlt.1 hlt.2 (Or.inr ⟨k, hk, rfl, rfl⟩)
            · rw [if_neg (nI_ge (by omega) (by omega)), if_neg (nI_ge (by omega) (by omega))]
              exact take
        · rw [if_neg s_bt, if_neg s_bt]
          simp only [f_sc_worstDoor_L72, f_mo_worstDoor_L58, sm_let, nI_1]
          exact ih (i + 1) m l hlt.1 hlt.2 y3
  obtain ⟨r, u1, u2⟩ := L sm_N 0 (-4) 1000 (by unfold sm_N; omega) (by omega) (Or.inl ⟨rfl, rfl⟩)
  refine ⟨r, h, h, u1, ?_, p, Z, D, F, R, G.mono⟩
  unfold f_mo_worstDoor
  exact w_b2 w1 u2
-- THE MOST OPEN DOORS: the narrowest first, against all sets
theorem p_cn_lt {P : Nat → Bool} : ∀ n, p_cn P n < n → ∃ d, d < n ∧ P d = false := by
  intro n
  induction n with
  | zero => intro y; omega
  | succ n ih =>
    intro y
    have e : p_cn P (n + 1) = p_cn P n + (if P n = true then 1 else 0) := rfl
    cases hp : P n
    · exact ⟨n, by omega, hp⟩
    · rw [e, hp, if_pos rfl] at y
      obtain ⟨d, d1, d2⟩ := ih (by omega)
      exact ⟨d, by omega, d2⟩
theorem p_cn_add1 {P Q : Nat → Bool} {m : Nat} (hm : P m = false) (hq : ∀ k, Q k = if k = m then true else P k) : ∀ n, m < n → p_cn Q n = p_cn P n + 1 := by
  intro n
  induction n with
  | zero => intro y; omega
  | succ n ih =>
    intro y
    have e1 : p_cn Q (n + 1) = p_cn Q n + (if Q n = true then 1 else 0) := rfl
    have e2 : p_cn P (n + 1) = p_cn P n + (if P n = true then 1 else 0) := rfl
    rw [e1, e2, hq n]
    by_cases z : n = m
    · rw [if_pos z, if_pos rfl, z, hm, if_neg (by decide)]
      have : p_cn Q m = p_cn P m := p_cn_ext (fun k hk => by rw [hq k, if_neg (by omega)])
      rw [this]
    · rw [if_neg z, ih (by omega)]
      omega
theorem p_thr {w : Nat → Int32} {S O : Nat → Bool} {t : Nat} : ∀ n, (∀ d, d < n → O d = true → (w (100 + 3 * d)).toNatClampNeg ≤ (w (99 + 3 * d)).toNatClampNeg + t) → (∀ d, d < n → O d = false → (w (99 + 3 * d)).toNatClampNeg + t ≤ (w (100 + 3 * d)).toNatClampNeg) → p_ar w O n + t * p_cn S n ≤ p_ar w S n + t * p_cn O n := by
  intro n
  induction n with
  | zero => intro _ _; exact Nat.le_refl _
  | succ n ih =>
    intro h1 h2
    have i := ih (fun d hd => h1 d (by omega)) (fun d hd => h2 d (by omega))
    have a := h1 n (by omega)
    have b := h2 n (by omega)
    have e1 : p_cn S (n + 1) = p_cn S n + (if S n = true then 1 else 0) := rfl
    have e2 : p_cn O (n + 1) = p_cn O n + (if O n = true then 1 else 0) := rfl
    rw [p_ar_s, p_ar_s, e1, e2, Nat.mul_add, Nat.mul_add]
    cases hs : S n <;> cases ho : O n
    · simp only [Bool.false_eq_true, if_false, Nat.mul_zero]
      omega
    · have := a ho
      simp only [Bool.false_eq_true, if_false, if_true, Nat.mul_zero, Nat.mul_one]
      omega
    · have := b ho
      simp only [Bool.false_eq_true, if_false, if_true, Nat.mul_zero, Nat.mul_one]
      omega
    · simp only [if_true, Nat.mul_one]
      omega
theorem t_narrow (P : p_PL Z D F R p h (h 115)) {x : Int32} (hx : ∃ d, d < R ∧ sm_bt x d = false) : ∃ m, m < R ∧ f_pl_narrowestDoor p x h = some (nI m, h) ∧ sm_bt x m = false ∧ ∀ e, e < R → sm_bt x e = false → (h 115 (100 + 3 * m)).toNatClampNeg + (h 115 (99 + 3 * e)).toNatClampNeg ≤ (h 115 (100 + 3 * e)).toNatClampNeg + (h 115 (99 + 3 * m)).toNatClampNeg := by
  obtain ⟨c1, c2, c3, c4, c5⟩ := P.1
  have hR : h p 3 = nI R := P.2.1.2.2.2.2.2.2.1
  have dl : ∀ d, d < R → ∃ a b, 1 ≤ a ∧ a ≤ 50 ∧ 51 ≤ b ∧ b ≤ 500 ∧ h (p + 7) d = nI a ∧ h (p + 8) d = nI b ∧ (h 115 (99 + 3 * d)).toNatClampNeg = a ∧ (h 115 (100 + 3 * d)).toNatClampNeg = b := by
    intro d hd
    obtain ⟨_, a, b, -, a1, a2, b1, b2, -, -, e3, e1, e4, e2⟩ := P.2.2.2.2.1 d hd
    exact ⟨a, b, a1, a2, b1, b2, e3, e4, by rw [e1]; exact nI_clamp (by omega), by rw [e2]; exact nI_clamp (by omega)⟩
  have L : ∀ n i (m l : Nat), R - i < n → i ≤ R → ((l = 500 ∧ ∀ e, e < i → sm_bt x e = true) ∨ (m < i ∧ sm_bt x m = false ∧ l + (h 115 (99 + 3 * m)).toNatClampNeg = (h 115 (100 + 3 * m)).toNatClampNeg ∧ l < 500 ∧ ∀ e, e < i → sm_bt x e = false → l + (h 115 (99 + 3 * e)).toNatClampNeg ≤ (h 115 (100 + 3 * e)).toNatClampNeg)) → ∃ m', f_pl_narrowestDoor_L9 n p x (nI m) (nI l) (nI i) h = some (nI m', h) ∧ m' < R ∧ sm_bt x m' = false ∧ ∀ e, e < R → sm_bt x e = false → (h 115 (100 + 3 * m')).toNatClampNeg + (h 115 (99 + 3 * e)).toNatClampNeg ≤ (h 115 (100 + 3 * e)).toNatClampNeg + (h 115 (99 + 3 * m')).toNatClampNeg := by
    intro n
    induction n with
    | zero => intro i m l y; omega
    | succ n ih =>
      intro i m l y1 y2 y3
      unfold f_pl_narrowestDoor_L9 f_pl_narrowestDoor_L62
      rw [hR]
      by_cases y : i = R
      · rw [if_pos (nI_le (by omega) (by omega))]
        rcases y3 with ⟨_, z⟩ | ⟨z1, z2, z3, _, z4⟩
        · obtain ⟨d, d1, d2⟩ := hx
          rw [z d (by omega)] at d2
          cases d2
        · refine ⟨m, rfl, by omega, z2, fun e he hb => ?_⟩
          have := z4 e (by omega) hb
          omega
      · have hi : i < R := by omega
        have hlt : R - (i + 1) < n ∧ i + 1 ≤ R := by omega
        obtain ⟨a, b, a1, a2, b1, b2, e1, e2, e3, e4⟩ := dl i hi
        have gi : sm_inb (nI i) 10 = true := sm_inb_nI (by omega) (by omega)
        have ci : (nI i).toNatClampNeg = i := nI_clamp (by omega)
        have l500 : l ≤ 500 := by
          rcases y3 with ⟨z, _⟩ | ⟨_, _, _, z, _⟩ <;> omega
        rw [if_neg (nI_ge hi (by omega)), e_has _ _ _ (by omega)]
        simp only [gi, ci, s_true, sm_let, sm_b2, Option.bind_some, e1, e2, f_pl_narrowestDoor_L56, nI_1]
        rw [nI_sub (by omega)]
        cases hb : sm_bt x i
        · rw [if_pos s_bf]
          by_cases z : l ≤ b - a
          · rw [if_pos (nI_le z (by omega))]
            refine ih (i + 1) m l hlt.1 hlt.2 ?_
            rcases y3 with ⟨z1, z2⟩ | ⟨z1, z2, z3, z4, z5⟩
            · omega
            · refine Or.inr ⟨by omega, z2, z3, z4, fun e he hbe => ?_⟩
              by_cases w : e = i
              · rw [w, e3, e4]
                omega
              · exact z5 e (by omega) hbe
          · rw [if_neg (nI_ge (by omega) (by omega))]
            refine ih (i + 1) i (b - a) hlt.1 hlt.2 (Or.inr ⟨by omega, hb, by rw [e3, e4]; omega, by omega, fun e he hbe => ?_⟩)
            by_cases w : e = i
            · rw [w, e3, e4]
              omega
            · rcases y3 with ⟨z1, z2⟩ | ⟨z1, z2, z3, z4, z5⟩
              · rw [z2 e (by omega)] at hbe
                cases hbe
              · have := z5 e (by omega) hbe
                omega
        · rw [if_neg s_bt]
          refine ih (i + 1) m l hlt.1 hlt.2 ?_
          rcases y3 with ⟨z1, z2⟩ | ⟨z1, z2, z3, z4, z5⟩
          · refine Or.inl ⟨z1, fun e he => ?_⟩
            by_cases w : e = i
            · rw [w]; exact hb
            · exact z2 e (by omega)
          · refine Or.inr ⟨by omega, z2, z3, z4, fun e he hbe => ?_⟩
            by_cases w : e = i
            · rw [w, hb] at hbe
              cases hbe
            · exact z5 e (by omega) hbe
  obtain ⟨m, m1, m2, m3, m4⟩ := L sm_N 0 0 500 (by unfold sm_N; omega) (by omega) (Or.inl ⟨rfl, fun e he => by omega⟩)
  exact ⟨m, m2, m1, m3, m4⟩
end p_doors
