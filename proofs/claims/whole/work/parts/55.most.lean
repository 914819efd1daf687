-- THE MOST OPEN DOORS: put together
section p_most
variable {p Z D F R j : Nat} {h : sm_H}
theorem nI_bt {s k : Nat} (hk : k < 32) : sm_bt (nI s) k = Nat.testBit s k := by
  show (BitVec.ofNat 32 s).getLsbD k = _
  rw [BitVec.getLsbD_ofNat]
  simp [hk]
theorem e_bits {s : Nat} (h : sm_H) : f_mo_bits (nI s) h = some (nI (p_cn (sm_bt (nI s)) 10), h) := by
  have L : ∀ n i, 10 - i < n → i ≤ 10 → f_mo_bits_L4 n (nI s) (nI (p_cn (sm_bt (nI s)) i)) (nI i) h = some (nI (p_cn (sm_bt (nI s)) 10), h) := by
    intro n
    induction n with
    | zero => intro i y; omega
    | succ n ih =>
      intro i y1 y2
      unfold f_mo_bits_L4 f_mo_bits_L24
      by_cases y : i = 10
      · rw [if_pos (show (10 : Int32) ≤ nI i from nI_le (a := 10) (by omega) (by omega)), y]
      · rw [if_neg (show ¬ (10 : Int32) ≤ nI i from nI_ge (b := 10) (by omega) (by omega)), sm_and1, sm_shr _ _ (by omega)]
        have nx := ih (i + 1) (by omega) (by omega)
        have e : p_cn (sm_bt (nI s)) (i + 1) = p_cn (sm_bt (nI s)) i + (if sm_bt (nI s) i = true then 1 else 0) := rfl
        rw [e] at nx
        simp only [sm_let, nI_1]
        cases b : sm_bt (nI s) i
        · rw [b, if_neg (by decide)] at nx
          rw [show sm_b2i false = nI 0 from rfl, nI_add]
          exact nx
        · rw [b, if_pos rfl] at nx
          rw [show sm_b2i true = nI 1 from rfl, nI_add]
          exact nx
  exact L sm_N 0 (by unfold sm_N; omega) (by omega)
theorem s_mostOpenDoors : sm_S37 p_RR := by
  intro j h hj hR
  obtain ⟨p, Z, D, F, R, G⟩ := hR
  obtain ⟨⟨c1, c2, c3, c4, c5⟩, -, -, -, r1, r2⟩ := p_RR.parts G
  obtain ⟨i1, i2⟩ := p_isPp G.1
  have PL := G.2.2.2.1
  obtain ⟨Q, hQ, q1, q2⟩ := t_full PL
  obtain ⟨-, -, -, -, -, -, -, -, gt, ww, g1, g2, -, t1, t2, -⟩ := PL.2.1
  have b2 := i_pow_le c5
  have ab : ∀ P : Nat → Bool, p_ar (h 115) P R ≤ 5000 := fun P => by
    have := (p_ar_b PL P R (Nat.le_refl _)).2
    omega
  have al : ∀ P : Nat → Bool, R ≤ p_ar (h 115) P R := fun P => (p_ar_b PL P R (Nat.le_refl _)).1
  obtain ⟨N, hN⟩ : ∃ N : (Nat → Bool) → Nat, N = fun P => p_pn Q (p_ar (h 115) P R) := ⟨_, rfl⟩
  have N1 : ∀ P, N P ≤ 999 := fun P => by rw [hN]; exact (p_pn_eq hQ (ab P)).2
  have Nc : ∀ x, f_pl_fullPressure p x h = some (nI (N (sm_bt x)), h) := fun x => by rw [q1, (p_pn_eq hQ (ab _)).1, hN]
  have Nr : ∀ x, f_mo_pressureOf 114 x h = some (nI (N (sm_bt x)), h) := fun x => by rw [q2, (p_pn_eq hQ (ab _)).1, hN]
  have mono : ∀ O S : Nat → Bool, 1 ≤ R → p_ar (h 115) O R ≤ p_ar (h 115) S R → N S ≤ N O := fun O S hR1 hle => by
    rw [hN]
    exact p_pn_le (by have := al O; omega) hle
  have zero : R = 0 → ∀ P, N P = 0 := fun hR0 P => by
    rw [hN]
    show p_pn Q (p_ar (h 115) P R) = 0
    rw [hR0]
    rfl
  have dl : ∀ d, d < R → ∃ a b, 1 ≤ a ∧ a ≤ 50 ∧ 51 ≤ b ∧ b ≤ 500 ∧ (h 115 (99 + 3 * d)).toNatClampNeg = a ∧ (h 115 (100 + 3 * d)).toNatClampNeg = b := by
    intro d hd
    obtain ⟨_, a, b, -, a1, a2, b1, b2, -, -, -, e1, -, e2⟩ := PL.2.2.2.2.1 d hd
    exact ⟨a, b, a1, a2, b1, b2, by rw [e1]; exact nI_clamp (by omega), by rw [e2]; exact nI_clamp (by omega)⟩
  -- a threshold between the open and the shut: no set with as many doors has less area
  have best : ∀ (O S : Nat → Bool) (t : Nat), (∀ d, d < R → O d = true → (h 115 (100 + 3 * d)).toNatClampNeg ≤ (h 115 (99 + 3 * d)).toNatClampNeg + t) → (∀ d, d < R → O d = false → (h 115 (99 + 3 * d)).toNatClampNeg + t ≤ (h 115 (100 + 3 * d)).toNatClampNeg) → p_cn O R ≤ p_cn S R → p_ar (h 115) O R ≤ p_ar (h 115) S R := by
    intro O S t a b c
    have e := p_thr (w := h 115) (S := S) (O := O) (t := t) R a b
    have m : t * p_cn O R ≤ t * p_cn S R := Nat.mul_le_mul_left _ c
    omega
  have tg : nI gt = nI gt := rfl
  -- the class
  have cls : ∀ n k x t, R - k < n → k ≤ R → p_cn (sm_bt x) R = k → (∀ i, R ≤ i → i < 32 → sm_bt x i = false) → gt ≤ N (sm_bt x) → (∀ d, d < R → sm_bt x d = true → (h 115 (100 + 3 * d)).toNatClampNeg ≤ (h 115 (99 + 3 * d)).toNatClampNeg + t) → (∀ d, d < R → sm_bt x d = false → (h 115 (99 + 3 * d)).toNatClampNeg + t ≤ (h 115 (100 + 3 * d)).toNatClampNeg) → ∃ K y, f_sc_mostOpenDoors_L27 n p x (nI k) h = some (nI K, h) ∧ K ≤ R ∧ p_cn (sm_bt y) R = K ∧ (∀ i, R ≤ i → i < 32 → sm_bt y i = false) ∧ gt ≤ N (sm_bt y) ∧ ∀ S : Nat → Bool, K < p_cn S R → N S < gt := by
    intro n
    induction n with
    | zero => intro k x t y; omega
    | succ n ih =>
      intro k x t y1 y2 y3 y4 y5 y6 y7
      unfold f_sc_mostOpenDoors_L27 f_sc_mostOpenDoors_L71 f_sc_mostOpenDoors_L60
      rw [r1]
      by_cases y : k = R
      · rw [if_pos (nI_le (by omega) (by omega))]
        refine ⟨R, x, rfl, Nat.le_refl _, by omega, y4, y5, fun S hS => ?_⟩
        have := p_cn_le S R
        omega
      · have hlt : R - (k + 1) < n ∧ k + 1 ≤ R := by omega
        obtain ⟨m, m1, m2, m3, m4⟩ := t_narrow PL (x := x) (p_cn_lt R (by omega))
        rw [if_neg (nI_ge (by omega) (by omega)), m2]
        simp only [sm_b2, Option.bind_some]
        rw [e_with, show (!decide ((1 : Int32) = 0)) = true by decide]
        simp only [Option.bind_some, Nc, t1]
        obtain ⟨x', hx'⟩ : ∃ x', x' = sm_wb x m true := ⟨_, rfl⟩
        rw [← hx']
        have bx : ∀ i, i < 32 → sm_bt x' i = if i = m then true else sm_bt x i := fun i hi => by rw [hx', sm_bt_wb _ _ _ _ (by omega) hi]
        have cx : p_cn (sm_bt x') R = k + 1 := by
          have e : p_cn (sm_bt x') R = p_cn (fun i => if i = m then true else sm_bt x i) R := p_cn_ext (fun i hi => bx i (by omega))
          rw [e, p_cn_add1 (P := sm_bt x) (m := m) m3 (fun i => rfl) R m1, y3]
        obtain ⟨am, bm, a1, a2, b1, b2', e3, e4⟩ := dl m m1
        -- the new threshold
        have T1 : ∀ d, d < R → sm_bt x' d = true → (h 115 (100 + 3 * d)).toNatClampNeg ≤ (h 115 (99 + 3 * d)).toNatClampNeg + (bm - am) := by
          intro d hd hb
          rw [bx d (by omega)] at hb
          by_cases z : d = m
          · rw [z, e3, e4]
            omega
          · rw [if_neg z] at hb
            have u1 := y6 d hd hb
            have u2 := y7 m m1 m3
            rw [e3, e4] at u2
            omega
        have T2 : ∀ d, d < R → sm_bt x' d = false → (h 115 (99 + 3 * d)).toNatClampNeg + (bm - am) ≤ (h 115 (100 + 3 * d)).toNatClampNeg := by
          intro d hd hb
          rw [bx d (by omega)] at hb
          by_cases z : d = m
          · rw [if_pos z] at hb
            cases hb
          · rw [if_neg z] at hb
            have u := m4 d hd hb
            rw [e3, e4] at u
            omega
        have n1 := N1 (sm_bt x')
        by_cases z : gt ≤ N (sm_bt x')
        · rw [if_pos (nI_le z (by omega))]
          simp only [sm_let, nI_1]
          exact ih (k + 1) x' (bm - am) hlt.1 hlt.2 cx (fun i a b => by rw [bx i b, if_neg (by omega)]; exact y4 i a b) z T1 T2
        · rw [if_neg (nI_ge (by omega) (by omega))]
          refine ⟨k, x, rfl, y2, y3, y4, y5, fun S hS => ?_⟩
          have := mono (sm_bt x') S (by omega) (best (sm_bt x') S (bm - am) T1 T2 (by omega))
          omega
  -- the reference
  have cb : ∀ s, s < 2 ^ R → p_cn (sm_bt (nI s)) 10 = p_cn (sm_bt (nI s)) R := fun s hs => by
    have e : p_cn (sm_bt (nI s)) 10 = p_cn (fun i => decide (i < R) && sm_bt (nI s) i) 10 := p_cn_ext (fun i hi => by
      by_cases v : i < R
      · rw [decide_eq_true v, Bool.true_and]
      · rw [decide_eq_false v, Bool.false_and, nI_bt (by omega)]
        exact Nat.testBit_lt_two_pow (Nat.lt_of_lt_of_le hs (Nat.pow_le_pow_right (by omega) (by omega))))
    rw [e, p_cn_up (d := R) (fun i hi => by rw [decide_eq_false (by omega), Bool.false_and]) 10 c5]
    exact p_cn_ext (fun i hi => by rw [decide_eq_true hi, Bool.true_and])
  have ref : ∀ K : Nat, K ≤ 10 → (∀ s, s < 2 ^ R → gt ≤ N (sm_bt (nI s)) → p_cn (sm_bt (nI s)) R ≤ K) → ∀ n i (M : Int32), 2 ^ R - i < n → i ≤ 2 ^ R → (M = -4 ∨ ∃ m, m ≤ K ∧ M = nI m) → ((∃ s, s < i ∧ gt ≤ N (sm_bt (nI s)) ∧ p_cn (sm_bt (nI s)) R = K) → M = nI K) → ((∀ s, s < i → N (sm_bt (nI s)) < gt) → M = -4) → ∃ M', f_mo_mostOpenDoors_L5 n 114 M (nI i) h = some (M', h) ∧ ((∃ s, s < 2 ^ R ∧ gt ≤ N (sm_bt (nI s)) ∧ p_cn (sm_bt (nI s)) R = K) → M' = nI K) ∧ ((∀ s, s < 2 ^ R → N (sm_bt (nI s)) < gt) → M' = -4) := by
    intro K hK10 hK n
    induction n with
    | zero => intro i M y; omega
    | succ n ih =>
      intro i M y1 y2 y3 y4 y5
      unfold f_mo_mostOpenDoors_L5 f_mo_mostOpenDoors_L46
      rw [s_i3, s_c3, show h (114 + 1) 3 = nI R from r2, i_pow c5]
      by_cases y : i = 2 ^ R
      · rw [if_pos (nI_le (by omega) (by omega))]
        exact ⟨M, rfl, by rw [← y]; exact y4, by rw [← y]; exact y5⟩
      · have hi : i < 2 ^ R := by omega
        have hlt : 2 ^ R - (i + 1) < n ∧ i + 1 ≤ 2 ^ R := by omega
        have n1 := N1 (sm_bt (nI i))
        rw [if_neg (nI_ge hi (by omega)), Nr]
        simp only [sm_b2, Option.bind_some, s_i5, s_c5, show h (114 + 1) 5 = nI gt from t2, f_mo_mostOpenDoors_L40, sm_let, nI_1]
        by_cases z : N (sm_bt (nI i)) < gt
        · rw [if_pos (nI_lt z (by omega))]
          refine ih (i + 1) M hlt.1 hlt.2 y3 (fun ⟨s, s1, s2, s3⟩ => ?_) (fun hs => y5 (fun s hs' => hs s (by omega)))
          by_cases v : s = i
          · rw [v] at s2
            omega
          · exact y4 ⟨s, by omega, s2, s3⟩
        · rw [if_neg (nI_nlt (by omega) (by omega)), e_bits, cb i hi]
          simp only [Option.bind_some]
          rw [s_greater]
          simp only [Option.bind_some]
          have k1 := hK i hi (by omega)
          generalize hc : p_cn (sm_bt (nI i)) R = c at k1
          refine ih (i + 1) _ hlt.1 hlt.2 ?_ (fun ⟨s, s1, s2, s3⟩ => ?_) (fun hs => absurd (hs i (by omega)) z)
          · rcases y3 with rfl | ⟨m, hm, rfl⟩
            · refine Or.inr ⟨c, k1, ?_⟩
              rw [if_pos (Int32.lt_of_lt_of_le (by decide : (-4 : Int32) < 0) (nI_pos' (by omega)))]
            · by_cases v : m < c
              · exact Or.inr ⟨c, k1, by rw [if_pos (nI_lt v (by omega))]⟩
              · exact Or.inr ⟨m, hm, by rw [if_neg (nI_nlt (by omega) (by omega))]⟩
          · by_cases v : s = i
            · rw [v, hc] at s3
              rcases y3 with rfl | ⟨m, hm, rfl⟩
              · rw [if_pos (Int32.lt_of_lt_of_le (by decide : (-4 : Int32) < 0) (nI_pos' (by omega))), s3]
              · by_cases u : m < c
                · rw [if_pos (nI_lt u (by omega)), s3]
                · rw [if_neg (nI_nlt (by omega) (by omega))]
                  congr 1
                  omega
            · rw [y4 ⟨s, by omega, s2, s3⟩, if_neg (nI_nlt k1 (by omega))]
  have h0 : ∀ i, sm_bt 0 i = false := fun i => sm_bt0 i
  have cn0 : p_cn (sm_bt 0) R = 0 := p_cn_0 R (fun k _ => h0 k)
  by_cases z : gt ≤ N (sm_bt 0)
  · obtain ⟨K, y, k1, k2, k3, k4, k5, k6⟩ := cls sm_N 0 0 0 (by unfold sm_N; omega) (by omega) cn0 (fun i _ _ => h0 i) z (fun d hd hb => by rw [h0 d] at hb; cases hb) (fun d hd _ => by
      obtain ⟨a, b, a1, a2, b1, b2', e3, e4⟩ := dl d hd
      rw [e3, e4]
      omega)
    obtain ⟨M', m1, m2, -⟩ := ref K (by omega) (fun s hs hg => by
      apply Classical.byContradiction
      intro v
      have := k6 (sm_bt (nI s)) (by omega)
      omega) sm_N 0 (-4) (by unfold sm_N; omega) (Nat.zero_le _) (Or.inl rfl) (fun ⟨s, s1, _⟩ => absurd s1 (by omega)) (fun _ => rfl)
    -- the class' set is one of those
    have ey : ∃ s, s < 2 ^ R ∧ y = nI s := by
      have hb : ∀ i, R ≤ i → Nat.testBit y.toBitVec.toNat i = false := by
        intro i hi
        by_cases v : i < 32
        · exact k4 i hi v
        · exact BitVec.getLsbD_of_ge y.toBitVec i (by omega)
      refine ⟨y.toBitVec.toNat, Nat.lt_pow_two_of_testBit _ hb, ?_⟩
      apply Int32.toBitVec_inj.mp
      show y.toBitVec = BitVec.ofNat 32 y.toBitVec.toNat
      rw [BitVec.ofNat_toNat, BitVec.setWidth_eq]
    obtain ⟨s, hs, rfl⟩ := ey
    rw [m2 ⟨s, hs, k5, k3⟩] at m1
    refine ⟨nI K, h, h, ?_, m1, p, Z, D, F, R, G.mono⟩
    unfold f_sc_mostOpenDoors
    rw [Nat.zero_add, G.2.1, i1, s_true, i2]
    refine w_lt ?_
    refine w_b2 (Nc 0) ?_
    have := N1 (sm_bt 0)
    rw [t1, if_pos (nI_le z (by omega))]
    exact k1
  · obtain ⟨M', m1, -, m3⟩ := ref 10 (by omega) (fun s hs _ => by
      have := p_cn_le (sm_bt (nI s)) R
      omega) sm_N 0 (-4) (by unfold sm_N; omega) (Nat.zero_le _) (Or.inl rfl) (fun ⟨s, s1, _⟩ => absurd s1 (by omega)) (fun _ => rfl)
    have bad : ∀ s, s < 2 ^ R → N (sm_bt (nI s)) < gt := by
      intro s hs
      by_cases hR0 : R = 0
      · rw [zero hR0]
        omega
      · have := mono (sm_bt 0) (sm_bt (nI s)) (by omega) (best (sm_bt 0) (sm_bt (nI s)) 0 (fun d hd hb => by rw [h0 d] at hb; cases hb) (fun d hd _ => by
          obtain ⟨a, b, a1, a2, b1, b2', e3, e4⟩ := dl d hd
          rw [e3, e4]
          omega) (by omega))
        omega
    rw [m3 bad] at m1
    refine ⟨-4, h, h, ?_, m1, p, Z, D, F, R, G.mono⟩
    unfold f_sc_mostOpenDoors
    rw [Nat.zero_add, G.2.1, i1, s_true, i2]
    refine w_lt ?_
    refine w_b2 (Nc 0) ?_
    rw [t1, if_neg (nI_ge (by omega) (by omega))]
end p_most
