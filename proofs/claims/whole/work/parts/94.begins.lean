-- LOAD: HOW BOTH SIDES BEGIN TO READ; a state begun
section n_bgn
variable {b : Nat → Nat} {L T p D i j : Nat} {g h0 h h' : sm_H} {u q w : Nat → Int32}
theorem n_plbeg (hp : p = 1 ∨ p = 24) (h : sm_H) : ∃ h', f_pl_begin p h = some h' ∧ (h' p 0 = 1 ∧ h' p 1 = 0 ∧ h' p 2 = 0 ∧ h' p 3 = 0 ∧ h' p 4 = 50 ∧ h' p 5 = 10 ∧ h' p 6 = 0 ∧ h' (p + 9) 0 = 0 ∧ h' (p + 9) 1 = 0 ∧ h' (p + 9) 2 = 0) ∧ ∀ r, r ≠ p → r ≠ p + 9 → h' r = h r := by
  refine ⟨sm_up (sm_up (sm_up (sm_up (sm_up (sm_up (sm_up (sm_up (sm_up (sm_up h p 0 1) p 1 0) p 2 0) p 3 0) p 4 50) p 5 10) p 6 0) (p + 9) 0 0) (p + 9) 1 0) (p + 9) 2 0, ?_, ⟨?_, ?_, ?_, ?_, ?_, ?_, ?_, ?_, ?_, p_up_at⟩, fun r r1 r2 => ?_⟩
  · unfold f_pl_begin
    refine w_lt ?_
    refine w_lt ?_
    refine w_lt ?_
    refine w_lt ?_
    refine w_lt ?_
    refine w_lt ?_
    refine w_lt ?_
    refine w_bd (v := sm_up (sm_up (sm_up (sm_up (sm_up (sm_up (sm_up (sm_up (sm_up (sm_up h p 0 1) p 1 0) p 2 0) p 3 0) p 4 50) p 5 10) p 6 0) (p + 9) 0 0) (p + 9) 1 0) (p + 9) 2 0) ?_ rfl
    unfold f_ru_begin
    refine w_lt ?_
    refine w_lt ?_
    refine w_lt ?_
    rfl
  · rw [sm_up_off (by omega), sm_up_off (by omega), sm_up_off (by omega), sm_up_off (by omega), sm_up_off (by omega), sm_up_off (by omega), sm_up_off (by omega), sm_up_off (by omega), sm_up_off (by omega), p_up_at]
  · rw [sm_up_off (by omega), sm_up_off (by omega), sm_up_off (by omega), sm_up_off (by omega), sm_up_off (by omega), sm_up_off (by omega), sm_up_off (by omega), sm_up_off (by omega), p_up_at]
  · rw [sm_up_off (by omega), sm_up_off (by omega), sm_up_off (by omega), sm_up_off (by omega), sm_up_off (by omega), sm_up_off (by omega), sm_up_off (by omega), p_up_at]
  · rw [sm_up_off (by omega), sm_up_off (by omega), sm_up_off (by omega), sm_up_off (by omega), sm_up_off (by omega), sm_up_off (by omega), p_up_at]
  · rw [sm_up_off (by omega), sm_up_off (by omega), sm_up_off (by omega), sm_up_off (by omega), sm_up_off (by omega), p_up_at]
  · rw [sm_up_off (by omega), sm_up_off (by omega), sm_up_off (by omega), sm_up_off (by omega), p_up_at]
  · rw [sm_up_off (by omega), sm_up_off (by omega), sm_up_off (by omega), p_up_at]
  · rw [sm_up_off (by omega), sm_up_off (by omega), p_up_at]
  · rw [sm_up_off (by omega), p_up_at]
  · rw [sm_up_ne _ _ _ _ _ r2, sm_up_ne _ _ _ _ _ r2, sm_up_ne _ _ _ _ _ r2, sm_up_ne _ _ _ _ _ r1, sm_up_ne _ _ _ _ _ r1, sm_up_ne _ _ _ _ _ r1, sm_up_ne _ _ _ _ _ r1, sm_up_ne _ _ _ _ _ r1, sm_up_ne _ _ _ _ _ r1, sm_up_ne _ _ _ _ _ r1]
-- the class begins to read
theorem n_cbeg (hp : p = 1 ∨ p = 24) (h1 : h 17 1 = nI p) (C : n_CU b L h) (hL : L ≤ 900) : ∃ h0 T m, f_re_begin 17 (nI L) h = some h0 ∧ n_B0 b L T p h0 ∧ n_G p h0 0 h0 ∧ n_TA b L T (h0 20) (h0 21) (h0 22) (h0 23) m 0 0 false ∧ h0 17 4 = 0 ∧ h0 17 5 = 0 ∧ (∀ r, r ≠ 17 → r ≠ 18 → ¬ (20 ≤ r ∧ r ≤ 23) → ¬ (p ≤ r ∧ r ≤ p + 15) → h0 r = h r) ∧ (∀ j, j ≠ 6 → j ≠ 7 → h0 18 j = h 18 j) ∧ (h0 p 0 = 1 ∧ h0 p 1 = 0 ∧ h0 p 2 = 0 ∧ h0 p 3 = 0 ∧ h0 p 4 = 50 ∧ h0 p 5 = 10 ∧ h0 p 6 = 0 ∧ h0 (p + 9) 0 = 0 ∧ h0 (p + 9) 1 = 0 ∧ h0 (p + 9) 2 = 0) := by
  obtain ⟨q1, q2⟩ := p_isPp hp
  obtain ⟨hA, a1, a2, a3⟩ := n_plbeg hp h
  have CA : n_CU b L hA := by
    intro i hi
    rw [a3 19 (by omega) (by omega)]
    exact C i hi
  obtain ⟨hB, T, m, b1, b2, b3, b4, b5, b6, b7, b8⟩ := n_cut hL CA
  obtain ⟨hC, hhC⟩ : ∃ hC, hC = sm_up (sm_up (sm_up (sm_up hB 17 2 0) 17 3 (-1)) 17 4 0) 17 5 0 := ⟨_, rfl⟩
  have e : ∀ r, r ≠ 17 → hC r = hB r := fun r hr => by rw [hhC, sm_up_ne _ _ _ _ _ hr, sm_up_ne _ _ _ _ _ hr, sm_up_ne _ _ _ _ _ hr, sm_up_ne _ _ _ _ _ hr]
  have e17 : hB 17 = h 17 := by rw [b7 17 (by omega)]; exact a3 17 (by omega) (by omega)
  refine ⟨hC, T, m, ?_, ⟨hL, b4, ?_, by rw [e 18 (by decide)]; exact b2, hp⟩, ⟨?_, ?_, ?_, by rw [e 18 (by decide)]; exact b3, fun _ _ => rfl, fun _ _ _ _ => rfl⟩, by rw [e 20 (by decide), e 21 (by decide), e 22 (by decide), e 23 (by decide)]; exact b8, ?_, ?_, fun r r1 r2 r3 r4 => ?_, fun j j1 j2 => ?_, ?_⟩
  · unfold f_re_begin
    rw [h1, q1, s_true, q2]
    refine w_lt ?_
    refine w_bd a1 ?_
    refine w_bd b1 ?_
    refine w_lt ?_
    refine w_lt ?_
    refine w_lt ?_
    refine w_lt ?_
    rw [hhC]
  · intro i hi
    rw [e 19 (by decide), b7 19 (by omega)]
    exact CA i hi
  · rw [hhC, sm_up_off (by omega), sm_up_off (by omega), sm_up_off (by omega), sm_up_off (by omega), e17]
    exact h1
  · rw [hhC, sm_up_off (by omega), sm_up_off (by omega), sm_up_off (by omega), p_up_at]
  · rw [hhC, sm_up_off (by omega), sm_up_off (by omega), p_up_at]
  · rw [hhC, sm_up_off (by omega), p_up_at]
  · rw [hhC, p_up_at]
  · rw [e r r1, b7 r (by omega), a3 r (by omega) (by omega)]
  · rw [e 18 (by decide), b6 j j1 j2, a3 18 (by omega) (by omega)]
  · rw [e p (by omega), e (p + 9) (by omega), b7 p (by omega), b7 (p + 9) (by omega)]
    exact a2
-- the reference clears its plan
theorem n_clp (h : sm_H) : ∀ n i q, 1268 - i < n → i ≤ 1268 → ∃ q', f_mo_clearPlan_L2 n 116 (nI i) (n_rr g u q w) = f_mo_clearPlan_L19 116 (n_rr g u q' w) ∧ (∀ k, i ≤ k → k < 1268 → q' k = 0) ∧ ∀ k, k < i → q' k = q k := by
  have len : sm_len 116 = 1268 := by decide +kernel
  intro n
  induction n with
  | zero => intro i q z; omega
  | succ n ih =>
    intro i q a1 a2
    by_cases y : i = 1268
    · refine ⟨q, ?_, fun k _ _ => by omega, fun k _ => rfl⟩
      show (if 1268 ≤ nI i then _ else _) = _
      rw [if_pos (show (1268 : Int32) ≤ nI i from nI_le (a := 1268) (by omega) (by omega))]
    · obtain ⟨q', b1, b2, b3⟩ := ih (i + 1) (upd q i 0) (by omega) (by omega)
      refine ⟨q', ?_, fun k k1 k2 => ?_, fun k hk => by rw [b3 k (by omega), p_ud_off (by omega)]⟩
      · obtain ⟨Rr, hR⟩ : ∃ Rr, Rr = f_mo_clearPlan_L19 116 (n_rr g u q' w) := ⟨_, rfl⟩
        rw [← hR] at b1 ⊢
        show (if 1268 ≤ nI i then _ else _) = _
        rw [if_neg (show ¬ (1268 : Int32) ≤ nI i from nI_ge (b := 1268) (by omega) (by omega)), len, sm_gd_t (sm_inb_nI (k := i) (n := 1268) (by omega) (by omega)), nI_clamp (n := i) (by omega), n_u116, nI_1]
        refine w_lt ?_
        refine w_lt ?_
        exact b1
      · by_cases x : k = i
        · rw [x, b3 i (by omega), p_ud_at]
        · exact b2 k (by omega) k2
theorem n_clear : ∃ q', f_mo_clearPlan 116 (n_rr g u q w) = some (n_rr g u q' w) ∧ q' 0 = 1 ∧ q' 5 = 50 ∧ q' 6 = 10 ∧ ∀ k, k < 1268 → k ≠ 0 → k ≠ 5 → k ≠ 6 → q' k = 0 := by
  have len : sm_len 116 = 1268 := by decide +kernel
  obtain ⟨q1, a1, a2, -⟩ := n_clp (g := g) (u := u) (w := w) g sm_N 0 q (by unfold sm_N; omega) (by omega)
  refine ⟨upd (upd (upd q1 0 1) 5 50) 6 10, ?_, by rw [p_ud_off (by decide), p_ud_off (by decide), p_ud_at], by rw [p_ud_off (by decide), p_ud_at], p_ud_at, fun k k1 k2 k3 k4 => by rw [p_ud_off k4, p_ud_off k3, p_ud_off k2]; exact a2 k (Nat.zero_le _) k1⟩
  unfold f_mo_clearPlan
  refine a1.trans ?_
  unfold f_mo_clearPlan_L19
  rw [len, s_i0, s_c0, n_u116]
  refine w_lt ?_
  rw [s_i5, s_c5, n_u116]
  refine w_lt ?_
  rw [s_i6, s_c6, n_u116]
  rfl
-- the plans at the beginning
theorem n_IT.init {q : Nat → Int32} (a : h p 0 = 1 ∧ h p 1 = 0 ∧ h p 2 = 0 ∧ h p 3 = 0 ∧ h p 4 = 50 ∧ h p 5 = 10 ∧ h p 6 = 0 ∧ h (p + 9) 0 = 0 ∧ h (p + 9) 1 = 0 ∧ h (p + 9) 2 = 0) (b0 : q 0 = 1) (b5 : q 5 = 50) (b6 : q 6 = 10) (b : ∀ k, k < 1268 → k ≠ 0 → k ≠ 5 → k ≠ 6 → q k = 0) : n_IT 1 0 0 0 0 0 0 p h q := by
  obtain ⟨a0, a1, a2, a3, a4, a5, a6, a7, a8, a9⟩ := a
  refine ⟨⟨⟨by omega, by omega, by omega, by omega, by omega⟩, ⟨a0, b0, a1, b 1 (by omega) (by omega) (by omega) (by omega), a2, b 2 (by omega) (by omega) (by omega) (by omega), a3, b 3 (by omega) (by omega) (by omega) (by omega), 50, 10, by omega, by omega, by omega, a4, b5, a5, b6⟩, fun d hd => absurd hd (Nat.not_lt_zero _), fun d hd => absurd hd (Nat.not_lt_zero _), fun d hd => absurd hd (Nat.not_lt_zero _), fun d d1 d2 => b _ (by omega) (by omega) (by omega) (by omega), fun f f1 f2 => b _ (by omega) (by omega) (by omega) (by omega)⟩, ⟨by omega, by omega, a7, b 4 (by omega) (by omega) (by omega) (by omega), a9, b 7 (by omega) (by omega) (by omega) (by omega), fun a ha => absurd ha (Nat.not_lt_zero _)⟩, ⟨fun _ => 0, fun _ => 0, rfl, rfl, rfl, rfl, fun r hr => absurd hr (Nat.not_lt_zero _)⟩, ⟨Nat.zero_le _, a8, b 8 (by omega) (by omega) (by omega) (by omega), fun k hk => absurd hk (Nat.not_lt_zero _), fun j hj => absurd hj (Nat.not_lt_zero _)⟩⟩
-- the class's state begins
theorem n_fl {a n : Nat} (hl : sm_len a = n) (hn : n < 10000) (h : sm_H) : ∃ h', f_ja_fill a 0 h = some h' ∧ (∀ k, k < n → h' a k = 0) ∧ ∀ r, r ≠ a → h' r = h r := by
  refine ⟨_, e_fill a 0 h (by omega), fun k hk => ?_, fun r hr => p_row_off hr⟩
  rw [p_row_at, if_pos (by omega)]
theorem n_stl (hp : p = 1 ∨ p = 24) (hD : D ≤ 16) : ∀ n i h, D - i < n → i ≤ D → h 40 0 = nI p → h p 1 = nI D → ∃ h', f_st_begin_L119 n 40 (nI i) h = some h' ∧ (∀ r, r ≠ 43 → h' r = h r) ∧ (∀ k, i ≤ k → k < D → h' 43 k = if sm_bt (h p 6) k = true then h (p + 2) k else 0) ∧ ∀ k, k < i ∨ D ≤ k → h' 43 k = h 43 k := by
  obtain ⟨q1, q2⟩ := p_isPp hp
  intro n
  induction n with
  | zero => intro i h z; omega
  | succ n ih =>
    intro i h a1 a2 a3 a4
    by_cases y : i = D
    · refine ⟨h, ?_, fun _ _ => rfl, fun k k1 k2 => by omega, fun _ _ => rfl⟩
      show sm_gd (sm_isP (h 40 0)) (sm_let (sm_p (h 40 0)) _) = _
      rw [a3, q1, s_true, q2]
      refine w_lt ?_
      rw [a4, if_pos (nI_le (by omega) (by omega))]
    · obtain ⟨v, hv⟩ : ∃ v, v = if sm_bt (h p 6) i = true then h (p + 2) i else 0 := ⟨_, rfl⟩
      obtain ⟨h', b1, b2, b3, b4⟩ := ih (i + 1) (sm_up h 43 i v) (by omega) (by omega) (by rw [sm_up_ne _ _ _ _ _ (by omega)]; exact a3) (by rw [sm_up_ne _ _ _ _ _ (by omega)]; exact a4)
      rw [sm_up_ne _ _ _ _ p (by omega), sm_up_ne _ _ _ _ (p + 2) (by omega)] at b3
      refine ⟨h', ?_, fun r hr => by rw [b2 r hr, sm_up_ne _ _ _ _ _ hr], fun k k1 k2 => ?_, fun k hk => by rw [b4 k (by omega), sm_up_off (by omega)]⟩
      · have F : f_st_begin_L162 (f_st_begin_L119 n) 40 (nI i) v (nI i) (40 + 3) h = some h' := by
          unfold f_st_begin_L162
          rw [sm_gd_t (sm_inb_nI (k := i) (n := 23) (by omega) (by omega)), nI_clamp (n := i) (by omega), nI_1]
          refine w_lt ?_
          refine w_lt ?_
          exact b1
        show sm_gd (sm_isP (h 40 0)) (sm_let (sm_p (h 40 0)) _) = _
        rw [a3, q1, s_true, q2]
        refine w_lt ?_
        rw [a4, if_neg (nI_ge (by omega) (by omega)), s_true]
        refine w_lt ?_
        refine w_b2 (e_has (h p 6) i h (by omega)) ?_
        cases hb : sm_bt (h p 6) i
        · rw [if_pos (show sm_b2i false = 0 by decide)]
          rw [hb, if_neg (by decide)] at hv
          rw [← hv]
          exact F
        · rw [if_neg (show ¬ sm_b2i true = 0 by decide)]
          rw [hb, if_pos rfl] at hv
          rw [a3, q1, s_true, q2]
          refine w_lt ?_
          rw [sm_gd_t (sm_inb_nI (k := i) (n := 23) (by omega) (by omega)), nI_clamp (n := i) (by omega), ← hv]
          exact F
      · by_cases x : k = i
        · rw [x, b4 i (by omega), p_up_at]
          exact hv
        · exact b3 k (by omega) k2
end n_bgn
