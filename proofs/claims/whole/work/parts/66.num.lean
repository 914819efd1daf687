-- LOAD: NUMBERS AND SIGNS of the reference
section n_num
variable {b : Nat → Nat} {L T i e s τ c : Nat} {g : sm_H} {u q w : Nat → Int32} {le : Bool} {W : List Nat} {kd st sz vl : Nat → Int32}
theorem n_dgt (B : n_RB b L g) (lo hi : Int32) {n : Nat} (hn : s + n ≤ L) (hb : ∀ k, k < n → n_ty (b (s + k)) = 2) (he : s + n < L → n_ty (b (s + n)) ≠ 2) : ∀ m k u1, n - k < m → k ≤ n → u1 11 = nI L → u1 13 = nI s → u1 14 = nI (n_dv b s (min k 3)) → (∀ j, j ≠ 14 → u1 j = u j) → ∃ u', f_mo_readNumber_L38 m 114 lo hi (nI k) (n_rr g u1 q w) = f_mo_readNumber_L98 114 lo hi (nI n) (n_rr g u' q w) ∧ u' 14 = nI (n_dv b s (min n 3)) ∧ (∀ j, j ≠ 14 → u' j = u j) := by
  have hL := B.1
  intro m
  induction m with
  | zero => intro k u1 z; omega
  | succ m ih =>
    intro k u1 a1 a2 a3 a4 a5 a6
    have R1 : f_mo_byteAt 114 ((n_rr g u1 q w 114 13) + nI k) (n_rr g u1 q w) = some (n_ba b L (s + k), n_rr g u1 q w) := by
      rw [n_r114, a4, nI_add]
      exact n_byteAt B a3 (by omega)
    by_cases y : k = n
    · subst y
      refine ⟨u1, ?_, a5, a6⟩
      unfold f_mo_readNumber_L38
      refine w_b2 R1 ?_
      refine w_b2 (n_isDigit B (s + k) _) ?_
      rw [decide_eq_false (fun z => he z.1 z.2), if_pos (show sm_b2i false = 0 by decide)]
    · have hk : k < n := by omega
      have ck := hb k hk
      have c1 := n_ty2.mp ck
      obtain ⟨v, hv⟩ : ∃ v : Nat, v = n_dv b s (min (k + 1) 3) := ⟨_, rfl⟩
      obtain ⟨u', q1, q2, q3⟩ := ih (k + 1) (upd u1 14 (nI v)) (by omega) (by omega) (by rw [p_ud_off (by decide)]; exact a3) (by rw [p_ud_off (by decide)]; exact a4) (by rw [p_ud_at, hv]) (fun j j1 => by rw [p_ud_off j1]; exact a6 j j1)
      refine ⟨u', ?_, q2, q3⟩
      have F : ∀ v', v' = nI v → f_mo_readNumber_L88 (f_mo_readNumber_L38 m) 114 lo hi (nI k) v' 114 (n_rr g u1 q w) = f_mo_readNumber_L98 114 lo hi (nI n) (n_rr g u' q w) := by
        intro v' ev
        unfold f_mo_readNumber_L88
        refine w_lt ?_
        refine w_lt ?_
        rw [ev, n_u114, nI_1]
        exact q1
      unfold f_mo_readNumber_L38
      refine w_b2 R1 ?_
      refine w_b2 (n_isDigit B (s + k) _) ?_
      rw [decide_eq_true ⟨show s + k < L by omega, ck⟩, if_neg (show ¬ sm_b2i true = 0 by decide)]
      by_cases x : 3 ≤ k
      · rw [if_pos (show (3 : Int32) ≤ nI k from nI_le (a := 3) x (by omega))]
        refine F _ ?_
        rw [n_r114, a5, hv, show min k 3 = min (k + 1) 3 by omega]
      · rw [if_neg (show ¬ (3 : Int32) ≤ nI k from nI_ge (b := 3) (by omega) (by omega))]
        refine w_b2 R1 ?_
        refine F _ ?_
        rw [n_r114, a5, hv, show min (k + 1) 3 = k + 1 by omega, show min k 3 = k by omega]
        unfold n_ba
        rw [if_pos (by omega), show (10 : Int32) = nI 10 from rfl, show (48 : Int32) = nI 48 from rfl, nI_mul, nI_add, nI_sub (by omega)]
        show _ = nI (10 * n_dv b s k + (b (s + k) - 48))
        congr 1
        omega
theorem n_rnumF (B : n_RB b L g) (K : n_T1 b L T kd st sz vl i e le τ W s) (U : n_U L u e le s) (lo hi : Int32) : (τ = 2 ∧ lo ≤ nI (n_dv b s W.length) ∧ nI (n_dv b s W.length) ≤ hi → ∃ u', f_mo_readNumber 114 lo hi (n_rr g u q w) = some (1, n_rr g u' q w) ∧ n_uf u u' ∧ u' 14 = nI (n_dv b s W.length) ∧ u' 10 = nI (s + W.length) ∧ u' 12 = nI (s + W.length) ∧ u' 11 = nI L) ∧ (¬ (τ = 2 ∧ lo ≤ nI (n_dv b s W.length) ∧ nI (n_dv b s W.length) ≤ hi) → ∃ u', f_mo_readNumber 114 lo hi (n_rr g u q w) = some (0, n_rr g u' q w) ∧ n_ub (if τ = 2 then 2 else 1) s u u') := by
  obtain ⟨u1, p1, p2, p3, p4, p5, p6, -⟩ := n_peek (q := q) (w := w) B K U
  have hL := B.1
  have hes : e ≤ s := K.1
  have hsL : s ≤ L := K.2.1
  have F1 : ∀ u2 : Nat → Int32, u2 13 = nI s → ∀ c : Nat, sm_b2 (f_mo_fails 114 (nI c) (n_rr g u2 q w 114 13) (n_rr g u2 q w)) (fun r43 g44 => sm_gd (sm_bz r43) <| some (r43, g44)) = some (0, n_rr g (upd (upd u2 15 (nI c)) 16 (nI s)) q w) ∧ n_ub c s u2 (upd (upd u2 15 (nI c)) 16 (nI s)) := by
    intro u2 h2 c
    obtain ⟨f1, f2⟩ := n_fails (g := g) (q := q) (w := w) (c := c) h2
    refine ⟨?_, f2⟩
    rw [n_r114]
    exact w_b2 f1 rfl
  have L21 : f_mo_readNumber_L21 114 (n_rr g u1 q w) = some (0, n_rr g (upd (upd u1 15 (nI 1)) 16 (nI s)) q w) := (F1 u1 p4 1).1
  -- a run of digits that isn't directly behind another
  have Run : ∀ n, 1 ≤ n → s + n ≤ L → (∀ k, k < n → n_ty (b (s + k)) = 2) → (s + n < L → n_ty (b (s + n)) ≠ 2) → ¬ (le = true ∧ s = e) → ∃ u', f_mo_readNumber 114 lo hi (n_rr g u q w) = f_mo_readNumber_L98 114 lo hi (nI n) (n_rr g u' q w) ∧ u' 14 = nI (n_dv b s (min n 3)) ∧ n_uf u u' ∧ u' 13 = nI s ∧ u' 11 = nI L := by
    intro n n1 n2 n3 n4 n5
    obtain ⟨u', q1, q2, q3⟩ := n_dgt (g := g) (q := q) (w := w) (u := u1) B lo hi n2 n3 n4 sm_N 0 (upd u1 14 0) (by unfold sm_N; omega) (Nat.zero_le _) (by rw [p_ud_off (by decide)]; exact p6.1) (by rw [p_ud_off (by decide)]; exact p4) (by rw [p_ud_at]; rfl) (fun j j1 => by rw [p_ud_off j1])
    refine ⟨u', ?_, q2, fun k a1 a2 a3 a4 a5 a6 => (q3 k a4).trans (p2 k a1 a2 a3 a4 a5 a6), (q3 13 (by decide)).trans p4, (q3 11 (by decide)).trans p6.1⟩
    have c0 := n3 0 (by omega)
    rw [Nat.add_zero] at c0
    unfold f_mo_readNumber
    refine w_b2 p1 ?_
    refine w_b2 (n_isDigit B s _) ?_
    rw [decide_eq_true ⟨show s < L by omega, c0⟩, if_neg (show ¬ sm_b2i true = 0 by decide), n_r114, p4, p6.2.2, if_neg (fun z => n5 ((n_nl (by omega) (by omega) le).mp z))]
    refine w_lt ?_
    rw [n_u114]
    exact q1
  by_cases t2 : τ = 2
  · obtain ⟨m1, m2, m3, m4, m5⟩ := K.2.2.2.2.2.2.2.2.1 (Or.inr t2)
    have hw3 := (K.2.2.2.2.2.2.2.2.2.2.1 t2).1
    obtain ⟨u', r1, r2, r3, r4, r5⟩ := Run W.length m1 m2 (fun k hk => (m3 k hk).2.trans t2) (fun z => by rw [← t2]; exact m4 z) m5
    rw [show min W.length 3 = W.length by omega] at r2
    have E : f_mo_in (n_rr g u' q w 114 14) lo hi (n_rr g u' q w) = some (sm_b2i (decide (lo ≤ nI (n_dv b s W.length) ∧ nI (n_dv b s W.length) ≤ hi)), n_rr g u' q w) := by rw [n_r114, r2, e_in]
    constructor
    · rintro ⟨-, z⟩
      refine ⟨upd (upd u' 10 (nI (s + W.length))) 12 (nI (s + W.length)), ?_, n_ufu (n_ufu r3 _ (Or.inl rfl)) _ (Or.inr (Or.inl rfl)), by rw [p_ud_off (by decide), p_ud_off (by decide)]; exact r2, by rw [p_ud_off (by decide), p_ud_at], p_ud_at, by rw [p_ud_off (by decide), p_ud_off (by decide)]; exact r5⟩
      rw [r1]
      unfold f_mo_readNumber_L98
      rw [if_pos (show nI W.length ≤ 3 from nI_le (b := 3) hw3 (by omega))]
      refine w_b2 E ?_
      rw [decide_eq_true z, if_neg (show ¬ sm_b2i true = 0 by decide)]
      refine w_lt ?_
      refine w_lt ?_
      rw [n_r114, r4, nI_add, n_u114, n_r114, p_ud_at, n_u114]
    · intro z
      refine ⟨_, ?_, r3.ub (F1 u' r4 (if τ = 2 then 2 else 1)).2⟩
      rw [r1]
      unfold f_mo_readNumber_L98
      rw [if_pos (show nI W.length ≤ 3 from nI_le (b := 3) hw3 (by omega))]
      refine w_b2 E ?_
      rw [decide_eq_false (fun x => z ⟨t2, x⟩), if_pos (show sm_b2i false = 0 by decide), if_pos t2]
      exact (F1 u' r4 2).1
  · constructor
    · rintro ⟨z, -⟩
      exact absurd z t2
    · intro _
      rw [if_neg t2]
      by_cases z : s < L ∧ n_ty (b s) = 2
      · rcases n_digit K z.1 z.2 with y | ⟨-, y⟩
        · exact absurd y t2
        · by_cases x : le = true ∧ s = e
          · refine ⟨_, ?_, p2.ub (F1 u1 p4 1).2⟩
            unfold f_mo_readNumber
            refine w_b2 p1 ?_
            refine w_b2 (n_isDigit B s _) ?_
            rw [decide_eq_true z, if_neg (show ¬ sm_b2i true = 0 by decide), n_r114, p4, p6.2.2, if_pos ((n_nl (by omega) (by omega) le).mpr x)]
            exact L21
          · rcases y with y | ⟨n, n1, n2, n3, n4⟩
            · exact absurd y x
            · obtain ⟨u', r1, r2, r3, r4, r5⟩ := Run n (by omega) n2 n3 n4 x
              refine ⟨_, ?_, r3.ub (F1 u' r4 1).2⟩
              rw [r1]
              unfold f_mo_readNumber_L98
              rw [if_neg (show ¬ nI n ≤ 3 from nI_ge (a := 3) (by omega) (by omega))]
              exact (F1 u' r4 1).1
      · refine ⟨_, ?_, p2.ub (F1 u1 p4 1).2⟩
        unfold f_mo_readNumber
        refine w_b2 p1 ?_
        refine w_b2 (n_isDigit B s _) ?_
        rw [decide_eq_false z, if_pos (show sm_b2i false = 0 by decide)]
        exact L21
theorem n_sign_iff (K : n_T1 b L T kd st sz vl i e le τ W s) (hc : n_ty c = 3) : (s < L ∧ b s = c) ↔ (τ = 3 ∧ W = [c]) := by
  obtain ⟨k1, k2, k3, k4, k5, k6, k7, k8, k9, ka, kb, kc, kd⟩ := K
  constructor
  · rintro ⟨z1, z2⟩
    have t : τ = 0 ∨ τ = 1 ∨ τ = 2 ∨ τ = 3 ∨ τ = 4 := by clear kd; omega
    have F : τ = 1 ∨ τ = 2 → False := by
      intro t
      have h1 := k9 t
      have := (h1.2.2.1 0 (Nat.lt_of_lt_of_le Nat.zero_lt_one h1.1)).2
      rw [Nat.add_zero, z2, hc] at this
      rcases t with t | t <;> rw [t] at this <;> exact absurd this (by decide)
    rcases t with t | t | t | t | t
    · have := (k7 t).1; exact absurd this (by clear kd; omega)
    · exact (F (Or.inl t)).elim
    · exact (F (Or.inr t)).elim
    · exact ⟨t, by rw [(kc t).1, z2]⟩
    · exact absurd (by rw [z2]; exact hc) (kd t).2.1
  · rintro ⟨z1, z2⟩
    have h1 := (kc z1).1
    rw [z2] at h1
    exact ⟨(k8 (by rw [z1]; decide)).1, (List.cons.inj h1).1.symm⟩
theorem n_passSign (h : u 13 = nI s) : f_mo_passSign 114 (n_rr g u q w) = some (n_rr g (upd (upd u 10 (nI (s + 1))) 12 (-1)) q w) := by
  unfold f_mo_passSign
  refine w_lt ?_
  refine w_lt ?_
  rw [n_r114, h, nI_1, n_u114, n_u114]
theorem n_rsign (B : n_RB b L g) (K : n_T1 b L T kd st sz vl i e le τ W s) (U : n_U L u e le s) (hc : n_ty c = 3) : (τ = 3 ∧ W = [c] → ∃ u', f_mo_readSign 114 (nI c) (n_rr g u q w) = some (1, n_rr g u' q w) ∧ n_uf u u' ∧ u' 10 = nI (s + 1) ∧ u' 12 = -1 ∧ u' 11 = nI L) ∧ (¬ (τ = 3 ∧ W = [c]) → ∃ u', f_mo_readSign 114 (nI c) (n_rr g u q w) = some (0, n_rr g u' q w) ∧ n_ub 1 s u u') := by
  obtain ⟨u1, p1, p2, p3, p4, p5, p6, -⟩ := n_peek (q := q) (w := w) B K U
  have c128 : c < 128 := by
    rcases n_ty3.mp hc with z | z | z | z <;> omega
  constructor
  · intro z
    refine ⟨upd (upd u1 10 (nI (s + 1))) 12 (-1), ?_, n_ufu (n_ufu p2 _ (Or.inl rfl)) _ (Or.inr (Or.inl rfl)), by rw [p_ud_off (by decide), p_ud_at], p_ud_at, by rw [p_ud_off (by decide), p_ud_off (by decide)]; exact p6.1⟩
    unfold f_mo_readSign
    refine w_b2 p1 ?_
    rw [if_pos ((n_ba_eq B s c (by omega)).mpr ((n_sign_iff K hc).mpr z))]
    exact w_bd (n_passSign p4) rfl
  · intro z
    obtain ⟨f1, f2⟩ := n_fails (g := g) (q := q) (w := w) (c := 1) p4
    refine ⟨_, ?_, p2.ub f2⟩
    unfold f_mo_readSign
    refine w_b2 p1 ?_
    rw [if_neg (fun x => z ((n_sign_iff K hc).mp ((n_ba_eq B s c (by omega)).mp x))), n_r114]
    exact w_b2 f1 rfl
end n_num
