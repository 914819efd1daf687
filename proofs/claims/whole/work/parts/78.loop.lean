-- LOAD: THE CONDITION'S LOOPS, out of its tests
def n_TT (b : Nat → Nat) (L T p : Nat) (h0 g : sm_H) (Z D F R N Kc A : Nat) (tf : Nat → Int32 → sm_H → Option sm_H) (d : Nat) : Prop := ∀ i e le h u q w S K n m, n_dep S = d → n_SS b L T p h0 i e le h u → n_R S u w → S.length ≤ 3 * d + 2 → n_CS Z D F R N Kc A p K [] (n_bin S) h q → 3 * (K + n_nop S) ≤ e → T < i + n → T < i + m → ∃ h', tf 17 (nI d) h = some h' ∧ ((∃ u' q' w' i' e' le' K' n' k' m', n_A n m (n_rr g u q w) = n_C n' k' m' (n_rr g u' q' w') ∧ n_uc u u' ∧ i < i' ∧ n_SS b L T p h0 i' e' le' h' u' ∧ n_R S u' w' ∧ n_CS Z D F R N Kc A p K' [] (n_bin S + 1) h' q' ∧ 3 * (K' + n_nop S) + 3 ≤ e' ∧ T < i' + m' ∧ T < i' + n' ∧ S.length < k' ∧ h' 17 = h 17) ∨ ∃ u' q' w', n_A n m (n_rr g u q w) = some (0, n_rr g u' q' w') ∧ n_bad p h0 h' u u')
section n_loop
variable {b : Nat → Nat} {L T p : Nat} {h0 g : sm_H} {Z D F R N Kc A : Nat} {tf : Nat → Int32 → sm_H → Option sm_H} {d : Nat} {S0 : List Nat}
theorem n_SS.lt {i e : Nat} {le : Bool} {h : sm_H} {u : Nat → Int32} (Y : n_SS b L T p h0 i e le h u) : i + 1 ≤ T := by
  obtain ⟨τ, W, s, -, K, -⟩ := Y
  obtain ⟨-, -, -, -, -, -, k7, k8, -⟩ := K
  by_cases z : τ = 0
  · have := (k7 z).2; omega
  · have := (k8 (by omega)).2; omega
-- behind a test: settle 3 has nothing to do
theorem n_C_P5 {n k m : Nat} {u q w : Nat → Int32} {S : List Nat} (r : n_R S u w) (hk : 0 < k) (hs : S = [] ∨ ∃ o S', S = o :: S' ∧ n_sg o < 3) : n_C n k m (n_rr g u q w) = n_P5 n m (n_rr g u q w) := by
  obtain ⟨k, rfl⟩ : ∃ j, k = j + 1 := ⟨k - 1, by omega⟩
  unfold n_C
  exact w_bd (n_set0 (g := g) (k := k) r (by decide) (by decide) hs) rfl
theorem n_uc.U3 {u u' : Nat → Int32} {i e : Nat} {le : Bool} {h : sm_H} (Y : n_SS b L T p h0 i e le h u) (e1 : ∀ j, j ≠ 19 → j ≠ 20 → u' j = u j) : n_SS b L T p h0 i e le h u' := Y.uf ⟨e1 10 (by decide) (by decide), e1 11 (by decide) (by decide), e1 12 (by decide) (by decide)⟩
theorem n_loop (B : n_B0 b L T p h0) (RB : n_RB b L g) (hT : n_TT b L T p h0 g Z D F R N Kc A tf d) (hd : d ≤ 6) (hb : n_base S0) (h0d : n_dep S0 = d) (hl : S0.length ≤ 3 * d) (A0 : Nat → Int32 → sm_H → Option sm_H) : ∀ M i e le h u q w K n m a o c1 c2 f1 f2, T - i < M → n_SS b L T p h0 i e le h u → n_R (n_X a o ++ S0) u w → n_CS Z D F R N Kc A p K (n_X1 a) (n_bin (n_X a o ++ S0) + 1) h q → 3 * (K + n_nop (n_X a o ++ S0)) + 3 ≤ e → T < i + n → T < i + m → o = decide (0 < c1) → 2 * c1 + 1 ≤ i → 2 * c2 + 1 ≤ i → T < i + f1 → T < i + f2 →
    ∃ h', f_re_condition_L23 A0 tf (f_re_condition_L4 A0 tf f2) f1 17 (nI d) (nI c1) (nI c2) h = some h' ∧ ((∃ u' q' w' i' e' le' K' n' m' a' o' τ W s, n_P5 n m (n_rr g u q w) = n_P5 n' m' (n_rr g u' q' w') ∧ n_uc u u' ∧ i ≤ i' ∧ n_S b L T p h0 i' e' le' τ W s h' u' ∧ ¬ (τ = 1 ∧ W = n_kw 18) ∧ ¬ (τ = 1 ∧ W = n_kw 19) ∧ n_R (n_X a' o' ++ S0) u' w' ∧ n_CS Z D F R N Kc A p K' (n_X a' o') (n_bin (n_X a' o' ++ S0) + 1) h' q' ∧ 3 * (K' + n_nop (n_X a' o' ++ S0)) + 3 ≤ e' ∧ T < i' + m' ∧ T < i' + n' ∧ h' 17 = h 17) ∨ ∃ u' q' w', n_P5 n m (n_rr g u q w) = some (0, n_rr g u' q' w') ∧ n_bad p h0 h' u u') := by
  have hp := B.2.2.2.2
  obtain ⟨q1, q2⟩ := p_isPp hp
  have hTL := B.2.1
  have hL9 := B.1
  intro M
  induction M with
  | zero => intro i e le h u q w K n m a o c1 c2 f1 f2 z; omega
  | succ M ih =>
    intro i e le h u q w K n m a o c1 c2 f1 f2 z1 Y r C bud zn zm zo zc1 zc2 zf1 zf2
    have hiT := Y.lt
    obtain ⟨f1, rfl⟩ : ∃ j, f1 = j + 1 := ⟨f1 - 1, by omega⟩
    obtain ⟨f2, rfl⟩ : ∃ j, f2 = j + 1 := ⟨f2 - 1, by omega⟩
    obtain ⟨n, rfl⟩ : ∃ j, n = j + 1 := ⟨n - 1, by omega⟩
    obtain ⟨m, rfl⟩ : ∃ j, m = j + 1 := ⟨m - 1, by omega⟩
    obtain ⟨τ, W, s, Y⟩ := Y
    obtain ⟨G, Kt, nx, U⟩ := id Y
    have hes : e ≤ s := Kt.1
    have hsL : s ≤ L := Kt.2.1
    have lX : (n_X a o ++ S0).length ≤ 3 * d + 2 := by
      rw [List.length_append]
      have : (n_X a o).length ≤ 2 := by cases a <;> cases o <;> decide
      omega
    have w18 := n_takeWord B G Kt (a := 18) (by decide)
    have w19 : ∀ h1, n_G p h0 i h1 → f_re_takeWord 17 19 h1 = if τ = 1 ∧ W = n_kw 19 then some (1, sm_up h1 18 7 (nI (i + 1))) else some (0, h1) := fun h1 G1 => n_takeWord B G1 Kt (a := 19) (by decide)
    by_cases hand : τ = 1 ∧ W = n_kw 18
    · -- and
      obtain ⟨ht, hW⟩ := hand
      rw [if_pos ⟨ht, hW⟩] at w18
      have hTt := (Kt.2.2.2.2.2.2.2.1 (by rw [ht]; decide)).2
      obtain ⟨u1, p1, p2, p3⟩ := n_l5no (n := n + 1) (m := m) (q := q) RB Y r (fun z => by have := z.1; omega)
      obtain ⟨u2, x1, x2, x3⟩ := n_tailJ (n := n + 1) (q := q) (w := w) B RB p3 ht 7 (Or.inl ⟨rfl, hW⟩)
      obtain ⟨u3, q3, K3, y1, y2, y3, y4, y5, y6⟩ := n_set2 (g := g) (k := 19998) a o hb ((p2.trans x2).R r) (C.at7 hp (nI (i + 1)))
      have lY : (n_X false o ++ S0).length ≤ 3 * d + 1 := by
        rw [List.length_append]
        have : (n_X false o).length ≤ 1 := by cases o <;> decide
        omega
      obtain ⟨u4, w4, v1, v2, v3, v4⟩ := n_pushB (g := g) (q := q3) (o := 7) y2 (Or.inl rfl) (by omega)
      have hP : n_P5 (n + 1) (m + 1) (n_rr g u q w) = n_A n sm_N (n_rr g u4 q3 w4) := by
        rw [p1, x1]
        refine w_bd (show f_mo_settle_L0 sm_N 114 (nI (n_sg 7)) (n_rr g u2 q w) = _ from y1) ?_
        refine w_bd v1 ?_
        exact n_L10 n _
      have wl : W.length = 3 := by rw [hW]; decide
      have Y4 : n_SS b L T p h0 (i + 1) (s + W.length) true (sm_up h 18 7 (nI (i + 1))) u4 := (n_uc.U3 (x3) y4).uf ⟨v4 10 (by decide), v4 11 (by decide), v4 12 (by decide)⟩
      have hdep : n_dep (7 :: (n_X false o ++ S0)) = d := by
        rw [← h0d]
        cases o
        · show 0 + n_dep S0 = _
          omega
        · show 0 + (0 + n_dep S0) = _
          omega
      have hbin : n_bin (n_X false o ++ S0) + 1 = n_bin (7 :: (n_X false o ++ S0)) := by
        show _ = 1 + n_bin (n_X false o ++ S0)
        omega
      have hnop : n_nop (7 :: (n_X false o ++ S0)) = n_nop (n_X false o ++ S0) + 1 := by
        show 1 + n_nop (n_X false o ++ S0) = _
        omega
      have C4 : n_CS Z D F R N Kc A p K3 [] (n_bin (7 :: (n_X false o ++ S0))) (sm_up h 18 7 (nI (i + 1))) q3 := by rw [← hbin]; exact y5
      obtain ⟨h5, t1, t2⟩ := hT (i + 1) (s + W.length) true _ u4 q3 w4 (7 :: (n_X false o ++ S0)) K3 n sm_N hdep Y4 v2 (by rw [List.length_cons]; omega) C4 (by omega) (by omega) (by unfold sm_N; omega)
      have Cl : ∀ h6, f_ru_addCode (p + 9) 7 0 h5 = some h6 → h5 17 1 = nI p → f_re_condition_L23 A0 tf (f_re_condition_L4 A0 tf (f2 + 1)) (f1 + 1) 17 (nI d) (nI c1) (nI c2) h = f_re_condition_L23 A0 tf (f_re_condition_L4 A0 tf (f2 + 1)) f1 17 (nI d) (nI c1) (nI (c2 + 1)) h6 := by
        intro h6 e6 e17
        obtain ⟨Rr, hR⟩ : ∃ Rr, Rr = f_re_condition_L23 A0 tf (f_re_condition_L4 A0 tf (f2 + 1)) f1 17 (nI d) (nI c1) (nI (c2 + 1)) h6 := ⟨_, rfl⟩
        rw [← hR]
        show (if 900 ≤ nI c2 then _ else _) = _
        rw [if_neg (show ¬ (900 : Int32) ≤ nI c2 from nI_ge (b := 900) (by omega) (by omega))]
        refine w_b2 w18 ?_
        rw [if_neg (show ¬ (1 : Int32) = 0 by decide)]
        refine w_bd t1 ?_
        rw [e17, q1, s_true, q2]
        refine w_lt ?_
        refine w_bd e6 ?_
        refine w_lt ?_
        rw [nI_1, hR]
      have ucA : n_uc u u4 := (((p2.trans x2).uc.trans y3).trans v3)
      rcases t2 with ⟨u', q', w', i', e', le', K', n', k', m', a1, a2, a3, a4, a5, a6, a7, a8, a9, aa, ab⟩ | ⟨u', q', w', a1, a2⟩
      · obtain ⟨h6, b1, b2, b3⟩ := a6.cls hp (by
          have := a6.2.2.2.1.1
          have h3 := (n_dep_le (7 :: (n_X false o ++ S0))).2.1
          obtain ⟨τ', W', s', -, Kt', -⟩ := a4
          have e1 : e' ≤ s' := Kt'.1
          have e2 : s' ≤ L := Kt'.2.1
          show K' + 0 < 300
          omega) 7
        have e17 : h5 17 1 = nI p := by rw [ab, sm_up_ne _ _ _ _ _ (by decide)]; exact G.1
        rw [Cl h6 b1 e17]
        have hP2 : n_C n' k' m' (n_rr g u' q' w') = n_P5 n' m' (n_rr g u' q' w') := n_C_P5 a5 (by omega) (Or.inr ⟨7, _, rfl, by decide⟩)
        have eX : 7 :: (n_X false o ++ S0) = n_X true o ++ S0 := by cases o <;> rfl
        rw [eX] at a5 a7 b2
        obtain ⟨h', c1', c2'⟩ := ih i' e' le' h6 u' q' w' K' n' m' true o c1 (c2 + 1) f1 (f2 + 1) (by omega) (a4.of hp b3) a5 b2 (by omega) (by omega) (by omega) zo (by omega) (by omega) (by omega) (by omega)
        refine ⟨h', c1', ?_⟩
        rcases c2' with ⟨u9, q9, w9, i9, e9, le9, K9, n9, m9, a9', o9, τ9, W9, s9, d1, d2, d3, d4, d5, d6, d7, d8, d9, da, db, dc⟩ | ⟨u9, q9, w9, d1, d2⟩
        · exact Or.inl ⟨u9, q9, w9, i9, e9, le9, K9, n9, m9, a9', o9, τ9, W9, s9, by rw [hP, a1, hP2]; exact d1, (ucA.trans a2).trans d2, by omega, d4, d5, d6, d7, d8, d9, da, db, by rw [dc, b3 17 (by omega) (by omega) (by omega), ab, sm_up_ne _ _ _ _ _ (by decide)]⟩
        · exact Or.inr ⟨u9, q9, w9, by rw [hP, a1, hP2]; exact d1, (ucA.trans a2).bad d2⟩
      · obtain ⟨c, s', x5, x6⟩ := a2
        obtain ⟨h6, b1, b2⟩ := n_addCodeE hp x5 7 0
        obtain ⟨f1, rfl⟩ : ∃ j, f1 = j + 1 := ⟨f1 - 1, by omega⟩
        obtain ⟨h7, b3, b4⟩ := n_L23E hp b2 A0 tf f2 f1 (nI d) (nI c1) (nI (c2 + 1))
        exact ⟨h7, (Cl h6 b1 x5.2.1).trans b3, Or.inr ⟨u', q', w', by rw [hP]; exact a1, c, s', b4, ucA.ub x6⟩⟩
    · rw [if_neg hand] at w18
      -- the class is ahead by all that waits
      have H1 : ∃ h1, f_re_condition_L64 A0 tf (f_re_condition_L4 A0 tf (f2 + 1)) 17 (nI d) (nI c1) h = f_re_condition_L81 A0 tf (f_re_condition_L4 A0 tf (f2 + 1)) 17 (nI d) (nI c1) h1 ∧ n_CS Z D F R N Kc A p K (n_X a o) (n_bin (n_X a o ++ S0) + 1) h1 q ∧ ∀ r, r ≠ p + 9 → r ≠ p + 10 → r ≠ p + 11 → h1 r = h r := by
        by_cases zc : c1 = 0
        · have zo' : o = false := by rw [zo, decide_eq_false (by omega)]
          refine ⟨h, ?_, by rw [show n_X a o = n_X1 a ++ [] by rw [zo']; rfl] at *; rw [List.append_nil] at *; exact C, fun _ _ _ _ => rfl⟩
          unfold f_re_condition_L64
          rw [if_pos (show nI c1 ≤ 0 from nI_le (b := 0) (by omega) (by omega))]
        · have zo' : o = true := by rw [zo, decide_eq_true (by omega)]
          have h3 := (n_dep_le (n_X a o ++ S0)).2.1
          have h4 : (n_X1 a).length ≤ n_nop (n_X a o ++ S0) := by
            cases a
            · exact Nat.zero_le _
            · show 1 ≤ 1 + n_nop (n_X false o ++ S0)
              omega
          obtain ⟨h1, b1, b2, b3⟩ := C.cls hp (by omega) 8
          refine ⟨h1, ?_, by rw [show n_X a o = n_X1 a ++ [8] by rw [zo']; rfl] at *; exact b2, b3⟩
          unfold f_re_condition_L64
          rw [if_neg (show ¬ nI c1 ≤ 0 from nI_ge (a := 0) (by omega) (by omega)), G.1, q1, s_true, q2]
          refine w_lt ?_
          exact w_bd b1 rfl
      obtain ⟨h1, l1, l2, l3⟩ := H1
      have G1 : n_G p h0 i h1 := by
        obtain ⟨g1, g2, g3, g4, g5, g6⟩ := G
        have e17 : h1 17 = h 17 := l3 17 (by omega) (by omega) (by omega)
        have e18 : h1 18 = h 18 := l3 18 (by omega) (by omega) (by omega)
        exact ⟨by rw [e17]; exact g1, by rw [e17]; exact g2, by rw [e17]; exact g3, by rw [e18]; exact g4, fun j hj => by rw [e18]; exact g5 j hj, fun r r1 r2 r3 => by rw [l3 r (by omega) (by omega) (by omega)]; exact g6 r r1 r2 r3⟩
      have e17 : h1 17 = h 17 := l3 17 (by omega) (by omega) (by omega)
      have Cl0 : f_re_condition_L23 A0 tf (f_re_condition_L4 A0 tf (f2 + 1)) (f1 + 1) 17 (nI d) (nI c1) (nI c2) h = f_re_condition_L81 A0 tf (f_re_condition_L4 A0 tf (f2 + 1)) 17 (nI d) (nI c1) h1 := by
        obtain ⟨Rr, hR⟩ : ∃ Rr, Rr = f_re_condition_L81 A0 tf (f_re_condition_L4 A0 tf (f2 + 1)) 17 (nI d) (nI c1) h1 := ⟨_, rfl⟩
        rw [← hR] at l1 ⊢
        show (if 900 ≤ nI c2 then _ else _) = _
        rw [if_neg (show ¬ (900 : Int32) ≤ nI c2 from nI_ge (b := 900) (by omega) (by omega))]
        refine w_b2 w18 ?_
        rw [if_pos rfl]
        exact l1
      have w19' := w19 h1 G1
      have Y1 : n_S b L T p h0 i e le τ W s h1 u := ⟨G1, Kt, nx, U⟩
      by_cases hor : τ = 1 ∧ W = n_kw 19
      · obtain ⟨ht, hW⟩ := hor
        rw [if_pos ⟨ht, hW⟩] at w19'
        obtain ⟨u1, p1, p2, p3⟩ := n_l5no (n := n + 1) (m := m) (q := q) RB Y1 r (fun z => by have := z.1; omega)
        obtain ⟨u2, x1, x2, x3⟩ := n_tailJ (n := n + 1) (q := q) (w := w) B RB p3 ht 8 (Or.inr ⟨rfl, hW⟩)
        obtain ⟨u3, q3, K3, y1, y2, y3, y4, y5, y6⟩ := n_set11 (g := g) (k := 19997) a o hb ((p2.trans x2).R r) (l2.at7 hp (nI (i + 1)))
        obtain ⟨u4, w4, v1, v2, v3, v4⟩ := n_pushB (g := g) (q := q3) (o := 8) y2 (Or.inr rfl) (by omega)
        have hP : n_P5 (n + 1) (m + 1) (n_rr g u q w) = n_A n sm_N (n_rr g u4 q3 w4) := by
          rw [p1, x1]
          refine w_bd (show f_mo_settle_L0 sm_N 114 (nI (n_sg 8)) (n_rr g u2 q w) = _ from y1) ?_
          refine w_bd v1 ?_
          exact n_L10 n _
        have wl : W.length = 2 := by rw [hW]; decide
        have Y4 : n_SS b L T p h0 (i + 1) (s + W.length) true (sm_up h1 18 7 (nI (i + 1))) u4 := (n_uc.U3 (x3) y4).uf ⟨v4 10 (by decide), v4 11 (by decide), v4 12 (by decide)⟩
        have hdep : n_dep (8 :: S0) = d := by
          rw [← h0d]
          show 0 + n_dep S0 = _
          omega
        have hbin : n_bin S0 + 1 = n_bin (8 :: S0) := by
          show _ = 1 + n_bin S0
          omega
        have hnop : n_nop (8 :: S0) = n_nop S0 + 1 := by
          show 1 + n_nop S0 = _
          omega
        have C4 : n_CS Z D F R N Kc A p K3 [] (n_bin (8 :: S0)) (sm_up h1 18 7 (nI (i + 1))) q3 := by rw [← hbin]; exact y5
        obtain ⟨h5, t1, t2⟩ := hT (i + 1) (s + W.length) true _ u4 q3 w4 (8 :: S0) K3 n sm_N hdep Y4 v2 (by rw [List.length_cons]; omega) C4 (by omega) (by omega) (by unfold sm_N; omega)
        have Cl : f_re_condition_L23 A0 tf (f_re_condition_L4 A0 tf (f2 + 1)) (f1 + 1) 17 (nI d) (nI c1) (nI c2) h = f_re_condition_L23 A0 tf (f_re_condition_L4 A0 tf f2) sm_N 17 (nI d) (nI (c1 + 1)) (nI 0) h5 := by
          rw [Cl0]
          obtain ⟨Rr, hR⟩ : ∃ Rr, Rr = f_re_condition_L23 A0 tf (f_re_condition_L4 A0 tf f2) sm_N 17 (nI d) (nI (c1 + 1)) (nI 0) h5 := ⟨_, rfl⟩
          rw [← hR]
          unfold f_re_condition_L81
          refine w_b2 w19' ?_
          refine w_lt ?_
          show (if 900 ≤ nI c1 + 1 then _ else _) = _
          rw [nI_1, if_neg (show ¬ (900 : Int32) ≤ nI (c1 + 1) from nI_ge (b := 900) (by omega) (by omega)), if_neg (show ¬ (1 : Int32) = 0 by decide)]
          refine w_bd t1 ?_
          rw [hR]
          rfl
        have ucA : n_uc u u4 := (((p2.trans x2).uc.trans y3).trans v3)
        rcases t2 with ⟨u', q', w', i', e', le', K', n', k', m', a1, a2, a3, a4, a5, a6, a7, a8, a9, aa, ab⟩ | ⟨u', q', w', a1, a2⟩
        · rw [Cl]
          have hP2 : n_C n' k' m' (n_rr g u' q' w') = n_P5 n' m' (n_rr g u' q' w') := n_C_P5 a5 (by omega) (Or.inr ⟨8, _, rfl, by decide⟩)
          obtain ⟨h', c1', c2'⟩ := ih i' e' le' h5 u' q' w' K' n' m' false true (c1 + 1) 0 sm_N f2 (by omega) a4 a5 a6 a7 (by omega) (by omega) (by rw [decide_eq_true (by omega)]) (by omega) (by omega) (by unfold sm_N; omega) (by omega)
          refine ⟨h', c1', ?_⟩
          rcases c2' with ⟨u9, q9, w9, i9, e9, le9, K9, n9, m9, a9', o9, τ9, W9, s9, d1, d2, d3, d4, d5, d6, d7, d8, d9, da, db, dc⟩ | ⟨u9, q9, w9, d1, d2⟩
          · exact Or.inl ⟨u9, q9, w9, i9, e9, le9, K9, n9, m9, a9', o9, τ9, W9, s9, by rw [hP, a1, hP2]; exact d1, (ucA.trans a2).trans d2, by omega, d4, d5, d6, d7, d8, d9, da, db, by rw [dc, ab, sm_up_ne _ _ _ _ _ (by decide), e17]⟩
          · exact Or.inr ⟨u9, q9, w9, by rw [hP, a1, hP2]; exact d1, (ucA.trans a2).bad d2⟩
        · obtain ⟨c, s', x5, x6⟩ := a2
          obtain ⟨f2, rfl⟩ : ∃ j, f2 = j + 1 := ⟨f2 - 1, by omega⟩
          obtain ⟨h7, b3, b4⟩ := n_L23E hp x5 A0 tf f2 19999 (nI d) (nI (c1 + 1)) (nI 0)
          exact ⟨h7, Cl.trans b3, Or.inr ⟨u', q', w', by rw [hP]; exact a1, c, s', b4, ucA.ub x6⟩⟩
      · rw [if_neg hor] at w19'
        refine ⟨h1, ?_, Or.inl ⟨u, q, w, i, e, le, K, n + 1, m + 1, a, o, τ, W, s, rfl, n_uc.refl u, Nat.le_refl _, Y1, hand, hor, r, l2, bud, zm, zn, e17⟩⟩
        rw [Cl0]
        unfold f_re_condition_L81
        refine w_b2 w19' ?_
        refine w_lt ?_
        exact n_L4stop A0 tf f2 (nI d) _ h1
end n_loop
