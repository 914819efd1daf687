-- LOAD: ALL TESTS
section n_tests
variable {b : Nat → Nat} {L T p : Nat} {h0 g : sm_H} {Z D F R N Kc A : Nat}
theorem n_C_pop {n k m : Nat} {g1 g2 : sm_H} (h : f_mo_settle_L0 (k + 1) 114 (nI 3) g1 = f_mo_settle_L0 k 114 (nI 3) g2) : n_C n (k + 1) m g1 = n_C n k m g2 := by
  unfold n_C
  rw [h]
theorem n_testT (B : n_B0 b L T p h0) (RB : n_RB b L g) : ∀ f d, d ≤ 6 → 7 ≤ d + f → n_TT b L T p h0 g Z D F R N Kc A (sm_test f) d := by
  have hp := B.2.2.2.2
  obtain ⟨q1, q2⟩ := p_isPp hp
  have hTL := B.2.1
  have hL9 := B.1
  intro f
  induction f with
  | zero => intro d a1 a2; omega
  | succ f ih =>
    intro d hd hdf i e le h u q w S K n m hdep Y r lS C bud zn zm
    have hiT := Y.lt
    obtain ⟨m, rfl⟩ : ∃ j, m = j + 1 := ⟨m - 1, by omega⟩
    obtain ⟨τ, W, s, Y⟩ := Y
    obtain ⟨G, Kt, nx, U⟩ := id Y
    have hes : e ≤ s := Kt.1
    have hbn := n_dep_le S
    obtain ⟨A0, hA0⟩ : ∃ A0, A0 = f_re_condition (fun _ _ _ => none) (sm_test f) := ⟨_, rfl⟩
    have hTest : sm_test (f + 1) 17 (nI d) h = f_re_test A0 (sm_test f) 17 (nI d) h := by rw [hA0]; rfl
    rw [hTest]
    obtain ⟨t1, t2⟩ := n_testHere B G Kt
    have i11 := n_isWord B G Kt (a := 11) (by decide)
    have i40 := n_isSign B G Kt (a := 40) (by decide)
    have w11 := n_takeWord B G Kt (a := 11) (by decide)
    have w40 := n_takeSign B G Kt (a := 40) (by decide)
    have n1 : ¬ (1 : Int32) = 0 := by decide
    by_cases z11 : τ = 1 ∧ W = n_kw 11
    · -- not
      obtain ⟨ht, hW⟩ := z11
      have th := t2 (fun t ht' x => n_kw_ne (a := 11) (c := 12 + t) (by decide) (by omega) (by omega) (hW.symm.trans x.2))
      rw [decide_eq_true ⟨ht, hW⟩] at i11
      rw [if_pos ⟨ht, hW⟩] at w11
      obtain ⟨o1, o2⟩ := n_ro_not (m := m) (q := q) (w := w) B RB Y ht hW r (by omega)
      have Cl : f_re_test A0 (sm_test f) 17 (nI d) h = if nI d < 6 then f_re_test_L53 A0 (sm_test f) 17 (nI d) (-1) h else Option.bind (f_re_fail 17 3 h) fun g14 => some g14 := by
        unfold f_re_test
        refine w_b2 i11 ?_
        rw [if_neg (show ¬ sm_b2i true = 0 by decide)]
        unfold f_re_test_L24 f_re_test_L29
        refine w_b2 th ?_
        rw [if_neg n1]
      rw [Cl]
      by_cases hd6 : d = 6
      · obtain ⟨u', p1, p2⟩ := o1 (by omega)
        obtain ⟨h', f1, f2⟩ := n_fail B G Kt (n_SS.KA C) (c := 3) (by decide) (by decide)
        refine ⟨h', ?_, Or.inr ⟨u', q, w, n_A_bad p1, 3, s, f2, p2⟩⟩
        rw [if_neg (show ¬ nI d < 6 by rw [hd6]; decide)]
        exact w_bd f1 rfl
      · obtain ⟨u1, w1, p1, p2, p3, p4⟩ := o2 (by omega)
        rw [if_pos (show nI d < 6 from nI_lt (b := 6) (by omega) (by omega))]
        have hA : n_A n (m + 1) (n_rr g u q w) = n_A n m (n_rr g u1 q w1) := by
          unfold n_A
          rw [p1]
        have hnop : n_nop (6 :: S) = n_nop S + 1 := by
          show 1 + n_nop S = _
          omega
        have hbin : n_bin (6 :: S) = n_bin S := by
          show 0 + n_bin S = _
          omega
        have C1 : n_CS Z D F R N Kc A p K [] (n_bin (6 :: S)) (sm_up h 18 7 (nI (i + 1))) q := by rw [hbin]; exact C.at7 hp _
        obtain ⟨h5, a1, a2⟩ := ih (d + 1) (by omega) (by omega) (i + 1) (s + 3) true _ u1 q w1 (6 :: S) K n m (by rw [← hdep]; show 1 + n_dep S = _; omega) p4 p3 (by rw [List.length_cons]; omega) C1 (by omega) (by omega) (by omega)
        have Cl2 : ∀ h6, f_ru_addCode (p + 9) 6 0 h5 = some h6 → h5 17 1 = nI p → f_re_test_L53 A0 (sm_test f) 17 (nI d) (-1) h = some h6 := by
          intro h6 e6 e17
          unfold f_re_test_L53
          refine w_b2 w11 ?_
          rw [if_neg n1, nI_1]
          refine w_bd a1 ?_
          rw [e17, q1, s_true, q2]
          refine w_lt ?_
          exact w_bd e6 rfl
        rcases a2 with ⟨u', q', w', i', e', le', K', n', k', m', b1, b2, b3, b4, b5, b6, b7, b8, b9, ba, bb⟩ | ⟨u', q', w', b1, c, s', x5, x6⟩
        · have hk3 := b6.2.2.2.1.1
          obtain ⟨k', rfl⟩ : ∃ j, k' = j + 1 := ⟨k' - 1, by omega⟩
          have hb3 : K' < 300 := by
            obtain ⟨τ', W', s', -, Kt', -⟩ := b4
            have e1 : e' ≤ s' := Kt'.1
            have e2 : s' ≤ L := Kt'.2.1
            omega
          obtain ⟨h6, c1, c2, c3⟩ := b6.cls hp (show K' + 0 < 300 from hb3) 6
          rw [hbin] at c2
          have c2' : n_CS Z D F R N Kc A p K' (6 :: []) (n_bin S + 1) h6 q' := c2
          rw [List.length_cons] at ba
          obtain ⟨u2, q2', d1, d2, d3, d4, d5⟩ := c2'.pop (g := g) (k := k') (m := n_bin S + 1) b5 (l := 3) (by decide) (by decide) (by decide) (by omega) (Or.inl ⟨rfl, by omega, rfl⟩)
          refine ⟨h6, Cl2 h6 c1 (by rw [bb, sm_up_ne _ _ _ _ _ (by decide)]; exact G.1), Or.inl ⟨u2, q2', w', i', e', le', K' + 1, n', k', m', ?_, (p2.trans b2).trans d3, by omega, (n_uc.U3 b4 d4).of hp c3, d2, d5, by omega, b8, b9, by omega, ?_⟩⟩
          · rw [hA, b1]
            exact n_C_pop d1
          · rw [c3 17 (by omega) (by omega) (by omega), bb, sm_up_ne _ _ _ _ _ (by decide)]
        · obtain ⟨h6, c1, c2⟩ := n_addCodeE hp x5 6 0
          exact ⟨h6, Cl2 h6 c1 x5.2.1, Or.inr ⟨u', q', w', by rw [hA]; exact b1, c, s', c2, p2.ub x6⟩⟩
    · rw [decide_eq_false z11] at i11
      rw [if_neg z11] at w11
      by_cases z40 : τ = 3 ∧ W = [40]
      · -- an opened condition
        obtain ⟨ht, hW⟩ := z40
        have th := t2 (fun t ht' x => by have := x.1; omega)
        rw [decide_eq_true ⟨ht, hW⟩] at i40
        rw [if_pos ⟨ht, hW⟩] at w40
        obtain ⟨o1, o2⟩ := n_ro_par (m := m) (q := q) (w := w) B RB Y ht hW r (by omega)
        have Cl : f_re_test A0 (sm_test f) 17 (nI d) h = if nI d < 6 then f_re_test_L53 A0 (sm_test f) 17 (nI d) (-1) h else Option.bind (f_re_fail 17 3 h) fun g14 => some g14 := by
          unfold f_re_test
          refine w_b2 i11 ?_
          rw [if_pos (show sm_b2i false = 0 by decide)]
          refine w_b2 i40 ?_
          rw [if_neg (show ¬ sm_b2i true = 0 by decide)]
          unfold f_re_test_L24 f_re_test_L29
          refine w_b2 th ?_
          rw [if_neg n1]
        rw [Cl]
        by_cases hd6 : d = 6
        · obtain ⟨u', p1, p2⟩ := o1 (by omega)
          obtain ⟨h', f1, f2⟩ := n_fail B G Kt (n_SS.KA C) (c := 3) (by decide) (by decide)
          refine ⟨h', ?_, Or.inr ⟨u', q, w, n_A_bad p1, 3, s, f2, p2⟩⟩
          rw [if_neg (show ¬ nI d < 6 by rw [hd6]; decide)]
          exact w_bd f1 rfl
        · obtain ⟨u1, w1, p1, p2, p3, p4⟩ := o2 (by omega)
          rw [if_pos (show nI d < 6 from nI_lt (b := 6) (by omega) (by omega))]
          have hA : n_A n (m + 1) (n_rr g u q w) = n_A n m (n_rr g u1 q w1) := by
            unfold n_A
            rw [p1]
          have hnop : n_nop (9 :: S) = n_nop S := by
            show 0 + n_nop S = _
            omega
          have hbin : n_bin (9 :: S) = n_bin S := by
            show 0 + n_bin S = _
            omega
          have hdp : n_dep (9 :: S) = d + 1 := by
            rw [← hdep]
            show 1 + n_dep S = _
            omega
          have C1 : n_CS Z D F R N Kc A p K [] (n_bin (9 :: S)) (sm_up h 18 7 (nI (i + 1))) q := by rw [hbin]; exact C.at7 hp _
          obtain ⟨h5, a1, a2⟩ := n_condT B RB (ih (d + 1) (by omega) (by omega)) (by omega) (S0 := 9 :: S) (Or.inr ⟨S, rfl⟩) hdp (by rw [List.length_cons]; omega) (fun _ _ _ => none) p4 p3 C1 (by omega) (n := n) (m := m) (by omega) (by omega)
          have Cl2 : ∀ h6, f_re_needSign 17 (nI 41) h5 = some h6 → f_re_test_L53 A0 (sm_test f) 17 (nI d) (-1) h = some h6 := by
            intro h6 e6
            unfold f_re_test_L53
            refine w_b2 w11 ?_
            rw [if_pos rfl]
            refine w_b2 w40 ?_
            rw [if_neg n1, nI_1]
            refine w_bd (v := h5) (by rw [hA0]; exact a1) ?_
            exact w_bd e6 rfl
          rcases a2 with ⟨u', q', w', i', e', le', K', n', m', a', o', τ', W', s', b1, b2, b3, b4, b5, b6, b7, b8, b9, ba, bb, bc⟩ | ⟨u', q', w', b1, c, s', x5, x6⟩
          · obtain ⟨G', Kt', nx', U'⟩ := id b4
            have hes' : e' ≤ s' := Kt'.1
            have h9 : 9 ∈ n_X a' o' ++ 9 :: S := List.mem_append_right _ List.mem_cons_self
            obtain ⟨m', rfl⟩ : ∃ j, m' = j + 1 := ⟨m' - 1, by
              have : i' + 1 ≤ T := n_SS.lt ⟨τ', W', s', b4⟩
              omega⟩
            obtain ⟨v1, v2⟩ := n_needSign B G' Kt' (n_SS.KA b8) (a := 41) (by decide)
            by_cases zc : τ' = 3 ∧ W' = [41]
            · obtain ⟨hτ', hW'⟩ := id zc
              have hT' := (Kt'.2.2.2.2.2.2.2.1 (by rw [hτ']; decide)).2
              obtain ⟨u2, x1, x2, x3, x4⟩ := n_l5yes (n := n') (m := m') (q := q') B RB b4 b7 hτ' hW' h9
              obtain ⟨u3, q3, K3, y1, y2, y3, y4, y5, y6⟩ := n_set11 (g := g) (k := 19997) a' o' (Or.inr ⟨S, rfl⟩) (x2.R b7) b8
              rw [hbin] at y5
              rw [hnop] at y6
              have h13 : u3 13 = nI s' := (y4 13 (by decide) (by decide)).trans x4
              have h11 : u3 11 = nI L := (y4 11 (by decide) (by decide)).trans x3.2.2.2.1
              obtain ⟨u4, hu4⟩ : ∃ u4, u4 = upd (upd u3 19 (nI S.length)) 20 (nI (n_dep S)) := ⟨_, rfl⟩
              have h4 : ∀ j, j ≠ 19 → j ≠ 20 → u4 j = u3 j := fun j j1 j2 => by rw [hu4, p_ud_off j2, p_ud_off j1]
              have R4 : n_R S u4 w' := by
                obtain ⟨r1, r2, r3, r4, r5⟩ := y2
                rw [List.length_cons] at r4
                exact ⟨by rw [hu4, p_ud_off (by decide), p_ud_at], by rw [hu4, p_ud_at], r3.2, by omega, fun x hx => r5 x (List.mem_cons_of_mem _ hx)⟩
              have k5 : n_uf u4 (upd (upd u4 10 (nI (s' + 1))) 12 (-1)) := n_ufu (n_ufu (n_uf.refl u4) _ (Or.inl rfl)) _ (Or.inr (Or.inl rfl))
              have hl1 : W'.length = 1 := by rw [hW']; rfl
              have Y5 := n_next b4 (by rw [hτ']; decide) (by rw [hτ']; decide) (n_adv B G' hT').2 (u' := upd (upd u4 10 (nI (s' + 1))) 12 (-1)) (by rw [hl1, p_ud_off (by decide), p_ud_at]) (by rw [hτ']; exact p_ud_at) (by rw [p_ud_off (by decide), p_ud_off (by decide), h4 11 (by decide) (by decide)]; exact h11)
              refine ⟨_, Cl2 _ (v1 zc), Or.inl ⟨upd (upd u4 10 (nI (s' + 1))) 12 (-1), q3, w', i' + 1, s' + W'.length, decide (τ' ≤ 2), K3, n', sm_N, m', ?_, ?_, by omega, Y5, k5.R R4, y5.at7 hp _, by omega, by omega, by omega, by unfold sm_N; omega, ?_⟩⟩
              · rw [hA, b1, x1]
                refine w_bd (show f_mo_settle_L0 sm_N 114 (nI 1) (n_rr g u2 q' w') = _ from y1) ?_
                refine w_lt ?_
                refine w_lt ?_
                have e1 : sm_up (n_rr g u3 q3 w') 114 19 (n_rr g u3 q3 w' 114 19 - 1) = n_rr g (upd u3 19 (nI S.length)) q3 w' := by
                  rw [n_r114, y2.1, List.length_cons, nI_pred, n_u114]
                rw [e1]
                have e2 : sm_up (n_rr g (upd u3 19 (nI S.length)) q3 w') 114 20 (n_rr g (upd u3 19 (nI S.length)) q3 w' 114 20 - 1) = n_rr g u4 q3 w' := by
                  rw [n_r114, p_ud_off (show ¬ 20 = 19 by decide), y2.2.1, hdp, ← hdep, nI_pred, n_u114, hu4]
                rw [e2]
                exact w_bd (n_passSign (by rw [h4 13 (by decide) (by decide)]; exact h13)) rfl
              · refine (((p2.trans b2).trans x2.uc).trans y3).trans (n_uc.trans ?_ k5.uc)
                exact fun j _ _ _ _ _ _ a7 a8 => h4 j a7 a8
              · rw [sm_up_ne _ _ _ _ _ (by decide), bc, sm_up_ne _ _ _ _ _ (by decide)]
            · obtain ⟨h6, f1, f2⟩ := v2 zc
              obtain ⟨u2, x1, x2, x3⟩ := n_l5no (n := n') (m := m') (q := q') RB b4 b7 (fun z => zc ⟨z.1, z.2.1⟩)
              have E : ∃ u3, n_tail n' (n_rr g u2 q' w') = some (0, n_rr g u3 q' w') ∧ n_ub 1 s' u2 u3 := by
                by_cases ht' : τ' = 1
                · exact (n_tailE (n := n') (q := q') B RB x3 (x2.R b7) ht' (fun z => b5 ⟨ht', z⟩) (fun z => b6 ⟨ht', z⟩)).2 (fun z => z.2 h9)
                · exact n_tail0 (n := n') (q := q') (w := w') RB x3 ht'
              obtain ⟨u3, y1, y2⟩ := E
              exact ⟨h6, Cl2 h6 f1, Or.inr ⟨u3, q', w', by rw [hA, b1, x1]; exact y1, 1, s', f2, ((p2.trans b2).trans x2.uc).ub y2⟩⟩
          · exact ⟨h5, Cl2 h5 (n_needSignE x5 41), Or.inr ⟨u', q', w', by rw [hA]; exact b1, c, s', x5, p2.ub x6⟩⟩
      · -- plain
        rw [decide_eq_false z40] at i40
        obtain ⟨r9, p1, h', p2, p3⟩ := n_plainT (g := g) (m := m) (n' := n) (w := w) B RB Y C (by omega) (by omega) z11 z40 A0 (sm_test f) (nI d)
        refine ⟨h', ?_, ?_⟩
        · unfold f_re_test
          refine w_b2 i11 ?_
          rw [if_pos (show sm_b2i false = 0 by decide)]
          refine w_b2 i40 ?_
          rw [if_pos (show sm_b2i false = 0 by decide)]
          unfold f_re_test_L29
          refine w_b2 p1 ?_
          rw [if_pos rfl]
          exact p2
        · rcases p3 with ⟨u', q', i', e', le', b1, b2, b3, b4, b5, b6, b7⟩ | ⟨u', q', b1, b2⟩
          · exact Or.inl ⟨u', q', w, i', e', le', K + 1, n, sm_N, sm_N, b1, b2.uc, b4, b5, b2.R r, b6, by omega, by unfold sm_N; omega, by omega, by unfold sm_N; omega, b7⟩
          · exact Or.inr ⟨u', q', w, b1, b2⟩
end n_tests
