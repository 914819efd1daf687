-- LOAD: A RULE'S CONDITION, with its do
section n_rule
variable {b : Nat → Nat} {L T p : Nat} {h0 g : sm_H} {Z D F R N Kc A : Nat}
theorem n_ruleCond (B : n_B0 b L T p h0) (RB : n_RB b L g) {i e : Nat} {le : Bool} {h : sm_H} {u q w : Nat → Int32} {K : Nat} (Y : n_SS b L T p h0 i e le h u) (C : n_CS Z D F R N Kc A p K [] 0 h q) (bud : 3 * K ≤ e) :
    ∃ h1, sm_condition 20 17 0 h = some h1 ∧ ((∃ h' u' q' w' i' e' K', f_re_takeWord 17 20 h1 = some (1, h') ∧ f_mo_readCondition 114 (n_rr g u q w) = some (1, n_rr g u' q' w') ∧ n_uc u u' ∧ i < i' ∧ n_SS b L T p h0 i' e' true h' u' ∧ n_CS Z D F R N Kc A p K' [] 1 h' q' ∧ 3 * K' ≤ e' ∧ h' 17 = h 17) ∨ ∃ h' u' q' w', f_re_takeWord 17 20 h1 = some (0, h1) ∧ f_re_fail 17 1 h1 = some h' ∧ f_mo_readCondition 114 (n_rr g u q w) = some (0, n_rr g u' q' w') ∧ n_bad p h0 h' u u') := by
  have hTL := B.2.1
  have hk : n_uc u (upd (upd u 19 0) 20 0) := fun j _ _ _ _ _ _ a7 a8 => by rw [p_ud_off a8, p_ud_off a7]
  have R0 : n_R [] (upd (upd u 19 0) 20 0) w := ⟨by rw [p_ud_off (by decide), p_ud_at]; rfl, by rw [p_ud_at]; rfl, trivial, Nat.zero_le _, fun o ho => by cases ho⟩
  have Y0 : n_SS b L T p h0 i e le h (upd (upd u 19 0) 20 0) := Y.uf ⟨by rw [p_ud_off (by decide), p_ud_off (by decide)], by rw [p_ud_off (by decide), p_ud_off (by decide)], by rw [p_ud_off (by decide), p_ud_off (by decide)]⟩
  have hA : f_mo_readCondition 114 (n_rr g u q w) = n_A 19999 sm_N (n_rr g (upd (upd u 19 0) 20 0) q w) := by
    unfold f_mo_readCondition
    refine w_lt ?_
    refine w_lt ?_
    rw [n_u114, n_u114]
    exact n_L10 19999 _
  obtain ⟨h1, a1, a2⟩ := n_condT B RB (n_testT (Z := Z) (D := D) (F := F) (R := R) (N := N) (Kc := Kc) (A := A) B RB 20 0 (by decide) (by decide)) (by decide) (S0 := []) (Or.inl rfl) rfl (Nat.zero_le _) (fun _ _ _ => none) Y0 R0 C (by show 3 * (K + 0) ≤ e; omega) (n := 19999) (m := sm_N) (by omega) (by unfold sm_N; omega)
  refine ⟨h1, a1, ?_⟩
  rw [hA]
  rcases a2 with ⟨u', q', w', i', e', le', K', n', m', a', o', τ, W, s, b1, b2, b3, b4, b5, b6, b7, b8, b9, ba, bb, bc⟩ | ⟨u', q', w', b1, c, s', x5, x6⟩
  · obtain ⟨G, Kt, nx, U⟩ := id b4
    have hes : e' ≤ s := Kt.1
    have h9 : 9 ∉ n_X a' o' ++ [] := by cases a' <;> cases o' <;> decide
    obtain ⟨m', rfl⟩ : ∃ j, m' = j + 1 := ⟨m' - 1, by
      have : i' + 1 ≤ T := n_SS.lt ⟨τ, W, s, b4⟩
      omega⟩
    have w20 := n_takeWord B G Kt (a := 20) (by decide)
    obtain ⟨u2, x1, x2, x3⟩ := n_l5no (n := n') (m := m') (q := q') RB b4 b7 (fun z => h9 z.2.2)
    by_cases zd : τ = 1 ∧ W = n_kw 20
    · rw [if_pos zd] at w20
      obtain ⟨u3, y1, y2, y3⟩ := (n_tailE (n := n') (q := q') B RB x3 (x2.R b7) zd.1 (fun z => b5 ⟨zd.1, z⟩) (fun z => b6 ⟨zd.1, z⟩)).1 ⟨zd.2, h9⟩
      obtain ⟨u4, q4, K4, z1, z2, z3, z4, z5, z6⟩ := n_set11 (g := g) (k := 19997) a' o' (Or.inl rfl) ((x2.trans y2).R b7) (b8.at7 B.2.2.2.2 (nI (i' + 1)))
      refine Or.inl ⟨_, u4, q4, w', i' + 1, s + W.length, K4, w20, ?_, ((hk.trans b2).trans (x2.trans y2).uc).trans z3, by omega, n_uc.U3 y3 z4, z5, ?_, ?_⟩
      · rw [b1, x1, y1]
        exact w_bd (show f_mo_settle_L0 sm_N 114 (nI 1) (n_rr g u3 q' w') = _ from z1) rfl
      · have : K4 + 0 = K' + n_nop (n_X a' o' ++ []) := z6
        omega
      · rw [sm_up_ne _ _ _ _ _ (by decide), bc]
    · rw [if_neg zd] at w20
      obtain ⟨h6, f1, f2⟩ := n_fail B G Kt (n_SS.KA b8) (c := 1) (by decide) (by decide)
      have E : ∃ u3, n_tail n' (n_rr g u2 q' w') = some (0, n_rr g u3 q' w') ∧ n_ub 1 s u2 u3 := by
        by_cases ht' : τ = 1
        · exact (n_tailE (n := n') (q := q') B RB x3 (x2.R b7) ht' (fun z => b5 ⟨ht', z⟩) (fun z => b6 ⟨ht', z⟩)).2 (fun z => zd ⟨ht', z.1⟩)
        · exact n_tail0 (n := n') (q := q') (w := w') RB x3 ht'
      obtain ⟨u3, y1, y2⟩ := E
      exact Or.inr ⟨h6, u3, q', w', w20, f1, by rw [b1, x1]; exact y1, 1, s, f2, ((hk.trans b2).trans x2.uc).ub y2⟩
  · exact Or.inr ⟨h1, u', q', w', n_takeWordE x5 20, n_failE x5 1, b1, c, s', x5, hk.ub x6⟩
end n_rule
