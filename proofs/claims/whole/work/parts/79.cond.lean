-- LOAD: A CONDITION, out of its tests
section n_cond
variable {b : Nat → Nat} {L T p : Nat} {h0 g : sm_H} {Z D F R N Kc A : Nat} {tf : Nat → Int32 → sm_H → Option sm_H} {d : Nat} {S0 : List Nat}
theorem n_condT (B : n_B0 b L T p h0) (RB : n_RB b L g) (hT : n_TT b L T p h0 g Z D F R N Kc A tf d) (hd : d ≤ 6) (hb : n_base S0) (h0d : n_dep S0 = d) (hl : S0.length ≤ 3 * d) (A0 : Nat → Int32 → sm_H → Option sm_H) {i e : Nat} {le : Bool} {h : sm_H} {u q w : Nat → Int32} {K n m : Nat} (Y : n_SS b L T p h0 i e le h u) (r : n_R S0 u w) (C : n_CS Z D F R N Kc A p K [] (n_bin S0) h q) (bud : 3 * (K + n_nop S0) ≤ e) (zn : T < i + n) (zm : T < i + m) :
    ∃ h', f_re_condition A0 tf 17 (nI d) h = some h' ∧ ((∃ u' q' w' i' e' le' K' n' m' a' o' τ W s, n_A n m (n_rr g u q w) = n_P5 n' m' (n_rr g u' q' w') ∧ n_uc u u' ∧ i < i' ∧ n_S b L T p h0 i' e' le' τ W s h' u' ∧ ¬ (τ = 1 ∧ W = n_kw 18) ∧ ¬ (τ = 1 ∧ W = n_kw 19) ∧ n_R (n_X a' o' ++ S0) u' w' ∧ n_CS Z D F R N Kc A p K' (n_X a' o') (n_bin (n_X a' o' ++ S0) + 1) h' q' ∧ 3 * (K' + n_nop (n_X a' o' ++ S0)) + 3 ≤ e' ∧ T < i' + m' ∧ T < i' + n' ∧ h' 17 = h 17) ∨ ∃ u' q' w', n_A n m (n_rr g u q w) = some (0, n_rr g u' q' w') ∧ n_bad p h0 h' u u') := by
  have hp := B.2.2.2.2
  have hTL := B.2.1
  obtain ⟨h5, t1, t2⟩ := hT i e le h u q w S0 K n m h0d Y r (by omega) C bud zn zm
  have Cl : f_re_condition A0 tf 17 (nI d) h = f_re_condition_L23 A0 tf (f_re_condition_L4 A0 tf 19999) sm_N 17 (nI d) (nI 0) (nI 0) h5 := by
    obtain ⟨Rr, hR⟩ : ∃ Rr, Rr = f_re_condition_L23 A0 tf (f_re_condition_L4 A0 tf 19999) sm_N 17 (nI d) (nI 0) (nI 0) h5 := ⟨_, rfl⟩
    rw [← hR]
    unfold f_re_condition
    show (if (900 : Int32) ≤ 0 then _ else _) = _
    rw [if_neg (show ¬ (900 : Int32) ≤ 0 by decide), if_neg (show ¬ (1 : Int32) = 0 by decide)]
    refine w_bd t1 ?_
    rw [hR]
    rfl
  rw [Cl]
  rcases t2 with ⟨u', q', w', i', e', le', K', n', k', m', a1, a2, a3, a4, a5, a6, a7, a8, a9, aa, ab⟩ | ⟨u', q', w', a1, c, s', x5, x6⟩
  · have hP2 : n_C n' k' m' (n_rr g u' q' w') = n_P5 n' m' (n_rr g u' q' w') := n_C_P5 a5 (by omega) (n_base_stop hb (by decide))
    obtain ⟨h', c1', c2'⟩ := n_loop B RB hT hd hb h0d hl A0 (T - i' + 1) i' e' le' h5 u' q' w' K' n' m' false false 0 0 sm_N 19999 (by omega) a4 a5 a6 a7 (by omega) (by omega) rfl (by omega) (by omega) (by unfold sm_N; omega) (by omega)
    refine ⟨h', c1', ?_⟩
    rcases c2' with ⟨u9, q9, w9, i9, e9, le9, K9, n9, m9, a9', o9, τ9, W9, s9, d1, d2, d3, d4, d5, d6, d7, d8, d9, da, db, dc⟩ | ⟨u9, q9, w9, d1, d2⟩
    · exact Or.inl ⟨u9, q9, w9, i9, e9, le9, K9, n9, m9, a9', o9, τ9, W9, s9, by rw [a1, hP2]; exact d1, a2.trans d2, by omega, d4, d5, d6, d7, d8, d9, da, db, by rw [dc, ab]⟩
    · exact Or.inr ⟨u9, q9, w9, by rw [a1, hP2]; exact d1, a2.bad d2⟩
  · obtain ⟨h7, b3, b4⟩ := n_L23E hp x5 A0 tf 19998 19999 (nI d) (nI 0) (nI 0)
    exact ⟨h7, b3, Or.inr ⟨u', q', w', a1, c, s', b4, x6⟩⟩
end n_cond
