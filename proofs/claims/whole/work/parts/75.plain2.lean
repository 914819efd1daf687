-- LOAD: A PLAIN TEST, both sides
section n_plain2
variable {b : Nat → Nat} {L T p i e s τ m n n' : Nat} {g h0 h : sm_H} {u q w : Nat → Int32} {le : Bool} {W S : List Nat} {Z D F R N Kc A K : Nat}
theorem n_plainT (B : n_B0 b L T p h0) (RB : n_RB b L g) (Y : n_S b L T p h0 i e le τ W s h u) (C : n_CS Z D F R N Kc A p K [] n h q) (hK : 3 * K ≤ e) (hn : n ≤ 40) (z11 : ¬ (τ = 1 ∧ W = n_kw 11)) (z40 : ¬ (τ = 3 ∧ W = [40])) (A0 : Nat → Int32 → sm_H → Option sm_H) (T0 : Nat → Int32 → sm_H → Option sm_H) (d : Int32) : ∃ r9, f_re_testHere 17 h = some (r9, h) ∧ ∃ h', f_re_test_L53 A0 T0 17 d r9 h = some h' ∧ ((∃ u' q' i' e' le', n_A n' (m + 1) (n_rr g u q w) = n_C n' sm_N sm_N (n_rr g u' q' w) ∧ n_uf u u' ∧ e + 6 ≤ e' ∧ i < i' ∧ n_SS b L T p h0 i' e' le' h' u' ∧ n_CS Z D F R N Kc A p (K + 1) [] (n + 1) h' q' ∧ h' 17 = h 17) ∨ ∃ u' q', n_A n' (m + 1) (n_rr g u q w) = some (0, n_rr g u' q' w) ∧ n_bad p h0 h' u u') := by
  have hp := B.2.2.2.2
  obtain ⟨q1, q2⟩ := p_isPp hp
  obtain ⟨G, Kt, nx, U⟩ := id Y
  have hes : e ≤ s := Kt.1
  have hL := B.1
  obtain ⟨t1, t2⟩ := n_testHere B G Kt
  have w11 := n_takeWord B G Kt (a := 11) (by decide)
  have w40 := n_takeSign B G Kt (a := 40) (by decide)
  rw [if_neg z11] at w11
  rw [if_neg z40] at w40
  have hc := C.1.2.1
  obtain ⟨c1, c2, c3, c4, c5⟩ := C.1.1
  by_cases hW : τ = 1 ∧ ∃ t, t < 6 ∧ W = n_kw (12 + t)
  · obtain ⟨ht, t, h6, hW⟩ := hW
    have hT := (Kt.2.2.2.2.2.2.2.1 (by rw [ht]; decide)).2
    have hsL := (Kt.2.2.2.2.2.2.2.1 (by rw [ht]; decide)).1
    obtain ⟨a1, a2⟩ := n_adv B G hT
    obtain ⟨u1, p1, p2, p3, p4, p5, p6⟩ := n_ro_word (m := m) (q := q) (w := w) RB Y ht (fun z => z11 ⟨ht, z⟩)
    obtain ⟨k1, k2, k3⟩ := n_rt (g := g) (q := q) (w := w) p6
    refine ⟨nI t, t1 t h6 ⟨ht, hW⟩, ?_⟩
    rw [n_A_T9 p1]
    have wl : 4 ≤ W.length := by
      rw [hW]
      have c : t = 0 ∨ t = 1 ∨ t = 2 ∨ t = 3 ∨ t = 4 ∨ t = 5 := by omega
      rcases c with rfl | rfl | rfl | rfl | rfl | rfl <;> decide
    have P : ∀ hi, f_re_lastFor 17 (nI t) (sm_up h 18 7 (nI (i + 1))) = some (hi, sm_up h 18 7 (nI (i + 1))) → ¬ nI t = 5 → f_re_test_L53 A0 T0 17 d (nI t) h = sm_b2 (f_re_needNumber 17 0 hi (sm_up h 18 7 (nI (i + 1)))) (fun r36 g37 => f_re_test_L156 A0 T0 r36 (nI t) (p + 9) g37) := by
      intro hi hf h5
      unfold f_re_test_L53
      refine w_b2 w11 ?_
      rw [if_pos rfl]
      refine w_b2 w40 ?_
      rw [if_pos rfl, if_pos (show (0 : Int32) ≤ nI t from nI_le (a := 0) (Nat.zero_le _) (by omega))]
      refine w_bd a1 ?_
      rw [a2.1, q1, s_true, q2]
      refine w_lt ?_
      rw [if_neg h5]
      exact w_b2 hf rfl
    have Num : ∀ hi, f_re_lastFor 17 (nI t) (sm_up h 18 7 (nI (i + 1))) = some (hi, sm_up h 18 7 (nI (i + 1))) → ((t = 0 ∧ hi = q 0 - 1) ∨ (t = 1 ∧ hi = q 0 - 1) ∨ (t = 2 ∧ hi = q 3 - 1) ∨ (t = 3 ∧ hi = 999) ∨ (t = 4 ∧ hi = q 2 - 1)) → (∀ v, v < 1000 → nI v ≤ hi → p_okc Z R F (nI t) (nI v)) → ¬ nI t = 5 → ∃ h', f_re_test_L53 A0 T0 17 d (nI t) h = some h' ∧ ((∃ u' q' i' e' le', n_T9 n' (n_rr g u1 q w) = n_C n' sm_N sm_N (n_rr g u' q' w) ∧ n_uf u u' ∧ e + 6 ≤ e' ∧ i < i' ∧ n_SS b L T p h0 i' e' le' h' u' ∧ n_CS Z D F R N Kc A p (K + 1) [] (n + 1) h' q' ∧ h' 17 = h 17) ∨ ∃ u' q', n_T9 n' (n_rr g u1 q w) = some (0, n_rr g u' q' w) ∧ n_bad p h0 h' u u') := by
      intro hi hf hq ok h5
      obtain ⟨h', e1, e2⟩ := n_tnum (g := g) (w := w) B RB p3 ht p4 C hK hn (nI t) hi ok A0 T0
      refine ⟨h', (P hi hf h5).trans e1, ?_⟩
      rcases e2 with ⟨u', q', e', e2, e3, e4, e5, e6, e7⟩ | ⟨u', q', e2, c', s', e3, e4⟩
      · exact Or.inl ⟨u', q', i + 2, e', true, n_T9_good (k1 t hi hq hW 1 _ (Or.inr rfl) e2), p2.trans e3, by omega, by omega, e5, e6, e7⟩
      · exact Or.inr ⟨u', q', n_T9_bad (k1 t hi hq hW 0 _ (Or.inl rfl) e2), c', s', e3, p2.ub e4⟩
    have hrow : sm_up h 18 7 (nI (i + 1)) p = h p := sm_up_ne _ _ _ _ _ (by omega)
    have c : t = 0 ∨ t = 1 ∨ t = 2 ∨ t = 3 ∨ t = 4 ∨ t = 5 := by omega
    rcases c with rfl | rfl | rfl | rfl | rfl | rfl
    · refine Num (nI Z - 1) ?_ (Or.inl ⟨rfl, by rw [hc.2.1]⟩) (fun v v1 v2 => Or.inl ⟨v, n_le_pred (by omega) (by omega) v2, rfl, Or.inl rfl⟩) (by decide)
      unfold f_re_lastFor
      rw [if_neg (show ¬ nI 0 = 2 by decide), if_neg (show ¬ nI 0 = 3 by decide), if_neg (show ¬ nI 0 = 4 by decide), a2.1, q1, s_true, q2]
      refine w_lt ?_
      rw [hrow, hc.1]
    · refine Num (nI Z - 1) ?_ (Or.inr (Or.inl ⟨rfl, by rw [hc.2.1]⟩)) (fun v v1 v2 => Or.inl ⟨v, n_le_pred (by omega) (by omega) v2, rfl, Or.inr rfl⟩) (by decide)
      unfold f_re_lastFor
      rw [if_neg (show ¬ nI 1 = 2 by decide), if_neg (show ¬ nI 1 = 3 by decide), if_neg (show ¬ nI 1 = 4 by decide), a2.1, q1, s_true, q2]
      refine w_lt ?_
      rw [hrow, hc.1]
    · refine Num (nI R - 1) ?_ (Or.inr (Or.inr (Or.inl ⟨rfl, by rw [hc.2.2.2.2.2.2.2.1]⟩))) (fun v v1 v2 => Or.inr (Or.inl ⟨v, n_le_pred (by omega) (by omega) v2, rfl, rfl⟩)) (by decide)
      unfold f_re_lastFor
      rw [if_pos (show nI 2 = 2 from rfl), a2.1, q1, s_true, q2]
      refine w_lt ?_
      rw [hrow, hc.2.2.2.2.2.2.1]
    · refine Num 999 ?_ (Or.inr (Or.inr (Or.inr (Or.inl ⟨rfl, rfl⟩)))) (fun v v1 v2 => Or.inr (Or.inr (Or.inl rfl))) (by decide)
      unfold f_re_lastFor
      rw [if_neg (show ¬ nI 3 = 2 by decide), if_pos (show nI 3 = 3 from rfl)]
    · refine Num (nI F - 1) ?_ (Or.inr (Or.inr (Or.inr (Or.inr ⟨rfl, by rw [hc.2.2.2.2.2.1]⟩)))) (fun v v1 v2 => Or.inr (Or.inr (Or.inr (Or.inl ⟨v, n_le_pred (by omega) (by omega) v2, rfl, rfl⟩)))) (by decide)
      unfold f_re_lastFor
      rw [if_neg (show ¬ nI 4 = 2 by decide), if_neg (show ¬ nI 4 = 3 by decide), if_pos (show nI 4 = 4 from rfl), a2.1, q1, s_true, q2]
      refine w_lt ?_
      rw [hrow, hc.2.2.2.2.1]
    · obtain ⟨u2, x1, x2, x3, x4, x5⟩ := n_psw (g := g) (q := q) (w := w) B RB p3 ht p4
      obtain ⟨h', e1, e2, e3⟩ := (C.at7 hp (nI (i + 1))).both hp (by omega) hn (o := 5) (v := 0) (m := n + 1) (Or.inl ⟨Or.inr (Or.inr (Or.inr (Or.inr rfl))), rfl⟩)
      have wl7 : W.length = 7 := by rw [hW]; decide
      refine ⟨h', ?_, Or.inl ⟨u2, _, i + 1, s + W.length, true, n_T9_good ((k2 hW).trans (w_bd x1 (w_bd (n_radd C.2.2.2.1.2.2.1 (by omega) 5 0) rfl))), p2.trans x2, by omega, by omega, x5.of hp e3, e2, ?_⟩⟩
      · unfold f_re_test_L53
        refine w_b2 w11 ?_
        rw [if_pos rfl]
        refine w_b2 w40 ?_
        rw [if_pos rfl, if_pos (show (0 : Int32) ≤ nI 5 by decide)]
        refine w_bd a1 ?_
        rw [a2.1, q1, s_true, q2]
        refine w_lt ?_
        rw [if_pos (show nI 5 = 5 from rfl)]
        unfold f_re_test_L156
        exact w_bd e1 rfl
      · rw [e3 17 (by omega) (by omega) (by omega), sm_up_ne _ _ _ _ _ (by decide)]
  · obtain ⟨h', f1, f2⟩ := n_fail B G Kt (n_SS.KA C) (c := 1) (by decide) (by decide)
    refine ⟨-1, t2 (fun t ht x => hW ⟨x.1, t, ht, x.2⟩), h', ?_, Or.inr ?_⟩
    · unfold f_re_test_L53
      refine w_b2 w11 ?_
      rw [if_pos rfl]
      refine w_b2 w40 ?_
      rw [if_pos rfl, if_neg (show ¬ (0 : Int32) ≤ -1 by decide)]
      exact w_bd f1 rfl
    · by_cases ht : τ = 1
      · obtain ⟨u1, p1, p2, p3, p4, p5, p6⟩ := n_ro_word (m := m) (q := q) (w := w) RB Y ht (fun z => z11 ⟨ht, z⟩)
        obtain ⟨k1, k2, k3⟩ := n_rt (g := g) (q := q) (w := w) p6
        obtain ⟨v1, v2⟩ := n_fails (g := g) (q := q) (w := w) (c := 1) p5
        refine ⟨_, q, ?_, 1, s, f2, p2.ub v2⟩
        rw [n_A_T9 p1]
        refine n_T9_bad ?_
        rw [k3 (fun t ht' x => hW ⟨ht, t, ht', x⟩)]
        exact w_b2 v1 rfl
      · obtain ⟨u1, p1, p2⟩ := n_ro_bad (m := m) (q := q) (w := w) RB Y ht z40
        exact ⟨u1, q, n_A_bad p1, 1, s, f2, p2⟩
end n_plain2
