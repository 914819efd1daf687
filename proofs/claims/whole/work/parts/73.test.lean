-- LOAD: A PLAIN TEST
section n_test
variable {b : Nat → Nat} {L T p i e s τ m n : Nat} {g h0 h : sm_H} {u q w : Nat → Int32} {le : Bool} {W S : List Nat} {Z D F R N Kc A K : Nat}
theorem n_SS.KA {X : List Nat} (C : n_CS Z D F R N Kc A p K X n h q) : n_KA p h := C.2.1.KA C.2.2.2.1
theorem n_CS.at7 (hp : p = 1 ∨ p = 24) {X : List Nat} (C : n_CS Z D F R N Kc A p K X n h q) (v : Int32) : n_CS Z D F R N Kc A p K X n (sm_up h 18 7 v) q := C.adv (fun o ho => sm_up_ne _ _ _ _ _ (by omega))
theorem n_SS.of (hp : p = 1 ∨ p = 24) {i' e' : Nat} {le' : Bool} {h' : sm_H} (Y : n_SS b L T p h0 i' e' le' h u) (e1 : ∀ r, r ≠ p + 9 → r ≠ p + 10 → r ≠ p + 11 → h' r = h r) : n_SS b L T p h0 i' e' le' h' u := by
  obtain ⟨τ, W, s, ⟨g1, g2, g3, g4, g5, g6⟩, K, nx, U⟩ := Y
  have e17 : h' 17 = h 17 := e1 17 (by omega) (by omega) (by omega)
  have e18 : h' 18 = h 18 := e1 18 (by omega) (by omega) (by omega)
  exact ⟨τ, W, s, ⟨by rw [e17]; exact g1, by rw [e17]; exact g2, by rw [e17]; exact g3, by rw [e18]; exact g4, fun j hj => by rw [e18]; exact g5 j hj, fun r r1 r2 r3 => by rw [e1 r (by omega) (by omega) (by omega)]; exact g6 r r1 r2 r3⟩, K, nx, U⟩
theorem n_SS.uf {u' : Nat → Int32} (Y : n_SS b L T p h0 i e le h u) (e1 : u' 10 = u 10 ∧ u' 11 = u 11 ∧ u' 12 = u 12) : n_SS b L T p h0 i e le h u' := by
  obtain ⟨τ, W, s, G, K, nx, U1, ⟨x, U2⟩, U3⟩ := Y
  exact ⟨τ, W, s, G, K, nx, by rw [e1.2.1]; exact U1, ⟨x, by rw [e1.1]; exact U2⟩, by rw [e1.2.2]; exact U3⟩
-- a test with a number: behind its word
theorem n_tnum (B : n_B0 b L T p h0) (RB : n_RB b L g) (Y : n_S b L T p h0 i e le τ W s h u) (ht : τ = 1) (h10 : u 10 = nI s) (C : n_CS Z D F R N Kc A p K [] n h q) (hK : 3 * K ≤ e) (hn : n ≤ 40) (t : Int32) (hi : Int32) (ok : ∀ v, v < 1000 → nI v ≤ hi → p_okc Z R F t (nI v)) (A0 : Nat → Int32 → sm_H → Option sm_H) (T0 : Nat → Int32 → sm_H → Option sm_H) : ∃ h', sm_b2 (f_re_needNumber 17 0 hi (sm_up h 18 7 (nI (i + 1)))) (fun r36 g37 => f_re_test_L156 A0 T0 r36 t (p + 9) g37) = some h' ∧ ((∃ u' q' e', f_mo_readTestOf 114 t hi (n_rr g u q w) = some (1, n_rr g u' q' w) ∧ n_uf u u' ∧ s + W.length + 2 ≤ e' ∧ n_SS b L T p h0 (i + 2) e' true h' u' ∧ n_CS Z D F R N Kc A p (K + 1) [] (n + 1) h' q' ∧ h' 17 = h 17) ∨ ∃ u' q', f_mo_readTestOf 114 t hi (n_rr g u q w) = some (0, n_rr g u' q' w) ∧ n_bad p h0 h' u u') := by
  have hp := B.2.2.2.2
  obtain ⟨u1, p1, p2, p3, p4, p5⟩ := n_psw (g := g) (q := q) (w := w) B RB Y ht h10
  have C1 := C.at7 hp (nI (i + 1))
  have hes : e ≤ s := Y.2.1.1
  have hsL : s < L := (Y.2.1.2.2.2.2.2.2.2.1 (by rw [ht]; decide)).1
  have hL := B.1
  rcases n_num (g := g) (q := q) (w := w) B RB p5 (n_SS.KA C1) 0 hi with ⟨u2, v, e', v1, v2, v3, v4, v5, v6, v7, v8, v9, va, vb⟩ | ⟨h', u2, v1, v2, v3⟩
  · obtain ⟨h', a1, a2, a3⟩ := (C1.at7 hp (nI (i + 1 + 1))).both hp (by omega) hn (o := t) (v := nI v) (Or.inl ⟨ok v v5 v7, rfl⟩)
    refine ⟨h', ?_, Or.inl ⟨u2, _, e', ?_, p2.trans v3, by have := v9 rfl; omega, vb.of hp a3, a2, ?_⟩⟩
    · refine w_b2 v1 ?_
      unfold f_re_test_L156
      exact w_bd a1 rfl
    · unfold f_mo_readTestOf
      refine w_bd p1 ?_
      refine w_b2 v2 ?_
      rw [if_neg (show ¬ (1 : Int32) = 0 by decide), n_r114, v4]
      exact w_bd (n_radd C.2.2.2.1.2.2.1 (by omega) t (nI v)) rfl
    · rw [a3 17 (by omega) (by omega) (by omega), sm_up_ne _ _ _ _ _ (by decide), sm_up_ne _ _ _ _ _ (by decide)]
  · obtain ⟨c, s', x1, x2⟩ := v3
    obtain ⟨h'', a1, a2⟩ := n_addCodeE hp x1 t 0
    refine ⟨h'', ?_, Or.inr ⟨u2, q, ?_, c, s', a2, p2.ub x2⟩⟩
    · refine w_b2 v1 ?_
      unfold f_re_test_L156
      exact w_bd a1 rfl
    · unfold f_mo_readTestOf
      refine w_bd p1 ?_
      refine w_b2 v2 ?_
      rw [if_pos rfl]
end n_test
