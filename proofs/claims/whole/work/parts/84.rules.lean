-- LOAD: A RULE, both sides
-- the plan between two items
def n_IT (Z D F R N K A p : Nat) (h : sm_H) (q : Nat → Int32) : Prop := n_PA Z D F R p h q ∧ n_PN Z D F N A p h q ∧ n_PU Z F R N K A p h q ∧ n_PK K [] p h q
section n_rules
variable {b : Nat → Nat} {L T p i e s τ j : Nat} {g h0 h h' : sm_H} {u q w : Nat → Int32} {le : Bool} {W : List Nat} {Z D F R N Kc A0 A K : Nat} {o v : Int32}
theorem n_IT.KA (C : n_IT Z D F R N K A p h q) : n_KA p h := C.2.1.KA C.2.2.2
theorem n_IT.adv (S : n_IT Z D F R N K A p h q) (e : ∀ o, o ≤ 15 → h' (p + o) = h (p + o)) : n_IT Z D F R N K A p h' q := by
  obtain ⟨s1, s2, s3, s4⟩ := S
  refine ⟨s1.keep (fun o ho => e o (by omega)) (fun _ _ _ _ _ => rfl), s2.keep ⟨e 13 (by omega), e 14 (by omega)⟩ ⟨by rw [e 9 (by omega)], by rw [e 9 (by omega)]⟩ ⟨rfl, rfl⟩ (fun _ _ _ => rfl), s3.keep ⟨e 12 (by omega), e 15 (by omega)⟩ (fun k _ => ⟨by rw [e 10 (by omega)], by rw [e 11 (by omega)]⟩) (fun _ _ _ => rfl), ?_⟩
  unfold n_PK at s4 ⊢
  rw [e 9 (by omega), e 10 (by omega), e 11 (by omega)]
  exact s4
theorem n_IT.at7 (hp : p = 1 ∨ p = 24) (C : n_IT Z D F R N K A p h q) (v : Int32) : n_IT Z D F R N K A p (sm_up h 18 7 v) q := C.adv (fun o ho => sm_up_ne _ _ _ _ _ (by omega))
-- the end of a rule
theorem n_end (B : n_B0 b L T p h0) (Y : n_SS b L T p h0 i e le h u) (C : n_AS Z D F R N Kc A0 A p K h q) (hA : A ≤ 8 * (N + 1)) : ∃ h' q', f_re_ruleItem_L52 17 h = some h' ∧ f_mo_readRule_L113 114 (nI (128 + 4 * N)) (n_rr g u q w) = some (1, n_rr g u q' w) ∧ n_SS b L T p h0 i e le h' u ∧ n_IT Z D F R (N + 1) K A p h' q' ∧ h' 17 = h 17 := by
  have hp := B.2.2.2.2
  obtain ⟨q1, q2⟩ := p_isPp hp
  obtain ⟨τ, W, s, Y'⟩ := id Y
  have G := Y'.1
  obtain ⟨s1, ⟨t1, t2, t3, t4, t5, t6, t7⟩, ⟨C0, B0, c1, c2, c3, c4, c5⟩, s4, s5, s6, s7, s8, s9, sa, sb⟩ := C
  obtain ⟨k1, k2, k3, k4, k5⟩ := id s4
  replace k1 : K ≤ 300 := k1
  replace k2 : h (p + 9) 1 = nI K := k2
  have E : ∀ r, r ≠ p + 9 → r ≠ p + 12 → r ≠ p + 15 → sm_up (sm_up (sm_up h (p + 12) N (nI K)) (p + 15) N (nI A)) (p + 9) 0 (nI (N + 1)) r = h r := fun r r1 r2 r3 => by rw [sm_up_ne _ _ _ _ _ r1, sm_up_ne _ _ _ _ _ r3, sm_up_ne _ _ _ _ _ r2]
  have E9 : ∀ k, k ≠ 0 → sm_up (sm_up (sm_up h (p + 12) N (nI K)) (p + 15) N (nI A)) (p + 9) 0 (nI (N + 1)) (p + 9) k = h (p + 9) k := fun k hk => by rw [sm_up_off (by omega), sm_up_off (by omega), sm_up_off (by omega)]
  have E12 : ∀ k, sm_up (sm_up (sm_up h (p + 12) N (nI K)) (p + 15) N (nI A)) (p + 9) 0 (nI (N + 1)) (p + 12) k = if k = N then nI K else h (p + 12) k := fun k => by
    rw [sm_up_off (by omega), sm_up_off (by omega)]
    by_cases z : k = N
    · rw [z, p_up_at, if_pos rfl]
    · rw [sm_up_off (by omega), if_neg z]
  have E15 : ∀ k, sm_up (sm_up (sm_up h (p + 12) N (nI K)) (p + 15) N (nI A)) (p + 9) 0 (nI (N + 1)) (p + 15) k = if k = N then nI A else h (p + 15) k := fun k => by
    rw [sm_up_off (by omega)]
    by_cases z : k = N
    · rw [z, p_up_at, if_pos rfl]
    · rw [sm_up_off (by omega), sm_up_off (by omega), if_neg z]
  have Q : ∀ k, k ≠ 4 → k ≠ 131 + 4 * N → upd (upd q (131 + 4 * N) (nI A)) 4 (nI (N + 1)) k = q k := fun k a1 a2 => by rw [p_ud_off a1, p_ud_off a2]
  have Q4 : upd (upd q (131 + 4 * N) (nI A)) 4 (nI (N + 1)) 4 = nI (N + 1) := p_ud_at
  have Q131 : upd (upd q (131 + 4 * N) (nI A)) 4 (nI (N + 1)) (131 + 4 * N) = nI A := by rw [p_ud_off (by omega), p_ud_at]
  obtain ⟨h', hh'⟩ : ∃ h', h' = sm_up (sm_up (sm_up h (p + 12) N (nI K)) (p + 15) N (nI A)) (p + 9) 0 (nI (N + 1)) := ⟨_, rfl⟩
  have F9 : h' (p + 9) 0 = nI (N + 1) := by rw [hh']; exact p_up_at
  have Fe : f_ru_endRule (p + 9) h = some h' := by
    rw [hh']
    unfold f_ru_endRule
    rw [t3, if_neg (show ¬ (12 : Int32) ≤ nI N from nI_ge (b := 12) (by omega) (by omega)), sm_gd_t (sm_inb_nI (k := N) (n := 12) (by omega) (by omega)), nI_clamp (n := N) (by omega), k2]
    refine w_lt ?_
    rw [show sm_up h (p + 9 + 3) N (nI K) (p + 9) 0 = nI N by rw [sm_up_off (by omega)]; exact t3, sm_gd_t (sm_inb_nI (k := N) (n := 12) (by omega) (by omega)), nI_clamp (n := N) (by omega), show sm_up h (p + 9 + 3) N (nI K) (p + 9) 2 = nI A by rw [sm_up_off (by omega)]; exact t5]
    refine w_lt ?_
    rw [show sm_up (sm_up h (p + 9 + 3) N (nI K)) (p + 9 + 6) N (nI A) (p + 9) 0 = nI N by rw [sm_up_off (by omega), sm_up_off (by omega)]; exact t3, nI_1]
    rfl
  obtain ⟨q', hq'⟩ : ∃ q', q' = upd (upd q (131 + 4 * N) (nI A)) 4 (nI (N + 1)) := ⟨_, rfl⟩
  rw [← hh'] at E E9 E12 E15
  rw [← hq'] at Q Q4 Q131
  refine ⟨h', q', ?_, ?_, Y.pl' hp (fun r hr => E r (by omega) (by omega) (by omega)), ⟨s1.keep (fun o ho => E _ (by omega) (by omega) (by omega)) (fun k a1 a2 a3 a4 => Q k a2 (by omega)), ⟨by omega, t2, F9, Q4, by rw [E9 2 (by decide)]; exact t5, by rw [Q 7 (by decide) (by omega)]; exact t6, fun a ha => ?_⟩, ⟨fun r => if r = N + 1 then K else C0 r, fun r => if r = N + 1 then A else B0 r, ?_, ?_, ?_, ?_, fun r hr => ?_⟩, ⟨by rw [List.length_nil]; omega, by rw [E9 1 (by decide), List.length_nil]; exact k2, by rw [Q 8 (by decide) (by omega)]; exact k3, fun k hk => ?_, fun j hj => absurd hj (Nat.not_lt_zero _)⟩⟩, E 17 (by omega) (by omega) (by omega)⟩
  · unfold f_re_ruleItem_L52
    rw [G.2.1, if_pos rfl, G.1, q1, s_true, q2]
    refine w_lt ?_
    exact w_bd Fe rfl
  · unfold f_mo_readRule_L113
    rw [s_i7, show nI (128 + 4 * N) + 3 = nI (128 + 4 * N + 3) from nI_add (128 + 4 * N) 3, sm_gd_t (sm_inb_nI (k := 128 + 4 * N + 3) (n := 1268) (by omega) (by omega)), nI_clamp (n := 128 + 4 * N + 3) (by omega), s_c7, show (114 + 2 : Nat) = 116 from rfl, n_r116, t6, n_u116, show 128 + 4 * N + 3 = 131 + 4 * N by omega]
    refine w_lt ?_
    rw [s_i4, s_i4, s_c4, n_r116, p_ud_off (show ¬ 4 = 131 + 4 * N by omega), t4, nI_1, n_u116, hq']
    rfl
  · rw [E (p + 13) (by omega) (by omega) (by omega), E (p + 14) (by omega) (by omega) (by omega), Q (1076 + 2 * a) (by omega) (by omega), Q (1077 + 2 * a) (by omega) (by omega)]
    exact t7 a ha
  · show (if 0 = N + 1 then K else C0 0) = 0
    rw [if_neg (by omega)]
    exact c1
  · show (if 0 = N + 1 then A else B0 0) = 0
    rw [if_neg (by omega)]
    exact c2
  · show (if N + 1 = N + 1 then K else C0 (N + 1)) = K
    rw [if_pos rfl]
  · show (if N + 1 = N + 1 then A else B0 (N + 1)) = A
    rw [if_pos rfl]
  · show (if r = N + 1 then K else C0 r) ≤ (if r + 1 = N + 1 then K else C0 (r + 1)) ∧ (if r + 1 = N + 1 then K else C0 (r + 1)) ≤ K ∧ (if r = N + 1 then A else B0 r) ≤ (if r + 1 = N + 1 then A else B0 (r + 1)) ∧ (if r + 1 = N + 1 then A else B0 (r + 1)) ≤ A ∧ q' (128 + 4 * r) = nI (if r = N + 1 then K else C0 r) ∧ q' (129 + 4 * r) = nI (if r + 1 = N + 1 then K else C0 (r + 1)) ∧ q' (130 + 4 * r) = nI (if r = N + 1 then A else B0 r) ∧ q' (131 + 4 * r) = nI (if r + 1 = N + 1 then A else B0 (r + 1)) ∧ h' (p + 12) r = nI (if r + 1 = N + 1 then K else C0 (r + 1)) ∧ h' (p + 15) r = nI (if r + 1 = N + 1 then A else B0 (r + 1)) ∧ p_wf Z R F (fun k => (h' (p + 10) k, h' (p + 11) k)) (if r = N + 1 then K else C0 r) (if r + 1 = N + 1 then K else C0 (r + 1))
    rw [E (p + 10) (by omega) (by omega) (by omega), E (p + 11) (by omega) (by omega) (by omega), if_neg (show ¬ r = N + 1 by omega), if_neg (show ¬ r = N + 1 by omega), Q (128 + 4 * r) (by omega) (by omega), Q (129 + 4 * r) (by omega) (by omega), Q (130 + 4 * r) (by omega) (by omega), E12, E15]
    by_cases z : r = N
    · subst z
      rw [if_pos rfl, if_pos rfl, if_pos rfl, if_pos rfl, c3, c4, Q131]
      exact ⟨s5, Nat.le_refl _, sb, Nat.le_refl _, s8, s9, sa, rfl, rfl, rfl, s6.wf k4⟩
    · rw [if_neg (show ¬ r + 1 = N + 1 by omega), if_neg (show ¬ r + 1 = N + 1 by omega), if_neg z, if_neg z, Q (131 + 4 * r) (by omega) (by omega)]
      obtain ⟨d1, d2, d3, d4, d5⟩ := c5 r (by omega)
      exact ⟨d1, by omega, d3, by omega, d5⟩
  · rw [E (p + 10) (by omega) (by omega) (by omega), E (p + 11) (by omega) (by omega) (by omega), Q (176 + 2 * k) (by omega) (by omega), Q (177 + 2 * k) (by omega) (by omega)]
    exact k4 k hk
-- the actions from the j-th on
theorem n_acts (B : n_B0 b L T p h0) (RB : n_RB b L g) : ∀ d j A i e le h u q, j + d = 8 → n_SS b L T p h0 i e le h u → n_AS Z D F R N Kc A0 A p K h q → A ≤ 8 * N + j → ∀ n m, d + 2 ≤ n → d + 2 ≤ m → ∃ h', Option.bind (f_re_action 17 (nI j) h) (fun g9 => f_re_ruleItem_L26 n 17 (nI (j + 1)) g9) = some h' ∧ ((∃ u' q' i' e' le' A', f_mo_readRule_L69 m 114 (nI (128 + 4 * N)) (nI j) 1 (n_rr g u q w) = some (1, n_rr g u' q' w) ∧ n_uf u u' ∧ i < i' ∧ e + 1 ≤ e' ∧ n_SS b L T p h0 i' e' le' h' u' ∧ n_IT Z D F R (N + 1) K A' p h' q' ∧ A' ≤ 8 * (N + 1) ∧ h' 17 = h 17) ∨ ∃ u' q', f_mo_readRule_L69 m 114 (nI (128 + 4 * N)) (nI j) 1 (n_rr g u q w) = some (0, n_rr g u' q' w) ∧ n_bad p h0 h' u u') := by
  have hp := B.2.2.2.2
  have n1 : ¬ (1 : Int32) = 0 := by decide
  intro d
  induction d with
  | zero =>
    intro j A i e le h u q hj Y C hA n m hn hm
    obtain ⟨m, rfl⟩ : ∃ k, m = k + 1 := ⟨m - 1, by omega⟩
    obtain ⟨n, rfl⟩ : ∃ k, n = k + 1 := ⟨n - 1, by omega⟩
    obtain ⟨h1, a1, a2⟩ := n_act (g := g) (w := w) B RB Y C (j := j) (by omega) (by omega)
    rcases a2 with ⟨u', q', i', e', b1, b2, b3, b4, b5, b6, b7, b8⟩ | ⟨u', q', b1, c, s, b2, b3⟩
    · omega
    · refine ⟨h1, w_bd a1 (n_L26E b2 n _), Or.inr ⟨u', q', ?_, c, s, b2, b3⟩⟩
      show (if (1 : Int32) = 0 then _ else _) = _
      rw [if_neg n1]
      refine w_b2 b1 ?_
      rw [if_pos rfl]
  | succ d ih =>
    intro j A i e le h u q hj Y C hA n m hn hm
    obtain ⟨m, rfl⟩ : ∃ k, m = k + 1 := ⟨m - 1, by omega⟩
    obtain ⟨n, rfl⟩ : ∃ k, n = k + 1 := ⟨n - 1, by omega⟩
    have hN := C.2.2.2.2.2.2.1
    obtain ⟨h1, a1, a2⟩ := n_act (g := g) (w := w) B RB Y C (j := j) (by omega) (by omega)
    rcases a2 with ⟨u1, q1, i1, e1, b1, b2, b3, b4, b5, b6, b7, b8⟩ | ⟨u', q', b1, c, s, b2, b3⟩
    · obtain ⟨τ, W, s, Y1⟩ := id b5
      obtain ⟨G, Kt, nx, U⟩ := id Y1
      have hes : e1 ≤ s := Kt.1
      have w44 := n_takeSign B G Kt (a := 44) (by decide)
      obtain ⟨u2, p1, p2, p3, p4, p5, p6⟩ := n_peekS (q := q1) (w := w) RB Y1
      by_cases z : τ = 3 ∧ W = [44]
      · rw [if_pos z] at w44
        obtain ⟨z1, z2⟩ := z
        have y44 : n_ba b L s = 44 := (p6 44 (by decide)).mpr ⟨z1, z2⟩
        have hT := (Kt.2.2.2.2.2.2.2.1 (by rw [z1]; decide)).2
        have hl : W.length = 1 := by rw [z2]; rfl
        have k4 : n_uf u2 (upd (upd u2 10 (nI (s + 1))) 12 (-1)) := n_ufu (n_ufu (n_uf.refl u2) _ (Or.inl rfl)) _ (Or.inr (Or.inl rfl))
        have Y2 := n_next p3 (by rw [z1]; decide) (by rw [z1]; decide) (n_adv B G hT).2 (u' := upd (upd u2 10 (nI (s + 1))) 12 (-1)) (by rw [hl, p_ud_off (by decide), p_ud_at]) (by rw [z1]; exact p_ud_at) (by rw [p_ud_off (by decide), p_ud_off (by decide)]; exact p3.2.2.2.1)
        obtain ⟨h2, c1, c2⟩ := ih (j + 1) (A + 1) (i1 + 1) (s + W.length) (decide (τ ≤ 2)) (sm_up h1 18 7 (nI (i1 + 1))) (upd (upd u2 10 (nI (s + 1))) 12 (-1)) q1 (by omega) Y2 (b6.at7 hp _) (by omega) n m (by omega) (by omega)
        have Fc : Option.bind (f_re_action 17 (nI j) h) (fun g9 => f_re_ruleItem_L26 (n + 1) 17 (nI (j + 1)) g9) = some h2 := by
          refine w_bd a1 ?_
          show (if 8 < nI (j + 1) then f_re_ruleItem_L52 17 h1 else _) = _
          rw [if_neg (show ¬ (8 : Int32) < nI (j + 1) from nI_nlt (a := 8) (by omega) (by omega))]
          refine w_b2 w44 ?_
          rw [if_neg n1, nI_1]
          exact c1
        have Fr : f_mo_readRule_L69 (m + 1) 114 (nI (128 + 4 * N)) (nI j) 1 (n_rr g u q w) = f_mo_readRule_L69 m 114 (nI (128 + 4 * N)) (nI (j + 1)) 1 (n_rr g (upd (upd u2 10 (nI (s + 1))) 12 (-1)) q1 w) := by
          obtain ⟨Rr, hR⟩ : ∃ Rr, Rr = f_mo_readRule_L69 m 114 (nI (128 + 4 * N)) (nI (j + 1)) 1 (n_rr g (upd (upd u2 10 (nI (s + 1))) 12 (-1)) q1 w) := ⟨_, rfl⟩
          rw [← hR]
          show (if (1 : Int32) = 0 then _ else _) = _
          rw [if_neg n1]
          refine w_b2 b1 ?_
          rw [if_neg n1, nI_1]
          refine w_lt ?_
          refine w_b2 p1 ?_
          rw [if_pos y44]
          unfold f_mo_readRule_L101
          rw [if_neg n1]
          exact w_bd (n_passSign p5) hR.symm
        refine ⟨h2, Fc, ?_⟩
        rw [Fr]
        rcases c2 with ⟨u', q', i', e', le', A', d1, d2, d3, d4, d5, d6, d7, d8⟩ | ⟨u', q', d1, c, s', d2, d3⟩
        · exact Or.inl ⟨u', q', i', e', le', A', d1, ((b2.trans p2).trans k4).trans d2, by omega, by omega, d5, d6, d7, by rw [d8, sm_up_ne _ _ _ _ _ (by decide), b8]⟩
        · exact Or.inr ⟨u', q', d1, c, s', d2, ((b2.trans p2).trans k4).ub d3⟩
      · rw [if_neg z] at w44
        obtain ⟨m, rfl⟩ : ∃ k, m = k + 1 := ⟨m - 1, by omega⟩
        obtain ⟨h2, q2, c1, c2, c3, c4, c5⟩ := n_end (g := g) (w := w) (u := u2) B ⟨τ, W, s, p3⟩ b6 (by omega)
        refine ⟨h2, ?_, Or.inl ⟨u2, q2, i1, e1, true, A + 1, ?_, b2.trans p2, b3, b4, c3, c4, by omega, by rw [c5, b8]⟩⟩
        · refine w_bd a1 ?_
          show (if 8 < nI (j + 1) then f_re_ruleItem_L52 17 h1 else _) = _
          rw [if_neg (show ¬ (8 : Int32) < nI (j + 1) from nI_nlt (a := 8) (by omega) (by omega))]
          refine w_b2 w44 ?_
          rw [if_pos rfl]
          exact c1
        · show (if (1 : Int32) = 0 then _ else _) = _
          rw [if_neg n1]
          refine w_b2 b1 ?_
          rw [if_neg n1]
          refine w_lt ?_
          refine w_b2 p1 ?_
          rw [if_neg (show ¬ n_ba b L s = 44 from fun x => z ((p6 44 (by decide)).mp x))]
          unfold f_mo_readRule_L101
          rw [if_pos rfl]
          show (if (0 : Int32) = 0 then _ else _) = _
          rw [if_pos rfl]
          exact c2
    · refine ⟨h1, w_bd a1 (n_L26E b2 n _), Or.inr ⟨u', q', ?_, c, s, b2, b3⟩⟩
      show (if (1 : Int32) = 0 then _ else _) = _
      rw [if_neg n1]
      refine w_b2 b1 ?_
      rw [if_pos rfl]
theorem n_IT.CS (C : n_IT Z D F R N K A p h q) (hN : N ≤ 11) : n_CS Z D F R N K A p K [] 0 h (upd q (128 + 4 * N) (nI K)) := by
  obtain ⟨s1, s2, s3, s4⟩ := C
  have Q : ∀ k, k ≠ 128 + 4 * N → upd q (128 + 4 * N) (nI K) k = q k := fun k a1 => p_ud_off a1
  have k1 := s4.1
  rw [List.length_nil, Nat.add_zero] at k1
  refine ⟨s1.keep (fun _ _ => rfl) (fun k a1 _ _ _ => Q k (by omega)), s2.keep ⟨rfl, rfl⟩ ⟨rfl, rfl⟩ ⟨Q 4 (by omega), Q 7 (by omega)⟩ (fun k a1 a2 => Q k (by omega)), s3.keep ⟨rfl, rfl⟩ (fun _ _ => ⟨rfl, rfl⟩) (fun k a1 a2 => Q k (by omega)), ?_, Nat.le_refl _, n_wq.start, hN, p_ud_at⟩
  obtain ⟨k1, k2, k3, k4, k5⟩ := s4
  refine ⟨k1, k2, by rw [Q 8 (by omega)]; exact k3, fun k hk => ?_, k5⟩
  rw [Q (176 + 2 * k) (by omega), Q (177 + 2 * k) (by omega)]
  exact k4 k hk
theorem n_CS.AS (C : n_CS Z D F R N Kc A p K [] 1 h q) : n_AS Z D F R N Kc A A p K h (upd (upd q (129 + 4 * N) (nI K)) (130 + 4 * N) (nI A)) := by
  obtain ⟨s1, s2, s3, s4, s5, s6, s7, s8⟩ := C
  have Q : ∀ k, k ≠ 129 + 4 * N → k ≠ 130 + 4 * N → upd (upd q (129 + 4 * N) (nI K)) (130 + 4 * N) (nI A) k = q k := fun k a1 a2 => by rw [p_ud_off a2, p_ud_off a1]
  have k1 := s4.1
  rw [List.length_nil, Nat.add_zero] at k1
  refine ⟨s1.keep (fun _ _ => rfl) (fun k a1 _ _ _ => Q k (by omega) (by omega)), s2.keep ⟨rfl, rfl⟩ ⟨rfl, rfl⟩ ⟨Q 4 (by omega) (by omega), Q 7 (by omega) (by omega)⟩ (fun k a1 a2 => Q k (by omega) (by omega)), s3.keep ⟨rfl, rfl⟩ (fun _ _ => ⟨rfl, rfl⟩) (fun k a1 a2 => Q k (by omega) (by omega)), ?_, s5, s6.keep (fun k hk => ⟨Q _ (by omega) (by omega), Q _ (by omega) (by omega)⟩), s7, by rw [Q _ (by omega) (by omega)]; exact s8, by rw [p_ud_off (by omega), p_ud_at], p_ud_at, Nat.le_refl _⟩
  obtain ⟨k1, k2, k3, k4, k5⟩ := s4
  refine ⟨k1, k2, by rw [Q 8 (by omega) (by omega)]; exact k3, fun k hk => ?_, k5⟩
  rw [Q (176 + 2 * k) (by omega) (by omega), Q (177 + 2 * k) (by omega) (by omega)]
  exact k4 k hk
theorem n_rule (B : n_B0 b L T p h0) (RB : n_RB b L g) (Y : n_SS b L T p h0 i e le h u) (C : n_IT Z D F R N K A p h q) (hN : N ≤ 11) (hA : A ≤ 8 * N) (bud : 3 * K ≤ e) : ∃ h', f_re_ruleItem 17 h = some h' ∧ ((∃ u' q' w' i' e' le' K' A', f_mo_readRule 114 (n_rr g u q w) = some (1, n_rr g u' q' w') ∧ n_uc u u' ∧ i < i' ∧ 3 * K' ≤ e' ∧ n_SS b L T p h0 i' e' le' h' u' ∧ n_IT Z D F R (N + 1) K' A' p h' q' ∧ A' ≤ 8 * (N + 1) ∧ h' 17 = h 17) ∨ ∃ u' q' w', f_mo_readRule 114 (n_rr g u q w) = some (0, n_rr g u' q' w') ∧ n_bad p h0 h' u u') := by
  have n1 : ¬ (1 : Int32) = 0 := by decide
  have q4 := C.2.1.2.2.2.1
  have q8 := C.2.2.2.2.2.1
  have R0 : ∀ r g', f_mo_readCondition 114 (n_rr g u (upd q (128 + 4 * N) (nI K)) w) = some (r, g') → f_mo_readRule 114 (n_rr g u q w) = if r = 0 then (some (0, g')) else (sm_gd (sm_inb 8 1268) <| sm_gd (sm_inb (nI (128 + 4 * N) + 1) 1268) <| sm_let (sm_up g' (114 + 2) (nI (128 + 4 * N) + 1 : Int32).toNatClampNeg (g' (114 + 2) (8 : Int32).toNatClampNeg)) fun g14 => sm_gd (sm_inb 7 1268) <| sm_gd (sm_inb (nI (128 + 4 * N) + 2) 1268) <| sm_let (sm_up g14 (114 + 2) (nI (128 + 4 * N) + 2 : Int32).toNatClampNeg (g14 (114 + 2) (7 : Int32).toNatClampNeg)) fun g18 => f_mo_readRule_L69 sm_N 114 (nI (128 + 4 * N)) 0 1 g18) := by
    intro r g' hr
    unfold f_mo_readRule
    rw [s_i4, s_c4, show (114 + 2 : Nat) = 116 from rfl, n_r116, q4, show (128 : Int32) + 4 * nI N = nI (128 + 4 * N) by rw [show (4 : Int32) = nI 4 from rfl, show (128 : Int32) = nI 128 from rfl, nI_mul, nI_add]]
    refine w_lt ?_
    rw [s_i8, sm_gd_t (sm_inb_nI (k := 128 + 4 * N) (n := 1268) (by omega) (by omega)), nI_clamp (n := 128 + 4 * N) (by omega), s_c8, q8, n_u116]
    refine w_lt ?_
    exact w_b2 hr rfl
  obtain ⟨h1, a1, a2⟩ := n_ruleCond (w := w) B RB Y (C.CS hN) bud
  rcases a2 with ⟨h2, u1, q1, w1, i1, e1, K1, b1, b2, b3, b4, b5, b6, b7, b8⟩ | ⟨h2, u1, q1, w1, b1, b2, b3, b4⟩
  · have A1 := b6.AS
    have F : f_mo_readRule 114 (n_rr g u q w) = f_mo_readRule_L69 sm_N 114 (nI (128 + 4 * N)) (nI 0) 1 (n_rr g u1 (upd (upd q1 (129 + 4 * N) (nI K1)) (130 + 4 * N) (nI A)) w1) := by
      obtain ⟨Rr, hR⟩ : ∃ Rr, Rr = f_mo_readRule_L69 sm_N 114 (nI (128 + 4 * N)) (nI 0) 1 (n_rr g u1 (upd (upd q1 (129 + 4 * N) (nI K1)) (130 + 4 * N) (nI A)) w1) := ⟨_, rfl⟩
      have e8 := b6.2.2.2.1.2.2.1
      have e7 := b6.2.1.2.2.2.2.2.1
      rw [R0 _ _ b2, ← hR, if_neg n1, s_i8, show nI (128 + 4 * N) + 1 = nI (128 + 4 * N + 1) from nI_add (128 + 4 * N) 1, sm_gd_t (sm_inb_nI (k := 128 + 4 * N + 1) (n := 1268) (by omega) (by omega)), nI_clamp (n := 128 + 4 * N + 1) (by omega), s_c8, show (114 + 2 : Nat) = 116 from rfl, n_r116, e8, n_u116]
      refine w_lt ?_
      rw [s_i7, show nI (128 + 4 * N) + 2 = nI (128 + 4 * N + 2) from nI_add (128 + 4 * N) 2, sm_gd_t (sm_inb_nI (k := 128 + 4 * N + 2) (n := 1268) (by omega) (by omega)), nI_clamp (n := 128 + 4 * N + 2) (by omega), s_c7, n_r116, p_ud_off (show ¬ 7 = 128 + 4 * N + 1 by omega), e7, n_u116, show 128 + 4 * N + 1 = 129 + 4 * N by omega, show 128 + 4 * N + 2 = 130 + 4 * N by omega]
      refine w_lt ?_
      rw [hR]
      rfl
    obtain ⟨h3, c1, c2⟩ := n_acts (w := w1) B RB 8 0 A i1 e1 true h2 u1 _ rfl b5 A1 (by omega) sm_N sm_N (by unfold sm_N; omega) (by unfold sm_N; omega)
    refine ⟨h3, ?_, ?_⟩
    · unfold f_re_ruleItem
      refine w_bd a1 ?_
      refine w_b2 b1 ?_
      rw [if_neg n1]
      exact c1
    · rw [F]
      rcases c2 with ⟨u', q', i', e', le', A', d1, d2, d3, d4, d5, d6, d7, d8⟩ | ⟨u', q', d1, c, s', d2, d3⟩
      · exact Or.inl ⟨u', q', w1, i', e', le', K1, A', d1, b3.trans d2.uc, by omega, by omega, d5, d6, d7, by rw [d8, b8]⟩
      · exact Or.inr ⟨u', q', w1, d1, c, s', d2, b3.ub d3⟩
  · obtain ⟨c, s, x1, x2⟩ := b4
    refine ⟨h2, ?_, Or.inr ⟨u1, q1, w1, ?_, c, s, x1, x2⟩⟩
    · unfold f_re_ruleItem
      refine w_bd a1 ?_
      refine w_b2 b1 ?_
      rw [if_pos rfl]
      refine w_bd b2 ?_
      exact n_L19E x1
    · rw [R0 _ _ b3, if_pos rfl]
end n_rules
