-- LOAD: AN ACTION, both sides
def n_AS (Z D F R N Kc A0 A p K : Nat) (h : sm_H) (q : Nat → Int32) : Prop := n_PA Z D F R p h q ∧ n_PN Z D F N A p h q ∧ n_PU Z F R N Kc A0 p h q ∧ n_PK K [] p h q ∧ Kc ≤ K ∧ n_wq Z R F q Kc K 1 ∧ N ≤ 11 ∧ q (128 + 4 * N) = nI Kc ∧ q (129 + 4 * N) = nI K ∧ q (130 + 4 * N) = nI A0 ∧ A0 ≤ A
def n_ob (Z D F t : Nat) : Nat := if t ≤ 1 then D else if t ≤ 3 then F else Z
def n_qa (q : Nat → Int32) (A : Nat) (o v : Int32) : Nat → Int32 := upd (upd (upd q (1076 + 2 * A) o) (1077 + 2 * A) v) 7 (nI (A + 1))
section n_act
variable {b : Nat → Nat} {L T p i e s τ j : Nat} {g h0 h h' : sm_H} {u q w : Nat → Int32} {le : Bool} {W : List Nat} {Z D F R N Kc A0 A K : Nat} {o v : Int32}
theorem n_qa_off {k : Nat} (h8 : k ≠ 7) (h1 : k ≠ 1076 + 2 * A) (h2 : k ≠ 1077 + 2 * A) : n_qa q A o v k = q k := by
  unfold n_qa
  rw [p_ud_off h8, p_ud_off h2, p_ud_off h1]
theorem n_qa7 : n_qa q A o v 7 = nI (A + 1) := by
  unfold n_qa
  rw [p_ud_at]
theorem n_qa0 : n_qa q A o v (1076 + 2 * A) = o := by
  unfold n_qa
  rw [p_ud_off (by omega), p_ud_off (by omega), p_ud_at]
theorem n_qa1 : n_qa q A o v (1077 + 2 * A) = v := by
  unfold n_qa
  rw [p_ud_off (by omega), p_ud_at]
theorem n_AS.KA (C : n_AS Z D F R N Kc A0 A p K h q) : n_KA p h := C.2.1.KA C.2.2.2.1
theorem n_AS.adv (S : n_AS Z D F R N Kc A0 A p K h q) (e : ∀ o, o ≤ 15 → h' (p + o) = h (p + o)) : n_AS Z D F R N Kc A0 A p K h' q := by
  obtain ⟨s1, s2, s3, s4, s5, s6, s7⟩ := S
  refine ⟨s1.keep (fun o ho => e o (by omega)) (fun _ _ _ _ _ => rfl), s2.keep ⟨e 13 (by omega), e 14 (by omega)⟩ ⟨by rw [e 9 (by omega)], by rw [e 9 (by omega)]⟩ ⟨rfl, rfl⟩ (fun _ _ _ => rfl), s3.keep ⟨e 12 (by omega), e 15 (by omega)⟩ (fun k _ => ⟨by rw [e 10 (by omega)], by rw [e 11 (by omega)]⟩) (fun _ _ _ => rfl), ?_, s5, s6, s7⟩
  unfold n_PK at s4 ⊢
  rw [e 9 (by omega), e 10 (by omega), e 11 (by omega)]
  exact s4
theorem n_AS.at7 (hp : p = 1 ∨ p = 24) (C : n_AS Z D F R N Kc A0 A p K h q) (v : Int32) : n_AS Z D F R N Kc A0 A p K (sm_up h 18 7 v) q := C.adv (fun o ho => sm_up_ne _ _ _ _ _ (by omega))
-- the class adds an action
theorem n_cact (hp : p = 1 ∨ p = 24) (Q : h (p + 9) 2 = nI A) (hA : A < 96) (o v : Int32) : ∃ h', f_ru_addAction (p + 9) o v h = some h' ∧ h' (p + 9) 2 = nI (A + 1) ∧ h' (p + 13) A = o ∧ h' (p + 14) A = v ∧ (∀ k, k ≠ 2 → h' (p + 9) k = h (p + 9) k) ∧ (∀ k, k ≠ A → h' (p + 13) k = h (p + 13) k ∧ h' (p + 14) k = h (p + 14) k) ∧ ∀ r, r ≠ p + 9 → r ≠ p + 13 → r ≠ p + 14 → h' r = h r := by
  refine ⟨sm_up (sm_up (sm_up h (p + 13) A o) (p + 14) A v) (p + 9) 2 (nI (A + 1)), ?_, p_up_at, ?_, ?_, fun k hk => ?_, fun k hk => ⟨?_, ?_⟩, fun r r1 r2 r3 => ?_⟩
  · unfold f_ru_addAction
    rw [Q, if_neg (show ¬ (96 : Int32) ≤ nI A from nI_ge (b := 96) hA (by omega)), sm_gd_t (sm_inb_nI (k := A) (n := 96) hA (by omega)), nI_clamp (n := A) (by omega)]
    refine w_lt ?_
    rw [show sm_up h (p + 9 + 4) A o (p + 9) 2 = nI A by rw [sm_up_off (by omega)]; exact Q, sm_gd_t (sm_inb_nI (k := A) (n := 96) hA (by omega)), nI_clamp (n := A) (by omega)]
    refine w_lt ?_
    rw [show sm_up (sm_up h (p + 9 + 4) A o) (p + 9 + 5) A v (p + 9) 2 = nI A by rw [sm_up_off (by omega), sm_up_off (by omega)]; exact Q, nI_1]
    rfl
  · rw [sm_up_off (by omega), sm_up_off (by omega), p_up_at]
  · rw [sm_up_off (by omega), p_up_at]
  · rw [sm_up_off (by omega), sm_up_off (by omega), sm_up_off (by omega)]
  · rw [sm_up_off (by omega), sm_up_off (by omega), sm_up_off (by omega)]
  · rw [sm_up_off (by omega), sm_up_off (by omega), sm_up_off (by omega)]
  · rw [sm_up_ne _ _ _ _ _ r1, sm_up_ne _ _ _ _ _ r3, sm_up_ne _ _ _ _ _ r2]
theorem n_AS.add (C : n_AS Z D F R N Kc A0 A p K h q) (hA : A < 96) (ok : p_oka Z D F o v) (e2 : h' (p + 9) 2 = nI (A + 1)) (e3 : h' (p + 13) A = o) (e4 : h' (p + 14) A = v) (e5 : ∀ k, k ≠ 2 → h' (p + 9) k = h (p + 9) k) (e6 : ∀ k, k ≠ A → h' (p + 13) k = h (p + 13) k ∧ h' (p + 14) k = h (p + 14) k) (e7 : ∀ r, r ≠ p + 9 → r ≠ p + 13 → r ≠ p + 14 → h' r = h r) : n_AS Z D F R N Kc A0 (A + 1) p K h' (n_qa q A o v) := by
  obtain ⟨s1, ⟨t1, t2, t3, t4, t5, t6, t7⟩, s3, ⟨k1, k2, k3, k4, k5⟩, s5, s6, s7, s8, s9, sa, sb⟩ := C
  have k1' : K ≤ 300 := by rw [List.length_nil] at k1; omega
  refine ⟨s1.keep (fun o ho => e7 _ (by omega) (by omega) (by omega)) (fun k a1 a2 a3 a4 => n_qa_off a3 (by omega) (by omega)), ⟨t1, by omega, by rw [e5 0 (by decide)]; exact t3, by rw [n_qa_off (by omega) (by omega) (by omega)]; exact t4, e2, n_qa7, fun a ha => ?_⟩, s3.keep ⟨e7 _ (by omega) (by omega) (by omega), e7 _ (by omega) (by omega) (by omega)⟩ (fun k hk => ⟨by rw [e7 _ (by omega) (by omega) (by omega)], by rw [e7 _ (by omega) (by omega) (by omega)]⟩) (fun k a1 a2 => n_qa_off (by omega) (by omega) (by omega)), ⟨k1, by rw [e5 1 (by decide)]; exact k2, by rw [n_qa_off (by omega) (by omega) (by omega)]; exact k3, fun k hk => ?_, fun j hj => absurd hj (Nat.not_lt_zero _)⟩, s5, s6.keep (fun k hk => ⟨n_qa_off (by omega) (by omega) (by omega), n_qa_off (by omega) (by omega) (by omega)⟩), s7, by rw [n_qa_off (by omega) (by omega) (by omega)]; exact s8, by rw [n_qa_off (by omega) (by omega) (by omega)]; exact s9, by rw [n_qa_off (by omega) (by omega) (by omega)]; exact sa, by omega⟩
  · by_cases z : a = A
    · rw [z, n_qa0, n_qa1, e3, e4]
      exact ⟨rfl, rfl, ok⟩
    · rw [(e6 a z).1, (e6 a z).2, n_qa_off (by omega) (by omega) (by omega), n_qa_off (by omega) (by omega) (by omega)]
      exact t7 a (by omega)
  · rw [e7 (p + 10) (by omega) (by omega) (by omega), e7 (p + 11) (by omega) (by omega) (by omega), n_qa_off (by omega) (by omega) (by omega), n_qa_off (by omega) (by omega) (by omega)]
    exact k4 k hk
-- plan rows don't matter to where the class stands
theorem n_SS.pl {i' e' : Nat} {le' : Bool} (Y : n_SS b L T p h0 i' e' le' h u) (e17 : h' 17 = h 17) (e18 : h' 18 = h 18) (e1 : ∀ r, r ≠ 17 → r ≠ 18 → ¬ (p ≤ r ∧ r ≤ p + 15) → h' r = h r) : n_SS b L T p h0 i' e' le' h' u := by
  obtain ⟨τ, W, s, ⟨g1, g2, g3, g4, g5, g6⟩, K, nx, U⟩ := Y
  exact ⟨τ, W, s, ⟨by rw [e17]; exact g1, by rw [e17]; exact g2, by rw [e17]; exact g3, by rw [e18]; exact g4, fun j hj => by rw [e18]; exact g5 j hj, fun r r1 r2 r3 => by rw [e1 r r1 r2 r3]; exact g6 r r1 r2 r3⟩, K, nx, U⟩
theorem n_SS.pl' (hp : p = 1 ∨ p = 24) {i' e' : Nat} {le' : Bool} (Y : n_SS b L T p h0 i' e' le' h u) (e1 : ∀ r, ¬ (p ≤ r ∧ r ≤ p + 15) → h' r = h r) : n_SS b L T p h0 i' e' le' h' u := Y.pl (e1 17 (by omega)) (e1 18 (by omega)) (fun r _ _ r3 => e1 r r3)
theorem n_vneg : ∀ t, t < 8 → ¬ nI t = -1 := by decide +kernel
theorem n_v0 : ∀ t, t < 8 → (0 : Int32) ≤ nI t := by decide +kernel
theorem n_oka {t v : Nat} (ht : t < 8) (hv : v < n_ob Z D F t) : p_oka Z D F (nI t) (nI v) := by
  have c : t = 0 ∨ t = 1 ∨ t = 2 ∨ t = 3 ∨ t = 4 ∨ t = 5 ∨ t = 6 ∨ t = 7 := by omega
  rcases c with rfl | rfl | rfl | rfl | rfl | rfl | rfl | rfl
  · exact Or.inl ⟨v, hv, rfl, Or.inl rfl⟩
  · exact Or.inl ⟨v, hv, rfl, Or.inr rfl⟩
  · exact Or.inr (Or.inl ⟨v, hv, rfl, Or.inl rfl⟩)
  · exact Or.inr (Or.inl ⟨v, hv, rfl, Or.inr rfl⟩)
  · exact Or.inr (Or.inr ⟨v, hv, rfl, Or.inl rfl⟩)
  · exact Or.inr (Or.inr ⟨v, hv, rfl, Or.inr (Or.inl rfl)⟩)
  · exact Or.inr (Or.inr ⟨v, hv, rfl, Or.inr (Or.inr (Or.inl rfl))⟩)
  · exact Or.inr (Or.inr ⟨v, hv, rfl, Or.inr (Or.inr (Or.inr rfl))⟩)
-- how many there are of what an action may name
theorem n_objs (hp : p = 1 ∨ p = 24) {q' : Nat → Int32} (hc : p_Pc Z D F R p h q') (h1 : h 17 1 = nI p) {t : Nat} (ht : t < 8) : f_re_objectsOf 17 (nI t) h = some (nI (n_ob Z D F t), h) := by
  obtain ⟨q1, q2⟩ := p_isPp hp
  have c : t = 0 ∨ t = 1 ∨ t = 2 ∨ t = 3 ∨ t = 4 ∨ t = 5 ∨ t = 6 ∨ t = 7 := by omega
  unfold f_re_objectsOf f_re_objectsOf_L9 f_re_objectsOf_L27 f_re_objectsOf_L44
  rw [h1, q1]
  simp only [s_true]
  rw [q2]
  rcases c with rfl | rfl | rfl | rfl | rfl | rfl | rfl | rfl
  · rw [if_pos (show nI 0 = 0 from rfl)]
    refine w_lt ?_
    rw [hc.2.2.1]
    rfl
  · rw [if_neg (show ¬ nI 1 = 0 by decide), if_pos (show nI 1 = 1 from rfl)]
    refine w_lt ?_
    rw [hc.2.2.1]
    rfl
  · rw [if_neg (show ¬ nI 2 = 0 by decide), if_neg (show ¬ nI 2 = 1 by decide), if_pos (show nI 2 = 2 from rfl)]
    refine w_lt ?_
    rw [hc.2.2.2.2.1]
    rfl
  · rw [if_neg (show ¬ nI 3 = 0 by decide), if_neg (show ¬ nI 3 = 1 by decide), if_neg (show ¬ nI 3 = 2 by decide), if_pos (show nI 3 = 3 from rfl)]
    refine w_lt ?_
    rw [hc.2.2.2.2.1]
    rfl
  · rw [if_neg (show ¬ nI 4 = 0 by decide), if_neg (show ¬ nI 4 = 1 by decide), if_neg (show ¬ nI 4 = 2 by decide), if_neg (show ¬ nI 4 = 3 by decide)]
    refine w_lt ?_
    rw [hc.1]
    rfl
  · rw [if_neg (show ¬ nI 5 = 0 by decide), if_neg (show ¬ nI 5 = 1 by decide), if_neg (show ¬ nI 5 = 2 by decide), if_neg (show ¬ nI 5 = 3 by decide)]
    refine w_lt ?_
    rw [hc.1]
    rfl
  · rw [if_neg (show ¬ nI 6 = 0 by decide), if_neg (show ¬ nI 6 = 1 by decide), if_neg (show ¬ nI 6 = 2 by decide), if_neg (show ¬ nI 6 = 3 by decide)]
    refine w_lt ?_
    rw [hc.1]
    rfl
  · rw [if_neg (show ¬ nI 7 = 0 by decide), if_neg (show ¬ nI 7 = 1 by decide), if_neg (show ¬ nI 7 = 2 by decide), if_neg (show ¬ nI 7 = 3 by decide)]
    refine w_lt ?_
    rw [hc.1]
    rfl
-- the reference reads the number of an action
theorem n_L74 {a2 s0 : Int32} {X : Nat} (hs : sm_inb s0 1268 = true) (hq : q s0.toNatClampNeg = nI X) {u' : Nat → Int32} : (f_mo_readNumber 114 0 (nI X - 1) (n_rr g u q w) = some (0, n_rr g u' q w) → f_mo_readAction_L74 114 a2 s0 116 0 114 (n_rr g u q w) = some (0, n_rr g u' q w)) ∧ (f_mo_readNumber 114 0 (nI X - 1) (n_rr g u q w) = some (1, n_rr g u' q w) → q 7 = nI A → A < 96 → f_mo_readAction_L74 114 a2 s0 116 0 114 (n_rr g u q w) = some (1, n_rr g u' (n_qa q A a2 (u' 14)) w)) := by
  constructor
  · intro hn
    unfold f_mo_readAction_L74
    rw [hs, s_true, n_r116, hq]
    refine w_b2 hn ?_
    rw [if_pos rfl]
  · intro hn h7 hA
    unfold f_mo_readAction_L74
    rw [hs, s_true, n_r116, hq]
    refine w_b2 hn ?_
    rw [if_neg (show ¬ (1 : Int32) = 0 by decide), s_i7, s_c7, show (114 + 2 : Nat) = 116 from rfl, n_r116, h7]
    refine w_lt ?_
    rw [show (1076 : Int32) + 2 * nI A = nI (1076 + 2 * A) by rw [show (2 : Int32) = nI 2 from rfl, show (1076 : Int32) = nI 1076 from rfl, nI_mul, nI_add], sm_gd_t (sm_inb_nI (k := 1076 + 2 * A) (n := 1268) (by omega) (by omega)), nI_clamp (n := 1076 + 2 * A) (by omega)]
    refine w_lt ?_
    rw [nI_1, sm_gd_t (sm_inb_nI (k := 1076 + 2 * A + 1) (n := 1268) (by omega) (by omega)), nI_clamp (n := 1076 + 2 * A + 1) (by omega), n_u116, n_r114]
    refine w_lt ?_
    rw [s_i7, s_i7, n_u116]
    refine w_lt ?_
    rw [n_r116, p_ud_off (show ¬ 7 = 1076 + 2 * A + 1 by omega), p_ud_off (show ¬ 7 = 1076 + 2 * A by omega), h7, nI_1, n_u116, show 1076 + 2 * A + 1 = 1077 + 2 * A by omega]
    rfl
-- and an action behind its verb
theorem n_raV (hc : p_Pc Z D F R p h q) {t : Nat} (ht : t < 8) (hj : ¬ nI j = 8) {g1 : sm_H} {u1 u2 u' : Nat → Int32} (e1 : f_mo_seesWord 114 g1 = some (1, n_rr g u1 q w)) (e2 : f_mo_actionHere 114 (n_rr g u1 q w) = some (nI t, n_rr g u1 q w)) (e3 : f_mo_passWord 114 (n_rr g u1 q w) = some (n_rr g u2 q w)) : (f_mo_readNumber 114 0 (nI (n_ob Z D F t) - 1) (n_rr g u2 q w) = some (0, n_rr g u' q w) → f_mo_readAction 114 (nI j) g1 = some (0, n_rr g u' q w)) ∧ (f_mo_readNumber 114 0 (nI (n_ob Z D F t) - 1) (n_rr g u2 q w) = some (1, n_rr g u' q w) → q 7 = nI A → A < 96 → f_mo_readAction 114 (nI j) g1 = some (1, n_rr g u' (n_qa q A (nI t) (u' 14)) w)) := by
  have P : ∃ s0 : Int32, sm_inb s0 1268 = true ∧ q s0.toNatClampNeg = nI (n_ob Z D F t) ∧ f_mo_readAction 114 (nI j) g1 = f_mo_readAction_L74 114 (nI t) s0 116 0 114 (n_rr g u2 q w) := by
    have Q : f_mo_readAction 114 (nI j) g1 = if 1 < nI t then (if 3 < nI t then (f_mo_readAction_L74 114 (nI t) 0 116 0 114 (n_rr g u2 q w)) else (f_mo_readAction_L74 114 (nI t) 2 116 0 114 (n_rr g u2 q w))) else (f_mo_readAction_L74 114 (nI t) 1 116 0 114 (n_rr g u2 q w)) := by
      unfold f_mo_readAction
      refine w_b2 e1 ?_
      rw [if_neg (show ¬ (1 : Int32) = 0 by decide)]
      refine w_b2 e2 ?_
      rw [if_neg (n_vneg t ht), if_neg hj]
      exact w_bd e3 rfl
    rw [Q]
    have c : t = 0 ∨ t = 1 ∨ t = 2 ∨ t = 3 ∨ t = 4 ∨ t = 5 ∨ t = 6 ∨ t = 7 := by omega
    rcases c with rfl | rfl | rfl | rfl | rfl | rfl | rfl | rfl
    · exact ⟨1, by decide, by rw [s_c1]; exact hc.2.2.2.1, by rw [if_neg (show ¬ (1 : Int32) < nI 0 by decide)]⟩
    · exact ⟨1, by decide, by rw [s_c1]; exact hc.2.2.2.1, by rw [if_neg (show ¬ (1 : Int32) < nI 1 by decide)]⟩
    · exact ⟨2, by decide, by rw [s_c2]; exact hc.2.2.2.2.2.1, by rw [if_pos (show (1 : Int32) < nI 2 by decide), if_neg (show ¬ (3 : Int32) < nI 2 by decide)]⟩
    · exact ⟨2, by decide, by rw [s_c2]; exact hc.2.2.2.2.2.1, by rw [if_pos (show (1 : Int32) < nI 3 by decide), if_neg (show ¬ (3 : Int32) < nI 3 by decide)]⟩
    · exact ⟨0, by decide, by rw [s_c0]; exact hc.2.1, by rw [if_pos (show (1 : Int32) < nI 4 by decide), if_pos (show (3 : Int32) < nI 4 by decide)]⟩
    · exact ⟨0, by decide, by rw [s_c0]; exact hc.2.1, by rw [if_pos (show (1 : Int32) < nI 5 by decide), if_pos (show (3 : Int32) < nI 5 by decide)]⟩
    · exact ⟨0, by decide, by rw [s_c0]; exact hc.2.1, by rw [if_pos (show (1 : Int32) < nI 6 by decide), if_pos (show (3 : Int32) < nI 6 by decide)]⟩
    · exact ⟨0, by decide, by rw [s_c0]; exact hc.2.1, by rw [if_pos (show (1 : Int32) < nI 7 by decide), if_pos (show (3 : Int32) < nI 7 by decide)]⟩
  obtain ⟨s0, p1, p2, p3⟩ := P
  obtain ⟨l1, l2⟩ := n_L74 (g := g) (u := u2) (q := q) (w := w) (A := A) (a2 := nI t) p1 p2 (u' := u')
  rw [p3]
  exact ⟨l1, l2⟩
theorem n_obL (C : p_CT Z D F R) (t : Nat) : n_ob Z D F t < 2 ^ 30 := by
  obtain ⟨c1, c2, c3, c4, c5⟩ := C
  unfold n_ob
  split
  · omega
  · split <;> omega
theorem n_act (B : n_B0 b L T p h0) (RB : n_RB b L g) (Y : n_SS b L T p h0 i e le h u) (C : n_AS Z D F R N Kc A0 A p K h q) (hj : j ≤ 8) (hA : j < 8 → A < 96) : ∃ h', f_re_action 17 (nI j) h = some h' ∧ ((∃ u' q' i' e', f_mo_readAction 114 (nI j) (n_rr g u q w) = some (1, n_rr g u' q' w) ∧ n_uf u u' ∧ i < i' ∧ e + 1 ≤ e' ∧ n_SS b L T p h0 i' e' true h' u' ∧ n_AS Z D F R N Kc A0 (A + 1) p K h' q' ∧ j < 8 ∧ h' 17 = h 17) ∨ ∃ u' q', f_mo_readAction 114 (nI j) (n_rr g u q w) = some (0, n_rr g u' q' w) ∧ n_bad p h0 h' u u') := by
  have hp := B.2.2.2.2
  obtain ⟨q1, q2⟩ := p_isPp hp
  obtain ⟨τ, W, s, Y⟩ := Y
  obtain ⟨G, Kt, nx, U⟩ := id Y
  have hes : e ≤ s := Kt.1
  obtain ⟨t1, t2⟩ := n_verbHere B G Kt
  have hc := C.1.2.1
  have n1 : ¬ (1 : Int32) = 0 := by decide
  by_cases ht : τ = 1
  · obtain ⟨u1, s1, s2, s3, s4, s5, s6⟩ := n_see (g := g) (q := q) (w := w) RB Y ht
    obtain ⟨k1, k2⟩ := n_actionHere (g := g) (u := u1) (q := q) (w := w) s6
    by_cases hW : ∃ t, t < 8 ∧ W = n_kw (n_vk t)
    · obtain ⟨t, t8, hW⟩ := hW
      have c1 := t1 t t8 ⟨ht, hW⟩
      have r1 := k1 t t8 hW
      by_cases hj8 : j = 8
      · obtain ⟨h', f1, f2⟩ := n_fail B G Kt C.KA (c := 3) (by decide) (by decide)
        obtain ⟨v1, v2⟩ := n_fails (g := g) (q := q) (w := w) (c := 3) s5
        refine ⟨h', ?_, Or.inr ⟨_, q, ?_, 3, s, f2, s2.ub v2⟩⟩
        · unfold f_re_action
          refine w_b2 c1 ?_
          rw [if_pos (n_v0 t t8), hj8, if_neg (show ¬ nI 8 < 8 by decide)]
          exact w_bd f1 rfl
        · unfold f_mo_readAction
          refine w_b2 s1 ?_
          rw [if_neg n1]
          refine w_b2 r1 ?_
          rw [if_neg (n_vneg t t8), hj8, if_pos (show nI 8 = 8 from rfl), n_r114]
          exact w_b2 v1 rfl
      · have hjl : j < 8 := by omega
        have hj2 : ¬ nI j = 8 := fun z => hj8 ((nI_eq (b := 8) (by omega) (by decide)).mp z)
        obtain ⟨u2, x1, x2, x3, x4, x5⟩ := n_psw (g := g) (q := q) (w := w) B RB s3 ht s4
        have hT := (Kt.2.2.2.2.2.2.2.1 (by rw [ht]; decide)).2
        obtain ⟨a1, a2⟩ := n_adv B G hT
        have C1 := C.at7 hp (nI (i + 1))
        have P : f_re_action 17 (nI j) h = sm_b2 (f_re_needNumber 17 0 (nI (n_ob Z D F t) - 1) (sm_up h 18 7 (nI (i + 1)))) (fun r11 g12 => sm_gd (sm_isP (g12 17 1)) <| sm_let (sm_p (g12 17 1)) fun p17 => Option.bind (f_ru_addAction (p17 + 9) (nI t) r11 g12) fun g19 => some g19) := by
          unfold f_re_action
          refine w_b2 c1 ?_
          rw [if_pos (n_v0 t t8), if_pos (show nI j < 8 from nI_lt (b := 8) hjl (by decide))]
          refine w_bd a1 ?_
          exact w_b2 (n_objs hp C1.1.2.1 a2.1 t8) rfl
        rw [P]
        rcases n_num (g := g) (q := q) (w := w) B RB x5 C1.KA 0 (nI (n_ob Z D F t) - 1) with ⟨u3, v, e', v1, v2, v3, v4, v5, v6, v7, v8, v9, va, vb⟩ | ⟨h', u3, v1, v2, v3⟩
        · have C2 := C1.at7 hp (nI (i + 1 + 1))
          obtain ⟨h', y1, y2, y3, y4, y5, y6, y7⟩ := n_cact hp C2.2.1.2.2.2.2.1 (hA hjl) (nI t) (nI v)
          have vl := n_le_pred (n_obL C.1.1 t) (by omega) v7
          obtain ⟨-, l2⟩ := n_raV (A := A) (u' := u3) hc t8 hj2 s1 r1 x1
          have e17 : h' 17 = sm_up (sm_up h 18 7 (nI (i + 1))) 18 7 (nI (i + 1 + 1)) 17 := y7 17 (by omega) (by omega) (by omega)
          refine ⟨h', ?_, Or.inl ⟨u3, _, i + 1 + 1, e', l2 v2 C.2.1.2.2.2.2.2.1 (hA hjl), (s2.trans x2).trans v3, by omega, by omega, vb.pl' hp (fun r hr => y7 r (by omega) (by omega) (by omega)), ?_, hjl, ?_⟩⟩
          · refine w_b2 v1 ?_
            rw [show sm_up (sm_up h 18 7 (nI (i + 1))) 18 7 (nI (i + 1 + 1)) 17 1 = nI p by rw [sm_up_ne _ _ _ _ _ (by decide), sm_up_ne _ _ _ _ _ (by decide)]; exact G.1, q1, s_true, q2]
            refine w_lt ?_
            exact w_bd y1 rfl
          · rw [v4]
            exact C2.add (hA hjl) (n_oka t8 vl) y2 y3 y4 y5 y6 y7
          · rw [e17, sm_up_ne _ _ _ _ _ (by decide), sm_up_ne _ _ _ _ _ (by decide)]
        · obtain ⟨c, s', z1, z2⟩ := v3
          obtain ⟨h'', y1, y2⟩ := n_addActionE hp z1 (nI t) 0
          obtain ⟨l1, -⟩ := n_raV (A := A) (u' := u3) hc t8 hj2 s1 r1 x1
          refine ⟨h'', ?_, Or.inr ⟨u3, q, l1 v2, c, s', y2, (s2.trans x2).ub z2⟩⟩
          refine w_b2 v1 ?_
          rw [z1.2.1, q1, s_true, q2]
          refine w_lt ?_
          exact w_bd y1 rfl
    · obtain ⟨h', f1, f2⟩ := n_fail B G Kt C.KA (c := 1) (by decide) (by decide)
      obtain ⟨v1, v2⟩ := n_fails (g := g) (q := q) (w := w) (c := 1) s5
      refine ⟨h', ?_, Or.inr ⟨_, q, ?_, 1, s, f2, s2.ub v2⟩⟩
      · unfold f_re_action
        refine w_b2 (t2 (fun t h8 z => hW ⟨t, h8, z.2⟩)) ?_
        rw [if_neg (show ¬ (0 : Int32) ≤ -1 by decide)]
        exact w_bd f1 rfl
      · unfold f_mo_readAction
        refine w_b2 s1 ?_
        rw [if_neg n1]
        refine w_b2 (k2 (fun t h8 z => hW ⟨t, h8, z⟩)) ?_
        rw [if_pos rfl, n_r114]
        exact w_b2 v1 rfl
  · obtain ⟨h', f1, f2⟩ := n_fail B G Kt C.KA (c := 1) (by decide) (by decide)
    obtain ⟨u1, p1, p2⟩ := n_see0 (q := q) (w := w) RB Y ht
    refine ⟨h', ?_, Or.inr ⟨u1, q, ?_, 1, s, f2, p2⟩⟩
    · unfold f_re_action
      refine w_b2 (t2 (fun t h8 z => ht z.1)) ?_
      rw [if_neg (show ¬ (0 : Int32) ≤ -1 by decide)]
      exact w_bd f1 rfl
    · unfold f_mo_readAction
      refine w_b2 p1 ?_
      rw [if_pos rfl]
end n_act
