-- LOAD: THE PLAN WHILE IT IS READ
def n_em (D F : Nat) (q : Nat → Int32) : Prop := (∀ d, D ≤ d → d < 16 → q (13 + 4 * d) = 0) ∧ ∀ f, F ≤ f → f < 6 → q (77 + 4 * f) = 0
def n_PA (Z D F R p : Nat) (h : sm_H) (q : Nat → Int32) : Prop := p_CT Z D F R ∧ p_Pc Z D F R p h q ∧ p_Pd Z D p h q ∧ p_Pf D F p h q ∧ p_Pr Z R p h q ∧ n_em D F q
def n_PU (Z F R N Kc Ac p : Nat) (h : sm_H) (q : Nat → Int32) : Prop := ∃ C B : Nat → Nat, C 0 = 0 ∧ B 0 = 0 ∧ C N = Kc ∧ B N = Ac ∧ ∀ r, r < N → C r ≤ C (r + 1) ∧ C (r + 1) ≤ Kc ∧ B r ≤ B (r + 1) ∧ B (r + 1) ≤ Ac ∧ q (128 + 4 * r) = nI (C r) ∧ q (129 + 4 * r) = nI (C (r + 1)) ∧ q (130 + 4 * r) = nI (B r) ∧ q (131 + 4 * r) = nI (B (r + 1)) ∧ h (p + 12) r = nI (C (r + 1)) ∧ h (p + 15) r = nI (B (r + 1)) ∧ p_wf Z R F (fun k => (h (p + 10) k, h (p + 11) k)) (C r) (C (r + 1))
-- actions, and how many rules, codes and actions there are
def n_PN (Z D F N A p : Nat) (h : sm_H) (q : Nat → Int32) : Prop := N ≤ 12 ∧ A ≤ 96 ∧ h (p + 9) 0 = nI N ∧ q 4 = nI N ∧ h (p + 9) 2 = nI A ∧ q 7 = nI A ∧ ∀ a, a < A → h (p + 13) a = q (1076 + 2 * a) ∧ h (p + 14) a = q (1077 + 2 * a) ∧ p_oka Z D F (h (p + 13) a) (h (p + 14) a)
-- codes: the class may be ahead by X
def n_PK (K : Nat) (X : List Nat) (p : Nat) (h : sm_H) (q : Nat → Int32) : Prop := K + X.length ≤ 300 ∧ h (p + 9) 1 = nI (K + X.length) ∧ q 8 = nI K ∧ (∀ k, k < K → h (p + 10) k = q (176 + 2 * k) ∧ h (p + 11) k = q (177 + 2 * k)) ∧ ∀ j, j < X.length → h (p + 10) (K + j) = nI (X.getD j 0) ∧ h (p + 11) (K + j) = 0
-- the heights of the codes of one rule, from its first on
def n_wq (Z R F : Nat) (q : Nat → Int32) (i j n : Nat) : Prop := ∃ H : Nat → Nat, H i = 0 ∧ H j = n ∧ ∀ k, i ≤ k → k < j → H k ≤ 40 ∧ ((p_okc Z R F (q (176 + 2 * k)) (q (177 + 2 * k)) ∧ H (k + 1) = H k + 1) ∨ (q (176 + 2 * k) = 6 ∧ 1 ≤ H k ∧ H (k + 1) = H k) ∨ ((q (176 + 2 * k) = 7 ∨ q (176 + 2 * k) = 8) ∧ 2 ≤ H k ∧ H (k + 1) + 1 = H k))
section n_plan
variable {Z D F R N K A p i n : Nat} {h h' : sm_H} {q q' u w : Nat → Int32} {X : List Nat} {g : sm_H}
theorem n_wq.start : n_wq Z R F q i i 0 := ⟨fun _ => 0, rfl, rfl, fun k a b => absurd a (by omega)⟩
theorem n_wq.push (Q : n_wq Z R F q i K n) (hi : i ≤ K) (e : ∀ k, k < K → q' (176 + 2 * k) = q (176 + 2 * k) ∧ q' (177 + 2 * k) = q (177 + 2 * k)) (m : Nat) (hn : n ≤ 40) (s : (p_okc Z R F (q' (176 + 2 * K)) (q' (177 + 2 * K)) ∧ m = n + 1) ∨ (q' (176 + 2 * K) = 6 ∧ 1 ≤ n ∧ m = n) ∨ ((q' (176 + 2 * K) = 7 ∨ q' (176 + 2 * K) = 8) ∧ 2 ≤ n ∧ m + 1 = n)) : n_wq Z R F q' i (K + 1) m := by
  obtain ⟨H, H0, H1, H2⟩ := Q
  refine ⟨fun k => if k = K + 1 then m else H k, ?_, ?_, fun k k1 k2 => ?_⟩
  · show (if i = K + 1 then m else H i) = 0
    rw [if_neg (by omega)]
    exact H0
  · show (if K + 1 = K + 1 then m else H (K + 1)) = m
    rw [if_pos rfl]
  · show (if k = K + 1 then m else H k) ≤ 40 ∧ ((_ ∧ (if k + 1 = K + 1 then m else H (k + 1)) = (if k = K + 1 then m else H k) + 1) ∨ (_ ∧ 1 ≤ (if k = K + 1 then m else H k) ∧ (if k + 1 = K + 1 then m else H (k + 1)) = (if k = K + 1 then m else H k)) ∨ (_ ∧ 2 ≤ (if k = K + 1 then m else H k) ∧ (if k + 1 = K + 1 then m else H (k + 1)) + 1 = (if k = K + 1 then m else H k)))
    rw [if_neg (show ¬ k = K + 1 by omega)]
    by_cases z : k = K
    · subst z
      rw [if_pos rfl, H1]
      exact ⟨hn, s⟩
    · rw [if_neg (show ¬ k + 1 = K + 1 by omega), (e k (by omega)).1, (e k (by omega)).2]
      exact H2 k k1 (by omega)
theorem n_wq.keep (Q : n_wq Z R F q i K n) (e : ∀ k, k < K → q' (176 + 2 * k) = q (176 + 2 * k) ∧ q' (177 + 2 * k) = q (177 + 2 * k)) : n_wq Z R F q' i K n := by
  obtain ⟨H, H0, H1, H2⟩ := Q
  refine ⟨H, H0, H1, fun k k1 k2 => ?_⟩
  rw [(e k k2).1, (e k k2).2]
  exact H2 k k1 k2
theorem n_wq.wf (Q : n_wq Z R F q i K 1) (e : ∀ k, k < K → h (p + 10) k = q (176 + 2 * k) ∧ h (p + 11) k = q (177 + 2 * k)) : p_wf Z R F (fun k => (h (p + 10) k, h (p + 11) k)) i K := by
  obtain ⟨H, H0, H1, H2⟩ := Q
  refine ⟨H, H0, H1, fun k k1 k2 => ?_⟩
  show H k ≤ 40 ∧ ((p_okc Z R F (h (p + 10) k) (h (p + 11) k) ∧ _) ∨ (h (p + 10) k = 6 ∧ _) ∨ ((h (p + 10) k = 7 ∨ h (p + 10) k = 8) ∧ _))
  rw [(e k k2).1, (e k k2).2]
  exact H2 k k1 k2
theorem n_PA.keep (P : n_PA Z D F R p h q) (e : ∀ o, o ≤ 8 → h' (p + o) = h (p + o)) (eq : ∀ k, k < 128 → k ≠ 4 → k ≠ 7 → k ≠ 8 → q' k = q k) : n_PA Z D F R p h' q' := by
  obtain ⟨a1, a2, a3, a4, a5, a6, a7⟩ := P
  obtain ⟨c1, c2, c3, c4, c5⟩ := a1
  have e0 : h' p = h p := e 0 (by omega)
  refine ⟨⟨c1, c2, c3, c4, c5⟩, ?_, fun d hd => ?_, fun f hf => ?_, fun r hr => ?_, fun d d1 d2 => ?_, fun f f1 f2 => ?_⟩
  · unfold p_Pc at a2 ⊢
    rw [e0, eq 0 (by omega) (by omega) (by omega) (by omega), eq 1 (by omega) (by omega) (by omega) (by omega), eq 2 (by omega) (by omega) (by omega) (by omega), eq 3 (by omega) (by omega) (by omega) (by omega), eq 5 (by omega) (by omega) (by omega) (by omega), eq 6 (by omega) (by omega) (by omega) (by omega)]
    exact a2
  · have := a3 d hd
    rw [e0, e 1 (by omega), e 2 (by omega), e 3 (by omega), eq (10 + 4 * d) (by omega) (by omega) (by omega) (by omega), eq (11 + 4 * d) (by omega) (by omega) (by omega) (by omega), eq (12 + 4 * d) (by omega) (by omega) (by omega) (by omega), eq (13 + 4 * d) (by omega) (by omega) (by omega) (by omega)]
    exact this
  · have := a4 f hf
    rw [e 1 (by omega), e 2 (by omega), e 4 (by omega), e 5 (by omega), eq (74 + 4 * f) (by omega) (by omega) (by omega) (by omega), eq (75 + 4 * f) (by omega) (by omega) (by omega) (by omega), eq (76 + 4 * f) (by omega) (by omega) (by omega) (by omega), eq (77 + 4 * f) (by omega) (by omega) (by omega) (by omega)]
    exact this
  · have := a5 r hr
    rw [e 6 (by omega), e 7 (by omega), e 8 (by omega), eq (98 + 3 * r) (by omega) (by omega) (by omega) (by omega), eq (99 + 3 * r) (by omega) (by omega) (by omega) (by omega), eq (100 + 3 * r) (by omega) (by omega) (by omega) (by omega)]
    exact this
  · rw [eq (13 + 4 * d) (by omega) (by omega) (by omega) (by omega)]
    exact a6 d d1 d2
  · rw [eq (77 + 4 * f) (by omega) (by omega) (by omega) (by omega)]
    exact a7 f f1 f2
theorem n_PU.keep {Kc Ac : Nat} (P : n_PU Z F R N Kc Ac p h q) (e : h' (p + 12) = h (p + 12) ∧ h' (p + 15) = h (p + 15)) (ec : ∀ k, k < Kc → h' (p + 10) k = h (p + 10) k ∧ h' (p + 11) k = h (p + 11) k) (eq : ∀ k, 128 ≤ k → k < 128 + 4 * N → q' k = q k) : n_PU Z F R N Kc Ac p h' q' := by
  obtain ⟨C, B, c1, c2, c3, c4, c5⟩ := P
  refine ⟨C, B, c1, c2, c3, c4, fun r hr => ?_⟩
  obtain ⟨d1, d2, d3, d4, d5, d6, d7, d8, d9, da, H, H0, H1, H2⟩ := c5 r hr
  rw [e.1, e.2, eq (128 + 4 * r) (by omega) (by omega), eq (129 + 4 * r) (by omega) (by omega), eq (130 + 4 * r) (by omega) (by omega), eq (131 + 4 * r) (by omega) (by omega)]
  refine ⟨d1, d2, d3, d4, d5, d6, d7, d8, d9, da, H, H0, H1, fun k k1 k2 => ?_⟩
  show H k ≤ 40 ∧ ((p_okc Z R F (h' (p + 10) k) (h' (p + 11) k) ∧ _) ∨ (h' (p + 10) k = 6 ∧ _) ∨ ((h' (p + 10) k = 7 ∨ h' (p + 10) k = 8) ∧ _))
  rw [(ec k (by omega)).1, (ec k (by omega)).2]
  exact H2 k k1 k2
theorem n_PN.keep (P : n_PN Z D F N A p h q) (e : h' (p + 13) = h (p + 13) ∧ h' (p + 14) = h (p + 14)) (e9 : h' (p + 9) 0 = h (p + 9) 0 ∧ h' (p + 9) 2 = h (p + 9) 2) (eq : q' 4 = q 4 ∧ q' 7 = q 7) (eq2 : ∀ k, 1076 ≤ k → k < 1268 → q' k = q k) : n_PN Z D F N A p h' q' := by
  obtain ⟨c1, c2, c3, c4, c5, c6, c7⟩ := P
  refine ⟨c1, c2, by rw [e9.1]; exact c3, by rw [eq.1]; exact c4, by rw [e9.2]; exact c5, by rw [eq.2]; exact c6, fun a ha => ?_⟩
  rw [e.1, e.2, eq2 (1076 + 2 * a) (by omega) (by omega), eq2 (1077 + 2 * a) (by omega) (by omega)]
  exact c7 a ha
theorem n_PN.KA (P : n_PN Z D F N A p h q) (Q : n_PK K X p h q) : n_KA p h := ⟨⟨_, Q.1, Q.2.1⟩, A, P.2.1, P.2.2.2.2.1⟩
-- the class adds a code
theorem n_cadd (hp : p = 1 ∨ p = 24) (Q : h (p + 9) 1 = nI K) (hK : K < 300) (o v : Int32) : ∃ h', f_ru_addCode (p + 9) o v h = some h' ∧ h' (p + 9) 1 = nI (K + 1) ∧ h' (p + 10) K = o ∧ h' (p + 11) K = v ∧ (∀ k, k ≠ 1 → h' (p + 9) k = h (p + 9) k) ∧ (∀ k, k ≠ K → h' (p + 10) k = h (p + 10) k ∧ h' (p + 11) k = h (p + 11) k) ∧ ∀ r, r ≠ p + 9 → r ≠ p + 10 → r ≠ p + 11 → h' r = h r := by
  refine ⟨sm_up (sm_up (sm_up h (p + 10) K o) (p + 11) K v) (p + 9) 1 (nI (K + 1)), ?_, p_up_at, ?_, ?_, fun k hk => ?_, fun k hk => ⟨?_, ?_⟩, fun r r1 r2 r3 => ?_⟩
  · unfold f_ru_addCode
    rw [Q, if_neg (show ¬ (300 : Int32) ≤ nI K from nI_ge (b := 300) hK (by omega)), sm_gd_t (sm_inb_nI (k := K) (n := 300) hK (by omega)), nI_clamp (n := K) (by omega)]
    refine w_lt ?_
    rw [show sm_up h (p + 9 + 1) K o (p + 9) 1 = nI K by rw [sm_up_off (by omega)]; exact Q, sm_gd_t (sm_inb_nI (k := K) (n := 300) hK (by omega)), nI_clamp (n := K) (by omega)]
    refine w_lt ?_
    rw [show sm_up (sm_up h (p + 9 + 1) K o) (p + 9 + 2) K v (p + 9) 1 = nI K by rw [sm_up_off (by omega), sm_up_off (by omega)]; exact Q, nI_1]
    rfl
  · rw [sm_up_off (by omega), sm_up_off (by omega), p_up_at]
  · rw [sm_up_off (by omega), p_up_at]
  · rw [sm_up_off (by omega), sm_up_off (by omega), sm_up_off (by omega)]
  · rw [sm_up_off (by omega), sm_up_off (by omega), sm_up_off (by omega)]
  · rw [sm_up_off (by omega), sm_up_off (by omega), sm_up_off (by omega)]
  · rw [sm_up_ne _ _ _ _ _ r1, sm_up_ne _ _ _ _ _ r3, sm_up_ne _ _ _ _ _ r2]
-- the reference adds one
theorem n_radd (Q : q 8 = nI K) (hK : K < 300) (o v : Int32) : f_mo_emit 114 o v (n_rr g u q w) = some (n_rr g u (upd (upd (upd q (176 + 2 * K) o) (177 + 2 * K) v) 8 (nI (K + 1))) w) := by
  unfold f_mo_emit
  rw [s_i8, s_c8, show (114 + 2 : Nat) = 116 from rfl, n_r116, Q]
  refine w_lt ?_
  rw [show (176 : Int32) + 2 * nI K = nI (176 + 2 * K) by rw [show (2 : Int32) = nI 2 from rfl, show (176 : Int32) = nI 176 from rfl, nI_mul, nI_add], sm_gd_t (sm_inb_nI (k := 176 + 2 * K) (n := 1268) (by omega) (by omega)), nI_clamp (n := 176 + 2 * K) (by omega)]
  refine w_lt ?_
  rw [nI_1, sm_gd_t (sm_inb_nI (k := 176 + 2 * K + 1) (n := 1268) (by omega) (by omega)), nI_clamp (n := 176 + 2 * K + 1) (by omega), n_u116]
  refine w_lt ?_
  rw [s_i8, s_i8, n_u116]
  refine w_lt ?_
  rw [n_r116, p_ud_off (show ¬ 8 = 176 + 2 * K + 1 by omega), p_ud_off (show ¬ 8 = 176 + 2 * K by omega), Q, nI_1, n_u116, show 176 + 2 * K + 1 = 177 + 2 * K by omega]
end n_plan
