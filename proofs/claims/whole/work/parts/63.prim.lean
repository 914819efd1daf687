-- LOAD: THE CLASS LOOKS AT A TOKEN
def n_kw (a : Nat) : List Nat := (sm_sb.getD a []).map (fun x => x.toNatClampNeg)
theorem n_kw_ok {a : Nat} (ha : a < 28) : sm_sln a = (n_kw a).length ∧ 1 ≤ (n_kw a).length ∧ (n_kw a).length ≤ 8 ∧ ∀ k, k < (n_kw a).length → sm_sch a k = nI ((n_kw a).getD k 0) ∧ n_ty ((n_kw a).getD k 0) = 1 := by
  have g : ((List.range 28).all fun a => sm_sln a == (n_kw a).length && (decide (1 ≤ (n_kw a).length) && (decide ((n_kw a).length ≤ 8) && (List.range (n_kw a).length).all fun k => sm_sch a k == nI ((n_kw a).getD k 0) && n_ty ((n_kw a).getD k 0) == 1))) = true := by decide +kernel
  have := List.all_eq_true.mp g a (List.mem_range.mpr ha)
  rw [Bool.and_eq_true, Bool.and_eq_true, Bool.and_eq_true] at this
  obtain ⟨g1, g2, g3, g4⟩ := this
  refine ⟨eq_of_beq g1, of_decide_eq_true g2, of_decide_eq_true g3, fun k hk => ?_⟩
  have := List.all_eq_true.mp g4 k (List.mem_range.mpr hk)
  rw [Bool.and_eq_true] at this
  exact ⟨eq_of_beq this.1, eq_of_beq this.2⟩
def n_B0 (b : Nat → Nat) (L T p : Nat) (h0 : sm_H) : Prop := L ≤ 900 ∧ T ≤ 901 ∧ n_CU b L h0 ∧ h0 18 6 = nI T ∧ (p = 1 ∨ p = 24)
def n_G (p : Nat) (h0 : sm_H) (i : Nat) (h : sm_H) : Prop := h 17 1 = nI p ∧ h 17 2 = 0 ∧ h 17 3 = -1 ∧ h 18 7 = nI i ∧ (∀ j, j ≠ 7 → h 18 j = h0 18 j) ∧ ∀ r, r ≠ 17 → r ≠ 18 → ¬ (p ≤ r ∧ r ≤ p + 15) → h r = h0 r
abbrev n_TK (b : Nat → Nat) (L T : Nat) (h0 : sm_H) (i e : Nat) (le : Bool) (τ : Nat) (W : List Nat) (s : Nat) : Prop := n_T1 b L T (h0 20) (h0 21) (h0 22) (h0 23) i e le τ W s
-- the class after an error
def n_E (p : Nat) (h0 : sm_H) (c s : Nat) (h : sm_H) : Prop := (∃ i, i < 901 ∧ h 18 7 = nI i ∧ h 20 i = 4) ∧ h 17 1 = nI p ∧ (1 ≤ c ∧ c ≤ 3 ∧ h 17 2 = nI c) ∧ h 17 3 = nI s ∧ (∀ j, j ≠ 7 → h 18 j = h0 18 j) ∧ (∀ r, r ≠ 17 → r ≠ 18 → r ≠ 20 → ¬ (p ≤ r ∧ r ≤ p + 15) → h r = h0 r) ∧ (∃ K, K ≤ 300 ∧ h (p + 9) 1 = nI K) ∧ ∃ A, A ≤ 96 ∧ h (p + 9) 2 = nI A
section n_prim
variable {b : Nat → Nat} {L T p i e : Nat} {h0 h : sm_H} {le : Bool} {τ s c : Nat} {W : List Nat}
theorem n_G.row (B : n_B0 b L T p h0) (G : n_G p h0 i h) : h 19 = h0 19 ∧ h 20 = h0 20 ∧ h 21 = h0 21 ∧ h 22 = h0 22 ∧ h 23 = h0 23 := by
  have hp := B.2.2.2.2
  obtain ⟨-, -, -, -, -, g⟩ := G
  exact ⟨g 19 (by omega) (by omega) (by omega), g 20 (by omega) (by omega) (by omega), g 21 (by omega) (by omega) (by omega), g 22 (by omega) (by omega) (by omega), g 23 (by omega) (by omega) (by omega)⟩
theorem n_tk_lt (B : n_B0 b L T p h0) (K : n_TK b L T h0 i e le τ W s) : i < 901 := by
  obtain ⟨-, b2, -⟩ := B
  obtain ⟨-, -, -, -, -, -, k7, k8, -⟩ := K
  by_cases z : τ = 0
  · have := k7 z; omega
  · have := k8 (by omega); omega
theorem n_isWord_loop {a : Nat} (ha : a < 28) (hh : ∀ j, j < (n_kw a).length → b (s + j) < 256 ∧ h 19 (s + j) = n_by (b (s + j))) (hs : s + (n_kw a).length ≤ 900) : ∀ n k, (n_kw a).length - k < n → k ≤ (n_kw a).length → (∀ j, j < k → b (s + j) = (n_kw a).getD j 0) → f_te_isWord_L43 n 18 a (nI s) (nI k) h = some (sm_b2i (decide (∀ j, j < (n_kw a).length → b (s + j) = (n_kw a).getD j 0)), h) := by
  obtain ⟨w1, w2, w3, w4⟩ := n_kw_ok ha
  intro n
  induction n with
  | zero => intro k k1; omega
  | succ n ih =>
    intro k k1 k2 k3
    show (if nI (sm_sln a) ≤ nI k then _ else _) = _
    rw [w1]
    by_cases y : k = (n_kw a).length
    · rw [if_pos (nI_le (by omega) (by omega)), decide_eq_true (fun j hj => k3 j (by omega))]
      rfl
    · obtain ⟨v1, v2⟩ := w4 k (by omega)
      have v3 := n_ty1.mp v2
      rw [if_neg (nI_ge (by omega) (by omega)), nI_add, if_neg (show ¬ (900 : Int32) ≤ nI (s + k) from nI_ge (b := 900) (by omega) (by omega)), sm_gd_t (sm_inb_nI (k := s + k) (n := 900) (by omega) (by omega)), sm_gd_t (sm_inb_nI (k := k) (n := (n_kw a).length) (by omega) (by omega)), nI_clamp (n := s + k) (by omega), nI_clamp (n := k) (by omega), v1, show h (18 + 1) (s + k) = n_by (b (s + k)) from (hh k (by omega)).2]
      by_cases z : b (s + k) = (n_kw a).getD k 0
      · rw [if_pos ((n_by_eq (hh k (by omega)).1 (by omega)).mpr z)]
        refine w_lt ?_
        rw [nI_1]
        exact ih (k + 1) (by omega) (by omega) (fun j hj => by
          by_cases x : j = k
          · rw [x]; exact z
          · exact k3 j (by omega))
      · rw [if_neg (fun x => z ((n_by_eq (hh k (by omega)).1 (by omega)).mp x)), decide_eq_false (fun x => z (x k (by omega)))]
        rfl
theorem n_list_eq {W V : List Nat} (f : Nat → Nat) (hl : W.length = V.length) (hw : ∀ k, k < W.length → W.getD k 0 = f k) : W = V ↔ ∀ j, j < V.length → f j = V.getD j 0 := by
  constructor
  · intro z j hj
    rw [← z]
    exact (hw j (by omega)).symm
  · intro z
    apply List.ext_getElem hl
    intro k h1 h2
    have e1 := hw k h1
    have e2 := z k h2
    rw [List.getD_eq_getElem?_getD, List.getElem?_eq_getElem h1] at e1
    rw [List.getD_eq_getElem?_getD, List.getElem?_eq_getElem h2] at e2
    exact e1.trans e2
theorem n_isWord (B : n_B0 b L T p h0) (G : n_G p h0 i h) (K : n_TK b L T h0 i e le τ W s) {a : Nat} (ha : a < 28) : f_te_isWord 18 a h = some (sm_b2i (decide (τ = 1 ∧ W = n_kw a)), h) := by
  obtain ⟨r1, r2, r3, r4, r5⟩ := G.row B
  have hi := n_tk_lt B K
  obtain ⟨w1, w2, w3, w4⟩ := n_kw_ok ha
  obtain ⟨k1, k2, k3, k4, k5, k6, k7, k8, k9, ka, kb, kc, kd⟩ := K
  unfold f_te_isWord
  have i1 : sm_inb (nI i) 901 = true := sm_inb_nI (k := i) (n := 901) (by omega) (by omega)
  rw [G.2.2.2.1, i1, s_true, nI_clamp (n := i) (by omega), show h (18 + 2) i = nI τ by rw [show h (18 + 2) = h0 20 from r2]; exact k5]
  by_cases z : τ = 1
  · rw [if_pos (show nI τ = 1 by rw [z]; rfl), s_true, show h (18 + 4) i = nI W.length by rw [show h (18 + 4) = h0 22 from r4]; exact ka z, w1]
    obtain ⟨u1, u2, u3, u4, u5⟩ := k9 (Or.inl z)
    have hL := B.1
    by_cases y : W.length = (n_kw a).length
    · rw [if_pos (by rw [y]), s_true]
      refine w_lt ?_
      rw [show h (18 + 3) i = nI s by rw [show h (18 + 3) = h0 21 from r3]; exact k4]
      have := n_isWord_loop (b := b) (h := h) (s := s) ha (fun j hj => ⟨(B.2.2.1 (s + j) (by omega)).1, by rw [r1]; exact (B.2.2.1 (s + j) (by omega)).2⟩) (by omega) sm_N 0 (by unfold sm_N; omega) (by omega) (fun j hj => absurd hj (by omega))
      refine this.trans ?_
      congr 3
      apply decide_eq_decide.mpr
      rw [n_list_eq (fun j => b (s + j)) y (fun k hk => (u3 k hk).1)]
      exact ⟨fun x => ⟨z, x⟩, fun x => x.2⟩
    · rw [if_neg (fun x => y ((nI_eq (by omega) (by omega)).mp x)), decide_eq_false (fun x => y (by rw [x.2]))]
      rfl
  · rw [if_neg (show ¬ nI τ = 1 from fun x => z ((nI_eq (b := 1) (Nat.lt_of_le_of_lt k6 (by decide)) (by decide)).mp x)), decide_eq_false (fun x => z x.1)]
    rfl
theorem n_isWordE (X : n_E p h0 c s h) (a : Nat) : f_te_isWord 18 a h = some (0, h) := by
  obtain ⟨⟨i, x1, x2, x3⟩, -⟩ := X
  unfold f_te_isWord
  rw [x2, sm_gd_t (sm_inb_nI (k := i) (n := 901) (by omega) (by omega)), nI_clamp (n := i) (by omega), show h (18 + 2) i = 4 from x3, if_neg (show ¬ (4 : Int32) = 1 by decide)]
theorem n_adv (B : n_B0 b L T p h0) (G : n_G p h0 i h) (hT : i + 1 < T) : f_te_advance 18 h = some (sm_up h 18 7 (nI (i + 1))) ∧ n_G p h0 (i + 1) (sm_up h 18 7 (nI (i + 1))) := by
  obtain ⟨b1, b2, b3, b4, b5⟩ := B
  obtain ⟨g1, g2, g3, g4, g5, g6⟩ := G
  constructor
  · unfold f_te_advance
    rw [g4, g5 6 (by omega), b4, show nI T - 1 = nI (T - 1) from nI_sub (b := 1) (by omega), if_neg (nI_ge (by omega) (by omega))]
    refine w_lt ?_
    rw [nI_1]
  · refine ⟨by rw [sm_up_off (by omega)]; exact g1, by rw [sm_up_off (by omega)]; exact g2, by rw [sm_up_off (by omega)]; exact g3, p_up_at, fun j hj => by rw [sm_up_off (by omega)]; exact g5 j hj, fun r r1 r2 r3 => by rw [sm_up_ne _ _ _ _ _ r2]; exact g6 r r1 r2 r3⟩
theorem n_takeWord (B : n_B0 b L T p h0) (G : n_G p h0 i h) (K : n_TK b L T h0 i e le τ W s) {a : Nat} (ha : a < 28) : f_re_takeWord 17 a h = if τ = 1 ∧ W = n_kw a then some (1, sm_up h 18 7 (nI (i + 1))) else some (0, h) := by
  unfold f_re_takeWord
  refine w_b2 (n_isWord B G K ha) ?_
  by_cases z : τ = 1 ∧ W = n_kw a
  · rw [if_pos z, decide_eq_true z, if_neg (show ¬ sm_b2i true = 0 by decide)]
    refine w_bd (n_adv B G (K.2.2.2.2.2.2.2.1 (by omega)).2).1 ?_
    rfl
  · rw [if_neg z, decide_eq_false z, if_pos (show sm_b2i false = 0 by decide)]
    rfl
theorem n_takeWordE (X : n_E p h0 c s h) (a : Nat) : f_re_takeWord 17 a h = some (0, h) := by
  unfold f_re_takeWord
  refine w_b2 (n_isWordE X a) ?_
  rfl
theorem n_isSign (B : n_B0 b L T p h0) (G : n_G p h0 i h) (K : n_TK b L T h0 i e le τ W s) {a : Nat} (ha : a < 128) : f_te_isSign 18 (nI a) h = some (sm_b2i (decide (τ = 3 ∧ W = [a])), h) := by
  obtain ⟨r1, r2, r3, r4, r5⟩ := G.row B
  have hi := n_tk_lt B K
  obtain ⟨k1, k2, k3, k4, k5, k6, k7, k8, k9, ka, kb, kc, kd⟩ := K
  unfold f_te_isSign
  have i1 : sm_inb (nI i) 901 = true := sm_inb_nI (k := i) (n := 901) (by omega) (by omega)
  rw [G.2.2.2.1, i1]
  simp only [s_true]
  rw [nI_clamp (n := i) (by omega), show h (18 + 2) i = nI τ by rw [show h (18 + 2) = h0 20 from r2]; exact k5]
  by_cases z : τ = 3
  · have hs := k8 (by omega)
    have hL := B.1
    obtain ⟨u1, u2⟩ := kc z
    have hb := B.2.2.1 s (by omega)
    rw [if_pos (show nI τ = 3 by rw [z]; rfl), show h (18 + 3) i = nI s by rw [show h (18 + 3) = h0 21 from r3]; exact k4, sm_gd_t (sm_inb_nI (k := s) (n := 900) (by omega) (by omega)), nI_clamp (n := s) (by omega), show h (18 + 1) s = n_by (b s) by rw [show h (18 + 1) = h0 19 from r1]; exact hb.2]
    by_cases y : b s = a
    · rw [if_pos ((n_by_eq hb.1 ha).mpr y), decide_eq_true ⟨z, by rw [u1, y]⟩]
      rfl
    · rw [if_neg (fun x => y ((n_by_eq hb.1 ha).mp x)), decide_eq_false (fun x => y (by have := x.2; rw [u1] at this; exact (List.cons.inj this).1))]
      rfl
  · rw [if_neg (show ¬ nI τ = 3 from fun x => z ((nI_eq (b := 3) (Nat.lt_of_le_of_lt k6 (by decide)) (by decide)).mp x)), decide_eq_false (fun x => z x.1)]
    rfl
theorem n_isSignE (X : n_E p h0 c s h) (a : Int32) : f_te_isSign 18 a h = some (0, h) := by
  obtain ⟨⟨i, x1, x2, x3⟩, -⟩ := X
  unfold f_te_isSign
  rw [x2, sm_gd_t (sm_inb_nI (k := i) (n := 901) (by omega) (by omega)), nI_clamp (n := i) (by omega), show h (18 + 2) i = 4 from x3, if_neg (show ¬ (4 : Int32) = 3 by decide)]
  rfl
theorem n_takeSign (B : n_B0 b L T p h0) (G : n_G p h0 i h) (K : n_TK b L T h0 i e le τ W s) {a : Nat} (ha : a < 128) : f_re_takeSign 17 (nI a) h = if τ = 3 ∧ W = [a] then some (1, sm_up h 18 7 (nI (i + 1))) else some (0, h) := by
  unfold f_re_takeSign
  refine w_b2 (n_isSign B G K ha) ?_
  by_cases z : τ = 3 ∧ W = [a]
  · rw [if_pos z, decide_eq_true z, if_neg (show ¬ sm_b2i true = 0 by decide)]
    refine w_bd (n_adv B G (K.2.2.2.2.2.2.2.1 (by omega)).2).1 ?_
    rfl
  · rw [if_neg z, decide_eq_false z, if_pos (show sm_b2i false = 0 by decide)]
    rfl
theorem n_takeSignE (X : n_E p h0 c s h) (a : Int32) : f_re_takeSign 17 a h = some (0, h) := by
  unfold f_re_takeSign
  refine w_b2 (n_isSignE X a) ?_
  rfl
-- the first error
def n_KA (p : Nat) (h : sm_H) : Prop := (∃ K, K ≤ 300 ∧ h (p + 9) 1 = nI K) ∧ ∃ A, A ≤ 96 ∧ h (p + 9) 2 = nI A
theorem n_fail (B : n_B0 b L T p h0) (G : n_G p h0 i h) (K : n_TK b L T h0 i e le τ W s) (P : n_KA p h) (c1 : 1 ≤ c) (c3 : c ≤ 3) : ∃ h', f_re_fail 17 (nI c) h = some h' ∧ n_E p h0 c s h' := by
  obtain ⟨r1, r2, r3, r4, r5⟩ := G.row B
  have hi := n_tk_lt B K
  have hp := B.2.2.2.2
  obtain ⟨g1, g2, g3, g4, g5, g6⟩ := G
  obtain ⟨-, -, -, k4, -⟩ := K
  have i1 : sm_inb (nI i) 901 = true := sm_inb_nI (k := i) (n := 901) (by omega) (by omega)
  refine ⟨sm_up (sm_up (sm_up h 17 2 (nI c)) 17 3 (nI s)) 20 i 4, ?_, ⟨i, hi, ?_, p_up_at⟩, ?_, ⟨c1, c3, ?_⟩, ?_, fun j hj => ?_, fun r x1 x2 x3 x4 => ?_, ?_, ?_⟩
  · unfold f_re_fail
    rw [if_pos g2]
    refine w_lt ?_
    rw [show sm_up h 17 2 (nI c) (17 + 1) 7 = nI i by rw [sm_up_off (by omega)]; exact g4, i1, s_true, nI_clamp (n := i) (by omega), show sm_up h 17 2 (nI c) (17 + 1 + 3) i = nI s by rw [sm_up_off (by omega), show h (17 + 1 + 3) = h0 21 from r3]; exact k4]
    refine w_lt ?_
    refine w_bd (v := sm_up (sm_up (sm_up h 17 2 (nI c)) 17 3 (nI s)) 20 i 4) ?_ rfl
    unfold f_te_stop
    rw [show sm_up (sm_up h 17 2 (nI c)) 17 3 (nI s) (17 + 1) 7 = nI i by rw [sm_up_off (by omega), sm_up_off (by omega)]; exact g4, i1, s_true, nI_clamp (n := i) (by omega)]
    rfl
  · rw [sm_up_off (by omega), sm_up_off (by omega), sm_up_off (by omega)]
    exact g4
  · rw [sm_up_off (by omega), sm_up_off (by omega), sm_up_off (by omega)]
    exact g1
  · rw [sm_up_off (by omega), sm_up_off (by omega), p_up_at]
  · rw [sm_up_off (by omega), p_up_at]
  · rw [sm_up_off (by omega), sm_up_off (by omega), sm_up_off (by omega)]
    exact g5 j hj
  · rw [sm_up_ne _ _ _ _ _ x3, sm_up_ne _ _ _ _ _ x1, sm_up_ne _ _ _ _ _ x1]
    exact g6 r x1 x2 x4
  · rw [sm_up_ne _ _ _ _ _ (by omega), sm_up_ne _ _ _ _ _ (by omega), sm_up_ne _ _ _ _ _ (by omega)]
    exact P.1
  · rw [sm_up_ne _ _ _ _ _ (by omega), sm_up_ne _ _ _ _ _ (by omega), sm_up_ne _ _ _ _ _ (by omega)]
    exact P.2
theorem n_failE (X : n_E p h0 c s h) (a : Int32) : f_re_fail 17 a h = some h := by
  obtain ⟨-, -, ⟨x1, x2, x3⟩, -⟩ := X
  unfold f_re_fail
  rw [x3, if_neg (nI_ne0 (by omega) (by omega))]
theorem n_needSign (B : n_B0 b L T p h0) (G : n_G p h0 i h) (K : n_TK b L T h0 i e le τ W s) (P : n_KA p h) {a : Nat} (ha : a < 128) : (τ = 3 ∧ W = [a] → f_re_needSign 17 (nI a) h = some (sm_up h 18 7 (nI (i + 1)))) ∧ (¬ (τ = 3 ∧ W = [a]) → ∃ h', f_re_needSign 17 (nI a) h = some h' ∧ n_E p h0 1 s h') := by
  have e := n_takeSign B G K ha
  constructor
  · intro z
    rw [if_pos z] at e
    unfold f_re_needSign
    refine w_b2 e ?_
    rfl
  · intro z
    rw [if_neg z] at e
    obtain ⟨h', f1, f2⟩ := n_fail B G K P (c := 1) (by omega) (by omega)
    refine ⟨h', ?_, f2⟩
    unfold f_re_needSign
    refine w_b2 e ?_
    exact w_bd f1 rfl
theorem n_needSignE (X : n_E p h0 c s h) (a : Int32) : f_re_needSign 17 a h = some h := by
  unfold f_re_needSign
  refine w_b2 (n_takeSignE X a) ?_
  exact w_bd (n_failE X 1) rfl
theorem n_needNumber (B : n_B0 b L T p h0) (G : n_G p h0 i h) (K : n_TK b L T h0 i e le τ W s) (P : n_KA p h) (lo hi : Int32) : (τ = 2 ∧ lo ≤ nI (n_dv b s W.length) ∧ nI (n_dv b s W.length) ≤ hi → f_re_needNumber 17 lo hi h = some (nI (n_dv b s W.length), sm_up h 18 7 (nI (i + 1)))) ∧ (¬ (τ = 2 ∧ lo ≤ nI (n_dv b s W.length) ∧ nI (n_dv b s W.length) ≤ hi) → ∃ h', f_re_needNumber 17 lo hi h = some (lo, h') ∧ n_E p h0 (if τ = 2 then 2 else 1) s h') := by
  obtain ⟨r1, r2, r3, r4, r5⟩ := G.row B
  have hi' := n_tk_lt B K
  have i1 : sm_inb (nI i) 901 = true := sm_inb_nI (k := i) (n := 901) (by omega) (by omega)
  have k5 := K.2.2.2.2.1
  have k8 := K.2.2.2.2.2.2.2.1
  have kb := K.2.2.2.2.2.2.2.2.2.2.1
  have k6 := K.2.2.2.2.2.1
  have S : f_re_needNumber 17 lo hi h = if τ = 2 then (if nI (n_dv b s W.length) < lo then f_re_needNumber_L52 17 lo h else if nI (n_dv b s W.length) ≤ hi then Option.bind (f_te_advance 18 h) (fun g => some (nI (n_dv b s W.length), g)) else f_re_needNumber_L52 17 lo h) else Option.bind (f_re_fail 17 1 h) (fun g => some (lo, g)) := by
    unfold f_re_needNumber
    rw [show h (17 + 1) 7 = nI i from G.2.2.2.1, i1]
    simp only [s_true]
    rw [nI_clamp (n := i) (by omega)]
    refine w_lt ?_
    rw [show h (17 + 1 + 2) i = nI τ by rw [show h (17 + 1 + 2) = h0 20 from r2]; exact k5]
    by_cases z : τ = 2
    · rw [if_pos z, if_pos (show nI τ = 2 by rw [z]; rfl), show h (17 + 1 + 5) i = nI (n_dv b s W.length) by rw [show h (17 + 1 + 5) = h0 23 from r5]; exact (kb z).2]
    · rw [if_neg z, if_neg (show ¬ nI τ = 2 from fun x => z ((nI_eq (b := 2) (Nat.lt_of_le_of_lt k6 (by decide)) (by decide)).mp x))]
  rw [S]
  constructor
  · rintro ⟨z, z1, z2⟩
    rw [if_pos z, if_neg (Int32.not_lt.mpr z1), if_pos z2]
    exact w_bd (n_adv B G (k8 (by omega)).2).1 rfl
  · intro z
    by_cases y : τ = 2
    · obtain ⟨h', f1, f2⟩ := n_fail B G K P (c := 2) (by omega) (by omega)
      have f3 : f_re_needNumber_L52 17 lo h = some (lo, h') := by
        unfold f_re_needNumber_L52
        exact w_bd f1 rfl
      refine ⟨h', ?_, by rw [if_pos y]; exact f2⟩
      rw [if_pos y]
      by_cases x : nI (n_dv b s W.length) < lo
      · rw [if_pos x, f3]
      · rw [if_neg x, if_neg (fun w => z ⟨y, Int32.not_lt.mp x, w⟩), f3]
    · obtain ⟨h', f1, f2⟩ := n_fail B G K P (c := 1) (by omega) (by omega)
      refine ⟨h', ?_, by rw [if_neg y]; exact f2⟩
      rw [if_neg y]
      exact w_bd f1 rfl
theorem n_needNumberE (X : n_E p h0 c s h) (lo hi : Int32) : f_re_needNumber 17 lo hi h = some (lo, h) := by
  have X' := X
  obtain ⟨⟨i, x1, x2, x3⟩, -⟩ := X
  have i1 : sm_inb (nI i) 901 = true := sm_inb_nI (k := i) (n := 901) (by omega) (by omega)
  unfold f_re_needNumber
  rw [show h (17 + 1) 7 = nI i from x2, i1]
  simp only [s_true]
  rw [nI_clamp (n := i) (by omega)]
  refine w_lt ?_
  rw [show h (17 + 1 + 2) i = 4 from x3, if_neg (show ¬ (4 : Int32) = 2 by decide)]
  exact w_bd (n_failE X' 1) rfl
end n_prim
