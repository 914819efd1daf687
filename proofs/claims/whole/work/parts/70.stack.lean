-- LOAD: THE REFERENCE'S STACK
def n_stk : List Nat → (Nat → Int32) → Prop
  | [], _ => True
  | o :: S, w => w S.length = nI o ∧ n_stk S w
theorem n_stk.keep {S : List Nat} {w w' : Nat → Int32} (h : n_stk S w) (e : ∀ j, j < S.length → w' j = w j) : n_stk S w' := by
  induction S with
  | nil => trivial
  | cons o S ih =>
    exact ⟨by rw [e S.length (by rw [List.length_cons]; omega)]; exact h.1, ih h.2 (fun j hj => e j (by rw [List.length_cons]; omega))⟩
theorem n_stk.push {S : List Nat} {w : Nat → Int32} (h : n_stk S w) (o : Nat) : n_stk (o :: S) (upd w S.length (nI o)) := ⟨p_ud_at, h.keep (fun j hj => p_ud_off (by omega))⟩
def n_bin : List Nat → Nat
  | [] => 0
  | o :: S => (if o = 7 ∨ o = 8 then 1 else 0) + n_bin S
def n_nop : List Nat → Nat
  | [] => 0
  | o :: S => (if o = 9 then 0 else 1) + n_nop S
def n_dep : List Nat → Nat
  | [] => 0
  | o :: S => (if o = 6 ∨ o = 9 then 1 else 0) + n_dep S
def n_sg (o : Nat) : Nat := if o = 6 then 3 else if o = 7 then 2 else if o = 8 then 1 else 0
def n_R (S : List Nat) (u w : Nat → Int32) : Prop := u 19 = nI S.length ∧ u 20 = nI (n_dep S) ∧ n_stk S w ∧ S.length ≤ 30 ∧ ∀ o, o ∈ S → 6 ≤ o ∧ o ≤ 9
-- what reading a condition leaves alone
def n_uc (u u' : Nat → Int32) : Prop := ∀ k, k ≠ 10 → k ≠ 12 → k ≠ 13 → k ≠ 14 → k ≠ 17 → k ≠ 1017 → k ≠ 19 → k ≠ 20 → u' k = u k
theorem n_uc.refl (u : Nat → Int32) : n_uc u u := fun _ _ _ _ _ _ _ _ _ => rfl
theorem n_uc.trans {u u' u'' : Nat → Int32} (a : n_uc u u') (b : n_uc u' u'') : n_uc u u'' := fun k a1 a2 a3 a4 a5 a6 a7 a8 => (b k a1 a2 a3 a4 a5 a6 a7 a8).trans (a k a1 a2 a3 a4 a5 a6 a7 a8)
theorem n_uf.uc {u u' : Nat → Int32} (a : n_uf u u') : n_uc u u' := fun k a1 a2 a3 a4 a5 a6 _ _ => a k a1 a2 a3 a4 a5 a6
theorem n_uc.ub {u u' u'' : Nat → Int32} {c s : Nat} (a : n_uc u u') (b : n_ub c s u' u'') : n_ub c s u u'' := ⟨b.1, b.2.1, fun k hk => (b.2.2 k hk).trans (a k (by omega) (by omega) (by omega) (by omega) (by omega) (by omega) (by omega) (by omega))⟩
theorem n_uc.bad {p : Nat} {h0 h' : sm_H} {u u' u'' : Nat → Int32} (a : n_uc u u') (b : n_bad p h0 h' u' u'') : n_bad p h0 h' u u'' := by
  obtain ⟨c, s, b1, b2⟩ := b
  exact ⟨c, s, b1, a.ub b2⟩
theorem n_uf.R {S : List Nat} {u u' w : Nat → Int32} (a : n_uf u u') (r : n_R S u w) : n_R S u' w := ⟨by rw [a 19 (by decide) (by decide) (by decide) (by decide) (by decide) (by decide)]; exact r.1, by rw [a 20 (by decide) (by decide) (by decide) (by decide) (by decide) (by decide)]; exact r.2.1, r.2.2⟩
def n_qe (q : Nat → Int32) (K : Nat) (o v : Int32) : Nat → Int32 := upd (upd (upd q (176 + 2 * K) o) (177 + 2 * K) v) 8 (nI (K + 1))
section n_stack
variable {g : sm_H} {u q w : Nat → Int32} {S : List Nat} {K k o l : Nat}
theorem n_dep_le (S : List Nat) : n_dep S ≤ S.length ∧ n_nop S ≤ S.length ∧ n_bin S ≤ S.length := by
  induction S with
  | nil => exact ⟨Nat.le_refl _, Nat.le_refl _, Nat.le_refl _⟩
  | cons o S ih =>
    obtain ⟨i1, i2, i3⟩ := ih
    rw [List.length_cons]
    refine ⟨?_, ?_, ?_⟩
    · show (if o = 6 ∨ o = 9 then 1 else 0) + n_dep S ≤ _
      split <;> omega
    · show (if o = 9 then 0 else 1) + n_nop S ≤ _
      split <;> omega
    · show (if o = 7 ∨ o = 8 then 1 else 0) + n_bin S ≤ _
      split <;> omega
theorem n_strength (h6 : 6 ≤ o) (h9 : o ≤ 9) (h : sm_H) : f_mo_strength (nI o) h = some (nI (n_sg o), h) := by
  have t : o = 6 ∨ o = 7 ∨ o = 8 ∨ o = 9 := by omega
  rcases t with rfl | rfl | rfl | rfl <;> rfl
theorem n_set0 (r : n_R S u w) (hl : 1 ≤ l) (hl3 : l ≤ 3) (hs : S = [] ∨ ∃ o S', S = o :: S' ∧ n_sg o < l) : f_mo_settle_L0 (k + 1) 114 (nI l) (n_rr g u q w) = some (n_rr g u q w) := by
  obtain ⟨r1, r2, r3, r4, r5⟩ := r
  unfold f_mo_settle_L0
  rw [n_r114, r1]
  rcases hs with rfl | ⟨o, S', rfl, hs⟩
  · rw [if_pos (show nI ([] : List Nat).length ≤ 0 from nI_le (b := 0) (Nat.le_refl _) (by decide))]
  · rw [List.length_cons] at r4 ⊢
    have h69 := r5 o List.mem_cons_self
    rw [if_neg (show ¬ nI (S'.length + 1) ≤ 0 from nI_ge (a := 0) (by omega) (by omega)), nI_pred, sm_gd_t (sm_inb_nI (k := S'.length) (n := 450) (by omega) (by omega)), nI_clamp (n := S'.length) (by omega), show (114 + 7 : Nat) = 121 from rfl, n_r121, r3.1]
    refine w_b2 (n_strength h69.1 h69.2 _) ?_
    rw [if_pos (nI_lt hs (by omega))]
theorem n_set1 (r : n_R (o :: S) u w) (hl : 1 ≤ l) (hl3 : l ≤ 3) (hs : l ≤ n_sg o) (h8 : q 8 = nI K) (hK : K < 300) : ∃ u', f_mo_settle_L0 (k + 1) 114 (nI l) (n_rr g u q w) = f_mo_settle_L0 k 114 (nI l) (n_rr g u' (n_qe q K (nI o) 0) w) ∧ n_R S u' w ∧ n_uc u u' ∧ ∀ j, j ≠ 19 → j ≠ 20 → u' j = u j := by
  obtain ⟨r1, r2, r3, r4, r5⟩ := r
  have h69 := r5 o List.mem_cons_self
  rw [List.length_cons] at r1 r4
  have ho : o ≠ 9 := by
    intro z
    rw [z] at hs
    have : n_sg 9 = 0 := rfl
    omega
  have hsg : n_sg o ≤ 3 := by
    unfold n_sg
    split
    · omega
    · split
      · omega
      · split <;> omega
  have hd : u 20 = nI ((if o = 6 then 1 else 0) + n_dep S) := by
    rw [r2]
    show nI ((if o = 6 ∨ o = 9 then 1 else 0) + n_dep S) = _
    by_cases z : o = 6
    · rw [if_pos (Or.inl z), if_pos z]
    · rw [if_neg (by omega), if_neg z]
  refine ⟨upd (upd u 19 (nI S.length)) 20 (nI (n_dep S)), ?_, ⟨by rw [p_ud_off (by decide), p_ud_at], p_ud_at, r3.2, by omega, fun x hx => r5 x (List.mem_cons_of_mem _ hx)⟩, fun j a1 a2 a3 a4 a5 a6 a7 a8 => by rw [p_ud_off a8, p_ud_off a7], fun j a7 a8 => by rw [p_ud_off a8, p_ud_off a7]⟩
  have F : ∀ v, v = nI (n_dep S) → f_mo_settle_L77 (f_mo_settle_L0 k) 114 (nI l) v 114 (n_rr g (upd u 19 (nI S.length)) (n_qe q K (nI o) 0) w) = f_mo_settle_L0 k 114 (nI l) (n_rr g (upd (upd u 19 (nI S.length)) 20 (nI (n_dep S))) (n_qe q K (nI o) 0) w) := by
    intro v hv
    unfold f_mo_settle_L77
    refine w_lt ?_
    rw [n_u114, hv]
  obtain ⟨Rr, hR⟩ : ∃ Rr, Rr = f_mo_settle_L0 k 114 (nI l) (n_rr g (upd (upd u 19 (nI S.length)) 20 (nI (n_dep S))) (n_qe q K (nI o) 0) w) := ⟨_, rfl⟩
  rw [← hR] at F ⊢
  unfold f_mo_settle_L0
  rw [n_r114, r1, if_neg (show ¬ nI (S.length + 1) ≤ 0 from nI_ge (a := 0) (by omega) (by omega)), nI_pred, sm_gd_t (sm_inb_nI (k := S.length) (n := 450) (by omega) (by omega)), nI_clamp (n := S.length) (by omega), show (114 + 7 : Nat) = 121 from rfl, n_r121, r3.1]
  refine w_b2 (n_strength h69.1 h69.2 _) ?_
  rw [if_neg (show ¬ nI (n_sg o) < nI l from fun z => by
    have := Int32.lt_iff_toInt_lt.mp z
    rw [nI_toInt (by omega), nI_toInt (by omega)] at this
    omega)]
  refine w_lt ?_
  rw [n_r114, r1, nI_pred, n_u114, n_r114, p_ud_at, sm_gd_t (sm_inb_nI (k := S.length) (n := 450) (by omega) (by omega)), nI_clamp (n := S.length) (by omega), n_r121, r3.1]
  refine w_bd (n_radd h8 hK (nI o) 0) ?_
  rw [n_r114, p_ud_at, sm_gd_t (sm_inb_nI (k := S.length) (n := 450) (by omega) (by omega)), nI_clamp (n := S.length) (by omega), n_r121, r3.1, p_ud_off (show ¬ 20 = 19 by decide), hd]
  by_cases z : o = 6
  · rw [if_pos (show nI o = 6 by rw [z]; rfl)]
    refine F _ ?_
    rw [if_pos z, Nat.add_comm, nI_pred]
  · rw [if_neg (show ¬ nI o = 6 from fun y => z ((nI_eq (b := 6) (by omega) (by omega)).mp y))]
    refine F _ ?_
    rw [if_neg z, Nat.zero_add]
theorem n_inside (r : n_R S u w) : f_mo_isInside 114 (n_rr g u q w) = some (sm_b2i (decide (9 ∈ S)), n_rr g u q w) := by
  obtain ⟨r1, r2, r3, r4, r5⟩ := r
  -- the elements below i, counted from the bottom
  have D : ∀ n i, S.length - i < n → i ≤ S.length → (∀ j, j < i → w j ≠ nI 9) → f_mo_isInside_L2 n 114 (nI i) (n_rr g u q w) = some (sm_b2i (decide (∃ j, j < S.length ∧ w j = nI 9)), n_rr g u q w) := by
    intro n
    induction n with
    | zero => intro i a; omega
    | succ n ih =>
      intro i a1 a2 a3
      unfold f_mo_isInside_L2
      rw [n_r114, r1]
      by_cases y : i = S.length
      · rw [if_pos (nI_le (by omega) (by omega)), decide_eq_false (by
          rintro ⟨j, j1, j2⟩
          exact a3 j (by omega) j2)]
        rfl
      · rw [if_neg (nI_ge (by omega) (by omega)), sm_gd_t (sm_inb_nI (k := i) (n := 450) (by omega) (by omega)), nI_clamp (n := i) (by omega), show (114 + 7 : Nat) = 121 from rfl, n_r121]
        by_cases z : w i = nI 9
        · rw [if_pos (show w i = 9 from z), decide_eq_true ⟨i, by omega, z⟩]
          rfl
        · rw [if_neg (show ¬ w i = 9 from z)]
          refine w_lt ?_
          rw [nI_1]
          exact ih (i + 1) (by omega) (by omega) (fun j hj => by
            by_cases x : j = i
            · rw [x]; exact z
            · exact a3 j (by omega))
  have E : ∀ S : List Nat, n_stk S w → (∀ o, o ∈ S → 6 ≤ o ∧ o ≤ 9) → ((∃ j, j < S.length ∧ w j = nI 9) ↔ 9 ∈ S) := by
    intro S
    induction S with
    | nil =>
      intro _ _
      constructor
      · rintro ⟨j, j1, -⟩
        exact absurd j1 (Nat.not_lt_zero _)
      · intro z
        cases z
    | cons o S ih =>
      intro s1 s2
      have h69 := s2 o List.mem_cons_self
      have := ih s1.2 (fun x hx => s2 x (List.mem_cons_of_mem _ hx))
      rw [List.mem_cons, ← this]
      constructor
      · rintro ⟨j, j1, j2⟩
        rw [List.length_cons] at j1
        by_cases z : j = S.length
        · left
          rw [z, s1.1] at j2
          exact ((nI_eq (by omega) (by omega)).mp j2).symm
        · exact Or.inr ⟨j, by omega, j2⟩
      · rintro (z | ⟨j, j1, j2⟩)
        · exact ⟨S.length, by rw [List.length_cons]; omega, by rw [s1.1, ← z]⟩
        · exact ⟨j, by rw [List.length_cons]; omega, j2⟩
  have := D sm_N 0 (by unfold sm_N; omega) (Nat.zero_le _) (fun j hj => absurd hj (Nat.not_lt_zero _))
  unfold f_mo_isInside
  refine this.trans ?_
  congr 3
  exact decide_eq_decide.mpr (E S r3 r5)
theorem n_push (r : n_R S u w) (h6 : 6 ≤ o) (h9 : o ≤ 9) (hS : S.length < 30) : ∃ u1, f_mo_push 114 (nI o) (n_rr g u q w) = some (n_rr g u1 q (upd w S.length (nI o))) ∧ u1 19 = nI (S.length + 1) ∧ (∀ j, j ≠ 19 → u1 j = u j) ∧ n_stk (o :: S) (upd w S.length (nI o)) := by
  obtain ⟨r1, r2, r3, r4, r5⟩ := r
  refine ⟨upd u 19 (nI (S.length + 1)), ?_, p_ud_at, fun j hj => p_ud_off hj, r3.push o⟩
  unfold f_mo_push
  rw [n_r114, r1, sm_gd_t (sm_inb_nI (k := S.length) (n := 450) (by omega) (by omega)), nI_clamp (n := S.length) (by omega), show (114 + 7 : Nat) = 121 from rfl, n_u121]
  refine w_lt ?_
  rw [n_r114, r1, nI_1, n_u114]
  rfl
-- AND or OR is pushed
theorem n_pushB (r : n_R S u w) (ho : o = 7 ∨ o = 8) (hS : S.length < 30) : ∃ u' w', f_mo_push 114 (nI o) (n_rr g u q w) = some (n_rr g u' q w') ∧ n_R (o :: S) u' w' ∧ n_uc u u' ∧ ∀ j, j ≠ 19 → u' j = u j := by
  obtain ⟨u1, e1, e2, e3, e4⟩ := n_push (g := g) (q := q) (o := o) r (by omega) (by omega) hS
  refine ⟨u1, _, e1, ⟨by rw [List.length_cons]; exact e2, ?_, e4, by rw [List.length_cons]; omega, fun x hx => ?_⟩, fun j _ _ _ _ _ _ a7 _ => e3 j a7, e3⟩
  · rw [e3 20 (by decide), r.2.1]
    show _ = nI ((if o = 6 ∨ o = 9 then 1 else 0) + n_dep S)
    rw [if_neg (by omega), Nat.zero_add]
  · rcases List.mem_cons.mp hx with z | z
    · omega
    · exact r.2.2.2.2 x z
-- NOT or ( is opened
theorem n_opens (r : n_R S u w) (ho : o = 6 ∨ o = 9) (hS : S.length < 30) {s : Nat} (h13 : u 13 = nI s) : (n_dep S = 6 → ∃ u', f_mo_opens 114 (nI o) (n_rr g u q w) = some (0, n_rr g u' q w) ∧ n_ub 3 s u u') ∧ (n_dep S < 6 → ∃ u' w', f_mo_opens 114 (nI o) (n_rr g u q w) = some (1, n_rr g u' q w') ∧ n_R (o :: S) u' w' ∧ n_uc u u' ∧ ∀ j, j ≠ 19 → j ≠ 20 → u' j = u j) := by
  constructor
  · intro z
    obtain ⟨f1, f2⟩ := n_fails (g := g) (q := q) (w := w) (c := 3) h13
    refine ⟨_, ?_, f2⟩
    unfold f_mo_opens
    rw [n_r114, r.2.1, z, if_pos (show nI 6 = 6 from rfl)]
    exact w_b2 f1 rfl
  · intro z
    have r' : u 19 = nI S.length := r.1
    refine ⟨upd (upd u 20 (nI (n_dep S + 1))) 19 (nI (S.length + 1)), upd w S.length (nI o), ?_, ⟨by rw [p_ud_at, List.length_cons], ?_, r.2.2.1.push o, by rw [List.length_cons]; omega, fun x hx => ?_⟩, fun j _ _ _ _ _ _ a7 a8 => by rw [p_ud_off a7, p_ud_off a8], fun j a7 a8 => by rw [p_ud_off a7, p_ud_off a8]⟩
    · unfold f_mo_opens
      rw [n_r114, r.2.1, if_neg (show ¬ nI (n_dep S) = 6 from fun y => by
        have := (nI_eq (b := 6) (by omega) (by omega)).mp y
        omega)]
      refine w_lt ?_
      rw [nI_1, n_u114]
      refine w_bd (v := n_rr g (upd (upd u 20 (nI (n_dep S + 1))) 19 (nI (S.length + 1))) q (upd w S.length (nI o))) ?_ rfl
      unfold f_mo_push
      rw [n_r114, p_ud_off (show ¬ 19 = 20 by decide), r', sm_gd_t (sm_inb_nI (k := S.length) (n := 450) (by omega) (by omega)), nI_clamp (n := S.length) (by omega), show (114 + 7 : Nat) = 121 from rfl, n_u121]
      refine w_lt ?_
      rw [n_r114, p_ud_off (show ¬ 19 = 20 by decide), r', nI_1, n_u114]
      rfl
    · rw [p_ud_off (show ¬ 20 = 19 by decide), p_ud_at]
      show nI (n_dep S + 1) = nI ((if o = 6 ∨ o = 9 then 1 else 0) + n_dep S)
      rw [if_pos ho, Nat.add_comm]
    · rcases List.mem_cons.mp hx with y | y
      · omega
      · exact r.2.2.2.2 x y
end n_stack
