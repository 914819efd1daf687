-- LOAD: BEHIND A TEST: closings, and, or, do
section n_closing
variable {b : Nat → Nat} {L T p i e s τ m n : Nat} {g h0 h : sm_H} {u q w : Nat → Int32} {le : Bool} {W S : List Nat}
-- no closing here
theorem n_l5no (RB : n_RB b L g) (Y : n_S b L T p h0 i e le τ W s h u) (r : n_R S u w) (hz : ¬ (τ = 3 ∧ W = [41] ∧ 9 ∈ S)) : ∃ u', n_P5 n (m + 1) (n_rr g u q w) = n_tail n (n_rr g u' q w) ∧ n_uf u u' ∧ n_S b L T p h0 i e le τ W s h u' := by
  obtain ⟨u1, p1, p2, p3, p4, p5, p6⟩ := n_peekS (q := q) (w := w) RB Y
  refine ⟨u1, ?_, p2, p3⟩
  have F : f_mo_passClosings_L5 (m + 1) 114 (n_rr g u q w) = some (n_rr g u1 q w) := by
    unfold f_mo_passClosings_L5
    refine w_b2 p1 ?_
    by_cases z : n_ba b L s = 41
    · obtain ⟨z1, z2⟩ := (p6 41 (by decide)).mp z
      rw [if_pos z]
      refine w_b2 (n_inside (g := g) (q := q) (p2.R r)) ?_
      rw [decide_eq_false (fun y => hz ⟨z1, z2, y⟩), if_pos (show sm_b2i false = 0 by decide)]
    · rw [if_neg z]
  unfold n_P5
  exact w_bd F rfl
theorem n_l5yes (B : n_B0 b L T p h0) (RB : n_RB b L g) (Y : n_S b L T p h0 i e le τ W s h u) (r : n_R S u w) (ht : τ = 3) (hW : W = [41]) (h9 : 9 ∈ S) : ∃ u', n_P5 n (m + 1) (n_rr g u q w) = Option.bind (f_mo_settle_L0 sm_N 114 (nI 1) (n_rr g u' q w)) (fun g11 => sm_let (sm_up g11 114 19 ((g11 114 19) - 1)) fun g13 => sm_let (sm_up g13 114 20 ((g13 114 20) - 1)) fun g15 => Option.bind (f_mo_passSign 114 g15) fun g17 => n_C n sm_N m g17) ∧ n_uf u u' ∧ n_S b L T p h0 i e le τ W s h u' ∧ u' 13 = nI s := by
  obtain ⟨u1, p1, p2, p3, p4, p5, p6⟩ := n_peekS (q := q) (w := w) RB Y
  refine ⟨u1, ?_, p2, p3, p5⟩
  have F : f_mo_passClosings_L5 (m + 1) 114 (n_rr g u q w) = Option.bind (f_mo_settle_L0 sm_N 114 (nI 1) (n_rr g u1 q w)) (fun g11 => sm_let (sm_up g11 114 19 ((g11 114 19) - 1)) fun g13 => sm_let (sm_up g13 114 20 ((g13 114 20) - 1)) fun g15 => Option.bind (f_mo_passSign 114 g15) fun g17 => Option.bind (f_mo_settle_L0 sm_N 114 (nI 3) g17) fun g19 => f_mo_passClosings_L5 m 114 g19) := by
    obtain ⟨Rr, hR⟩ : ∃ Rr : sm_H → Option sm_H, Rr = fun g19 => f_mo_passClosings_L5 m 114 g19 := ⟨_, rfl⟩
    rw [← hR]
    unfold f_mo_passClosings_L5
    refine w_b2 p1 ?_
    rw [if_pos (show n_ba b L s = 41 from (p6 41 (by decide)).mpr ⟨ht, hW⟩)]
    refine w_b2 (n_inside (g := g) (q := q) (p2.R r)) ?_
    rw [decide_eq_true h9, if_neg (show ¬ sm_b2i true = 0 by decide), hR]
    rfl
  unfold n_P5
  rw [F, n_bind2]
  congr 1
  funext g11
  unfold sm_let n_C
  rw [n_bind2]
  congr 1
  funext g17
  rw [n_bind2]
  rfl
-- no word here
theorem n_tail0 (RB : n_RB b L g) (Y : n_S b L T p h0 i e le τ W s h u) (ht : τ ≠ 1) : ∃ u', n_tail n (n_rr g u q w) = some (0, n_rr g u' q w) ∧ n_ub 1 s u u' := by
  obtain ⟨u1, p1, p2⟩ := n_see0 (q := q) (w := w) RB Y ht
  refine ⟨u1, ?_, p2⟩
  unfold n_tail
  refine w_b2 p1 ?_
  rw [if_pos rfl]
-- and, or
theorem n_tailJ (B : n_B0 b L T p h0) (RB : n_RB b L g) (Y : n_S b L T p h0 i e le τ W s h u) (ht : τ = 1) (o : Nat) (ho : (o = 7 ∧ W = n_kw 18) ∨ (o = 8 ∧ W = n_kw 19)) : ∃ u', n_tail n (n_rr g u q w) = Option.bind (f_mo_settle_L0 sm_N 114 (nI (n_sg o)) (n_rr g u' q w)) (fun g38 => Option.bind (f_mo_push 114 (nI o) g38) fun g41 => f_mo_readCondition_L10 n 114 g41) ∧ n_uf u u' ∧ n_SS b L T p h0 (i + 1) (s + W.length) true (sm_up h 18 7 (nI (i + 1))) u' := by
  obtain ⟨-, -, -, -, k18, k19, -⟩ := n_kc_eq2
  obtain ⟨u1, p1, p2, p3, p4, p5, p6⟩ := n_see (q := q) (w := w) RB Y ht
  obtain ⟨u2, x1, x2, x3, x4, x5⟩ := n_psw (g := g) (q := q) (w := w) B RB p3 ht p4
  have n1 : ¬ (1 : Int32) = 0 := by decide
  refine ⟨u2, ?_, p2.trans x2, x5⟩
  have J : f_mo_readCondition_L61 (f_mo_readCondition_L10 n) 114 (n_rr g u1 q w) = Option.bind (f_mo_settle_L0 sm_N 114 (nI (n_sg o)) (n_rr g u2 q w)) (fun g38 => Option.bind (f_mo_push 114 (nI o) g38) fun g41 => f_mo_readCondition_L10 n 114 g41) := by
    unfold f_mo_readCondition_L61 f_mo_readCondition_L66
    rw [if_neg n1]
    unfold f_mo_readCondition_L99
    refine w_bd x1 ?_
    rw [n_r114, x3 17 (by decide) (by decide), x3 1017 (by decide) (by decide)]
    rcases ho with ⟨rfl, hW⟩ | ⟨rfl, hW⟩
    · rw [if_pos ((p6 18 (by decide) _ k18).mpr hW)]
      unfold f_mo_readCondition_L121
      rw [if_neg n1]
      refine w_b2 (n_strength (o := 7) (by decide) (by decide) _) ?_
      unfold f_mo_readCondition_L135
      simp only [if_neg n1]
      rfl
    · rw [if_neg (fun z => n_kw_ne (a := 19) (c := 18) (by decide) (by decide) (by decide) (hW.symm.trans ((p6 18 (by decide) _ k18).mp z)))]
      unfold f_mo_readCondition_L121
      rw [if_neg n1]
      refine w_b2 (n_strength (o := 8) (by decide) (by decide) _) ?_
      unfold f_mo_readCondition_L135
      simp only [if_neg n1]
      rfl
  unfold n_tail
  refine w_b2 p1 ?_
  rw [if_neg n1, n_r114]
  rcases ho with ⟨-, hW⟩ | ⟨-, hW⟩
  · rw [if_pos ((p6 18 (by decide) _ k18).mpr hW)]
    exact J
  · rw [if_neg (fun z => n_kw_ne (a := 19) (c := 18) (by decide) (by decide) (by decide) (hW.symm.trans ((p6 18 (by decide) _ k18).mp z))), if_pos ((p6 19 (by decide) _ k19).mpr hW)]
    exact J
-- do at the end, or an error
theorem n_tailE (B : n_B0 b L T p h0) (RB : n_RB b L g) (Y : n_S b L T p h0 i e le τ W s h u) (r : n_R S u w) (ht : τ = 1) (h18 : W ≠ n_kw 18) (h19 : W ≠ n_kw 19) : (W = n_kw 20 ∧ 9 ∉ S → ∃ u', n_tail n (n_rr g u q w) = Option.bind (f_mo_settle_L0 sm_N 114 (nI 1) (n_rr g u' q w)) (fun g38 => some (1, g38)) ∧ n_uf u u' ∧ n_SS b L T p h0 (i + 1) (s + W.length) true (sm_up h 18 7 (nI (i + 1))) u') ∧ (¬ (W = n_kw 20 ∧ 9 ∉ S) → ∃ u', n_tail n (n_rr g u q w) = some (0, n_rr g u' q w) ∧ n_ub 1 s u u') := by
  obtain ⟨-, -, -, -, k18, k19, k20, -⟩ := n_kc_eq2
  obtain ⟨u1, p1, p2, p3, p4, p5, p6⟩ := n_see (q := q) (w := w) RB Y ht
  have n1 : ¬ (1 : Int32) = 0 := by decide
  have T0 : n_tail n (n_rr g u q w) = f_mo_readCondition_L66 (f_mo_readCondition_L10 n) 114 0 (n_rr g u1 q w) := by
    unfold n_tail
    refine w_b2 p1 ?_
    rw [if_neg n1, n_r114, if_neg (fun z => h18 ((p6 18 (by decide) _ k18).mp z)), if_neg (fun z => h19 ((p6 19 (by decide) _ k19).mp z))]
  obtain ⟨f1, f2⟩ := n_fails (g := g) (q := q) (w := w) (c := 1) p5
  have E0 : f_mo_readCondition_L89 114 (n_rr g u1 q w) = some (0, n_rr g (upd (upd u1 15 (nI 1)) 16 (nI s)) q w) := by
    unfold f_mo_readCondition_L89
    rw [n_r114]
    exact w_b2 f1 rfl
  rw [T0]
  constructor
  · rintro ⟨z1, z2⟩
    obtain ⟨u2, x1, x2, x3, x4, x5⟩ := n_psw (g := g) (q := q) (w := w) B RB p3 ht p4
    refine ⟨u2, ?_, p2.trans x2, x5⟩
    unfold f_mo_readCondition_L66
    rw [if_pos rfl, n_r114, if_pos ((p6 20 (by decide) _ k20).mpr z1)]
    refine w_b2 (n_inside (g := g) (q := q) (p2.R r)) ?_
    rw [decide_eq_false z2, if_pos (show sm_b2i false = 0 by decide)]
    unfold f_mo_readCondition_L99
    refine w_bd x1 ?_
    rw [n_r114, x3 17 (by decide) (by decide), x3 1017 (by decide) (by decide), if_neg (fun z => h18 ((p6 18 (by decide) _ k18).mp z))]
    unfold f_mo_readCondition_L121
    rw [if_pos rfl]
    unfold f_mo_readCondition_L135
    simp only [if_pos]
    rfl
  · intro z
    refine ⟨_, ?_, p2.ub f2⟩
    unfold f_mo_readCondition_L66
    rw [if_pos rfl, n_r114]
    by_cases y : W = n_kw 20
    · rw [if_pos ((p6 20 (by decide) _ k20).mpr y)]
      refine w_b2 (n_inside (g := g) (q := q) (p2.R r)) ?_
      rw [decide_eq_true (Decidable.byContradiction (fun x => z ⟨y, x⟩)), if_neg (show ¬ sm_b2i true = 0 by decide)]
      exact E0
    · rw [if_neg (fun x => y ((p6 20 (by decide) _ k20).mp x))]
      exact E0
end n_closing
