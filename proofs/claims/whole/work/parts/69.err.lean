-- LOAD: THE CLASS GOES ON AFTER AN ERROR
section n_err
variable {p c s : Nat} {h0 h : sm_H}
theorem n_addCodeE (hp : p = 1 ∨ p = 24) (X : n_E p h0 c s h) (o v : Int32) : ∃ h', f_ru_addCode (p + 9) o v h = some h' ∧ n_E p h0 c s h' := by
  obtain ⟨⟨i, x1, x2, x3⟩, x4, x5, x6, x7, x8, ⟨K, x9, xa⟩, A, xb, xc⟩ := id X
  by_cases z : K < 300
  · obtain ⟨h', e1, e2, e3, e4, e5, e6, e7⟩ := n_cadd hp xa z o v
    refine ⟨h', e1, ⟨i, x1, by rw [e7 18 (by omega) (by omega) (by omega)]; exact x2, by rw [e7 20 (by omega) (by omega) (by omega)]; exact x3⟩, by rw [e7 17 (by omega) (by omega) (by omega)]; exact x4, by rw [e7 17 (by omega) (by omega) (by omega)]; exact x5, by rw [e7 17 (by omega) (by omega) (by omega)]; exact x6, fun j hj => by rw [e7 18 (by omega) (by omega) (by omega)]; exact x7 j hj, fun r r1 r2 r3 r4 => by rw [e7 r (by omega) (by omega) (by omega)]; exact x8 r r1 r2 r3 r4, ⟨K + 1, by omega, e2⟩, A, xb, by rw [e5 2 (by omega)]; exact xc⟩
  · refine ⟨h, ?_, X⟩
    unfold f_ru_addCode
    rw [xa, if_pos (show (300 : Int32) ≤ nI K from nI_le (a := 300) (by omega) (by omega))]
theorem n_testHereE (X : n_E p h0 c s h) : f_re_testHere 17 h = some (-1, h) := by
  unfold f_re_testHere
  refine w_b2 (n_isWordE X 12) ?_
  rw [if_pos rfl]
  refine w_b2 (n_isWordE X 13) ?_
  rw [if_pos rfl]
  refine w_b2 (n_isWordE X 14) ?_
  rw [if_pos rfl]
  refine w_b2 (n_isWordE X 15) ?_
  rw [if_pos rfl]
  refine w_b2 (n_isWordE X 16) ?_
  rw [if_pos rfl]
  refine w_b2 (n_isWordE X 17) ?_
  rw [if_pos rfl]
  rfl
theorem n_verbHereE (X : n_E p h0 c s h) : f_re_verbHere 17 h = some (-1, h) := by
  unfold f_re_verbHere
  refine w_b2 (n_isWordE X 4) ?_
  rw [if_pos rfl]
  refine w_b2 (n_isWordE X 21) ?_
  rw [if_pos rfl]
  refine w_b2 (n_isWordE X 22) ?_
  rw [if_pos rfl]
  refine w_b2 (n_isWordE X 23) ?_
  rw [if_pos rfl]
  refine w_b2 (n_isWordE X 24) ?_
  rw [if_pos rfl]
  refine w_b2 (n_isWordE X 25) ?_
  rw [if_pos rfl]
  refine w_b2 (n_isWordE X 26) ?_
  rw [if_pos rfl]
  refine w_b2 (n_isWordE X 27) ?_
  rw [if_pos rfl]
  rfl
theorem n_testE (X : n_E p h0 c s h) (f : Nat) (d : Int32) : sm_test (f + 1) 17 d h = some h := by
  show f_re_test (f_re_condition (fun _ _ _ => none) (sm_test f)) (sm_test f) 17 d h = some h
  unfold f_re_test
  refine w_b2 (n_isWordE X 11) ?_
  rw [if_pos rfl]
  refine w_b2 (n_isSignE X 40) ?_
  rw [if_pos rfl]
  unfold f_re_test_L29
  refine w_b2 (n_testHereE X) ?_
  rw [if_pos rfl]
  unfold f_re_test_L53
  refine w_b2 (n_takeWordE X 11) ?_
  rw [if_pos rfl]
  refine w_b2 (n_takeSignE X 40) ?_
  rw [if_pos rfl, if_neg (show ¬ (0 : Int32) ≤ -1 by decide)]
  exact w_bd (n_failE X 1) rfl
theorem n_L4stop (A : Nat → Int32 → sm_H → Option sm_H) (T : Nat → Int32 → sm_H → Option sm_H) (n : Nat) (d a3 : Int32) (h : sm_H) : f_re_condition_L4 A T (n + 1) 17 d 0 a3 h = some h := by
  show (if 900 ≤ a3 then some h else if (0 : Int32) = 0 then some h else _) = some h
  by_cases z : (900 : Int32) ≤ a3
  · rw [if_pos z]
  · rw [if_neg z, if_pos rfl]
theorem n_L64E (hp : p = 1 ∨ p = 24) (X : n_E p h0 c s h) (A : Nat → Int32 → sm_H → Option sm_H) (T : Nat → Int32 → sm_H → Option sm_H) (n : Nat) (d a3 : Int32) : ∃ h', f_re_condition_L64 A T (f_re_condition_L4 A T (n + 1)) 17 d a3 h = some h' ∧ n_E p h0 c s h' := by
  obtain ⟨q1, q2⟩ := p_isPp hp
  have F : ∀ g, n_E p h0 c s g → f_re_condition_L81 A T (f_re_condition_L4 A T (n + 1)) 17 d a3 g = some g := by
    intro g Y
    unfold f_re_condition_L81
    refine w_b2 (n_takeWordE Y 19) ?_
    refine w_lt ?_
    exact n_L4stop A T n d _ g
  unfold f_re_condition_L64
  by_cases z : a3 ≤ 0
  · rw [if_pos z]
    exact ⟨h, F h X, X⟩
  · rw [if_neg z, X.2.1, q1, s_true, q2]
    obtain ⟨h', e1, e2⟩ := n_addCodeE hp X 8 0
    refine ⟨h', ?_, e2⟩
    refine w_lt ?_
    exact w_bd e1 (F h' e2)
theorem n_L23E (hp : p = 1 ∨ p = 24) (X : n_E p h0 c s h) (A : Nat → Int32 → sm_H → Option sm_H) (T : Nat → Int32 → sm_H → Option sm_H) (n m : Nat) (d a3 a4 : Int32) : ∃ h', f_re_condition_L23 A T (f_re_condition_L4 A T (n + 1)) (m + 1) 17 d a3 a4 h = some h' ∧ n_E p h0 c s h' := by
  obtain ⟨h', e1, e2⟩ := n_L64E hp X A T n d a3
  refine ⟨h', ?_, e2⟩
  show (if 900 ≤ a4 then f_re_condition_L64 A T (f_re_condition_L4 A T (n + 1)) 17 d a3 h else _) = some h'
  by_cases z : (900 : Int32) ≤ a4
  · rw [if_pos z]
    exact e1
  · rw [if_neg z]
    refine w_b2 (n_takeWordE X 18) ?_
    rw [if_pos rfl]
    exact e1
theorem n_addActionE (hp : p = 1 ∨ p = 24) (X : n_E p h0 c s h) (o v : Int32) : ∃ h', f_ru_addAction (p + 9) o v h = some h' ∧ n_E p h0 c s h' := by
  obtain ⟨⟨i, x1, x2, x3⟩, x4, x5, x6, x7, x8, ⟨K, x9, xa⟩, A, xb, xc⟩ := id X
  by_cases z : A < 96
  · refine ⟨sm_up (sm_up (sm_up h (p + 13) A o) (p + 14) A v) (p + 9) 2 (nI (A + 1)), ?_, ?_⟩
    · unfold f_ru_addAction
      rw [xc, if_neg (show ¬ (96 : Int32) ≤ nI A from nI_ge (b := 96) z (by omega)), sm_gd_t (sm_inb_nI (k := A) (n := 96) z (by omega)), nI_clamp (n := A) (by omega)]
      refine w_lt ?_
      rw [show sm_up h (p + 9 + 4) A o (p + 9) 2 = nI A by rw [sm_up_off (by omega)]; exact xc, sm_gd_t (sm_inb_nI (k := A) (n := 96) z (by omega)), nI_clamp (n := A) (by omega)]
      refine w_lt ?_
      rw [show sm_up (sm_up h (p + 9 + 4) A o) (p + 9 + 5) A v (p + 9) 2 = nI A by rw [sm_up_off (by omega), sm_up_off (by omega)]; exact xc, nI_1]
      rfl
    · have e7 : ∀ r, r ≠ p + 9 → r ≠ p + 13 → r ≠ p + 14 → sm_up (sm_up (sm_up h (p + 13) A o) (p + 14) A v) (p + 9) 2 (nI (A + 1)) r = h r := fun r r1 r2 r3 => by rw [sm_up_ne _ _ _ _ _ r1, sm_up_ne _ _ _ _ _ r3, sm_up_ne _ _ _ _ _ r2]
      refine ⟨⟨i, x1, by rw [e7 18 (by omega) (by omega) (by omega)]; exact x2, by rw [e7 20 (by omega) (by omega) (by omega)]; exact x3⟩, by rw [e7 17 (by omega) (by omega) (by omega)]; exact x4, by rw [e7 17 (by omega) (by omega) (by omega)]; exact x5, by rw [e7 17 (by omega) (by omega) (by omega)]; exact x6, fun j hj => by rw [e7 18 (by omega) (by omega) (by omega)]; exact x7 j hj, fun r r1 r2 r3 r4 => by rw [e7 r (by omega) (by omega) (by omega)]; exact x8 r r1 r2 r3 r4, ⟨K, x9, ?_⟩, A + 1, by omega, p_up_at⟩
      rw [sm_up_off (by omega), sm_up_off (by omega), sm_up_off (by omega)]
      exact xa
  · refine ⟨h, ?_, X⟩
    unfold f_ru_addAction
    rw [xc, if_pos (show (96 : Int32) ≤ nI A from nI_le (a := 96) (by omega) (by omega))]
theorem n_actionE (X : n_E p h0 c s h) (a1 : Int32) : f_re_action 17 a1 h = some h := by
  unfold f_re_action
  refine w_b2 (n_verbHereE X) ?_
  rw [if_neg (show ¬ (0 : Int32) ≤ -1 by decide)]
  exact w_bd (n_failE X 1) rfl
theorem n_L52E (X : n_E p h0 c s h) : f_re_ruleItem_L52 17 h = some h := by
  obtain ⟨-, -, ⟨x1, x2, x3⟩, -⟩ := X
  unfold f_re_ruleItem_L52
  rw [x3, if_neg (nI_ne0 (by omega) (by omega))]
theorem n_L26E (X : n_E p h0 c s h) (n : Nat) (a1 : Int32) : f_re_ruleItem_L26 (n + 1) 17 a1 h = some h := by
  show (if 8 < a1 then f_re_ruleItem_L52 17 h else _) = some h
  by_cases z : (8 : Int32) < a1
  · rw [if_pos z]
    exact n_L52E X
  · rw [if_neg z]
    refine w_b2 (n_takeSignE X 44) ?_
    rw [if_pos rfl]
    exact n_L52E X
theorem n_L19E (X : n_E p h0 c s h) : f_re_ruleItem_L19 17 h = some h := by
  unfold f_re_ruleItem_L19
  refine w_bd (n_actionE X 0) ?_
  exact n_L26E X 19999 1
theorem n_L216E (X : n_E p h0 c s h) : f_re_item_L216 17 h = some h := by
  unfold f_re_item_L216
  exact w_bd (n_needSignE X 59) rfl
theorem n_takeItemE (X : n_E p h0 c s h) (a : Nat) (v m : Int32) : f_re_takeItem 17 a v m h = some (0, h) := by
  unfold f_re_takeItem
  refine w_b2 (n_isWordE X a) ?_
  rw [if_pos rfl]
  rfl
theorem n_expectsE (X : n_E p h0 c s h) : f_re_expectsItem 17 h = some (0, h) := by
  obtain ⟨-, -, ⟨x1, x2, x3⟩, -⟩ := X
  unfold f_re_expectsItem
  rw [x3, if_neg (nI_ne0 (by omega) (by omega))]
  rfl
end n_err
