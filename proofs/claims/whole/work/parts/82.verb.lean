-- LOAD: ACTIONS: their words
def n_vk (t : Nat) : Nat := if t = 0 then 4 else 20 + t
section n_verb
variable {b : Nat → Nat} {L T p i e s τ : Nat} {g h0 h : sm_H} {u q w : Nat → Int32} {le : Bool} {W : List Nat}
theorem n_verbHere (B : n_B0 b L T p h0) (G : n_G p h0 i h) (Kt : n_TK b L T h0 i e le τ W s) : (∀ t, t < 8 → τ = 1 ∧ W = n_kw (n_vk t) → f_re_verbHere 17 h = some (nI t, h)) ∧ ((∀ t, t < 8 → ¬ (τ = 1 ∧ W = n_kw (n_vk t))) → f_re_verbHere 17 h = some (-1, h)) := by
  have E := fun (a : Nat) (ha : a < 28) => n_isWord B G Kt ha
  have V : ∀ a, a < 28 → (τ = 1 ∧ W = n_kw a) → f_te_isWord (17 + 1) a h = some (1, h) := by
    intro a ha z
    rw [show (17 + 1 : Nat) = 18 from rfl, E a ha, decide_eq_true z]
    rfl
  have V0 : ∀ a, a < 28 → ¬ (τ = 1 ∧ W = n_kw a) → f_te_isWord (17 + 1) a h = some (0, h) := by
    intro a ha z
    rw [show (17 + 1 : Nat) = 18 from rfl, E a ha, decide_eq_false z]
    rfl
  have n1 : ¬ (1 : Int32) = 0 := by decide
  constructor
  · rintro t ht ⟨z1, z2⟩
    have no : ∀ a, a < 28 → a ≠ n_vk t → ¬ (τ = 1 ∧ W = n_kw a) := fun a ha x y => n_kw_ne (a := n_vk t) (c := a) (by unfold n_vk; split <;> omega) ha (fun z => x z.symm) (z2.symm.trans y.2)
    have c : t = 0 ∨ t = 1 ∨ t = 2 ∨ t = 3 ∨ t = 4 ∨ t = 5 ∨ t = 6 ∨ t = 7 := by omega
    unfold f_re_verbHere
    rcases c with rfl | rfl | rfl | rfl | rfl | rfl | rfl | rfl
    · refine w_b2 (V 4 (by decide) ⟨z1, z2⟩) ?_
      rw [if_neg n1]
      rfl
    · refine w_b2 (V0 4 (by decide) (no 4 (by decide) (by decide))) ?_
      rw [if_pos rfl]
      refine w_b2 (V 21 (by decide) ⟨z1, z2⟩) ?_
      rw [if_neg n1]
      rfl
    · refine w_b2 (V0 4 (by decide) (no 4 (by decide) (by decide))) ?_
      rw [if_pos rfl]
      refine w_b2 (V0 21 (by decide) (no 21 (by decide) (by decide))) ?_
      rw [if_pos rfl]
      refine w_b2 (V 22 (by decide) ⟨z1, z2⟩) ?_
      rw [if_neg n1]
      rfl
    · refine w_b2 (V0 4 (by decide) (no 4 (by decide) (by decide))) ?_
      rw [if_pos rfl]
      refine w_b2 (V0 21 (by decide) (no 21 (by decide) (by decide))) ?_
      rw [if_pos rfl]
      refine w_b2 (V0 22 (by decide) (no 22 (by decide) (by decide))) ?_
      rw [if_pos rfl]
      refine w_b2 (V 23 (by decide) ⟨z1, z2⟩) ?_
      rw [if_neg n1]
      rfl
    · refine w_b2 (V0 4 (by decide) (no 4 (by decide) (by decide))) ?_
      rw [if_pos rfl]
      refine w_b2 (V0 21 (by decide) (no 21 (by decide) (by decide))) ?_
      rw [if_pos rfl]
      refine w_b2 (V0 22 (by decide) (no 22 (by decide) (by decide))) ?_
      rw [if_pos rfl]
      refine w_b2 (V0 23 (by decide) (no 23 (by decide) (by decide))) ?_
      rw [if_pos rfl]
      refine w_b2 (V 24 (by decide) ⟨z1, z2⟩) ?_
      rw [if_neg n1]
      rfl
    · refine w_b2 (V0 4 (by decide) (no 4 (by decide) (by decide))) ?_
      rw [if_pos rfl]
      refine w_b2 (V0 21 (by decide) (no 21 (by decide) (by decide))) ?_
      rw [if_pos rfl]
      refine w_b2 (V0 22 (by decide) (no 22 (by decide) (by decide))) ?_
      rw [if_pos rfl]
      refine w_b2 (V0 23 (by decide) (no 23 (by decide) (by decide))) ?_
      rw [if_pos rfl]
      refine w_b2 (V0 24 (by decide) (no 24 (by decide) (by decide))) ?_
      rw [if_pos rfl]
      refine w_b2 (V 25 (by decide) ⟨z1, z2⟩) ?_
      rw [if_neg n1]
      rfl
    · refine w_b2 (V0 4 (by decide) (no 4 (by decide) (by decide))) ?_
      rw [if_pos rfl]
      refine w_b2 (V0 21 (by decide) (no 21 (by decide) (by decide))) ?_
      rw [if_pos rfl]
      refine w_b2 (V0 22 (by decide) (no 22 (by decide) (by decide))) ?_
      rw [if_pos rfl]
      refine w_b2 (V0 23 (by decide) (no 23 (by decide) (by decide))) ?_
      rw [if_pos rfl]
      refine w_b2 (V0 24 (by decide) (no 24 (by decide) (by decide))) ?_
      rw [if_pos rfl]
      refine w_b2 (V0 25 (by decide) (no 25 (by decide) (by decide))) ?_
      rw [if_pos rfl]
      refine w_b2 (V 26 (by decide) ⟨z1, z2⟩) ?_
      rw [if_neg n1]
      rfl
    · refine w_b2 (V0 4 (by decide) (no 4 (by decide) (by decide))) ?_
      rw [if_pos rfl]
      refine w_b2 (V0 21 (by decide) (no 21 (by decide) (by decide))) ?_
      rw [if_pos rfl]
      refine w_b2 (V0 22 (by decide) (no 22 (by decide) (by decide))) ?_
      rw [if_pos rfl]
      refine w_b2 (V0 23 (by decide) (no 23 (by decide) (by decide))) ?_
      rw [if_pos rfl]
      refine w_b2 (V0 24 (by decide) (no 24 (by decide) (by decide))) ?_
      rw [if_pos rfl]
      refine w_b2 (V0 25 (by decide) (no 25 (by decide) (by decide))) ?_
      rw [if_pos rfl]
      refine w_b2 (V0 26 (by decide) (no 26 (by decide) (by decide))) ?_
      rw [if_pos rfl]
      refine w_b2 (V 27 (by decide) ⟨z1, z2⟩) ?_
      rw [if_neg n1]
      rfl
  · intro z
    unfold f_re_verbHere
    refine w_b2 (V0 4 (by decide) (z 0 (by decide))) ?_
    rw [if_pos rfl]
    refine w_b2 (V0 21 (by decide) (z 1 (by decide))) ?_
    rw [if_pos rfl]
    refine w_b2 (V0 22 (by decide) (z 2 (by decide))) ?_
    rw [if_pos rfl]
    refine w_b2 (V0 23 (by decide) (z 3 (by decide))) ?_
    rw [if_pos rfl]
    refine w_b2 (V0 24 (by decide) (z 4 (by decide))) ?_
    rw [if_pos rfl]
    refine w_b2 (V0 25 (by decide) (z 5 (by decide))) ?_
    rw [if_pos rfl]
    refine w_b2 (V0 26 (by decide) (z 6 (by decide))) ?_
    rw [if_pos rfl]
    refine w_b2 (V0 27 (by decide) (z 7 (by decide))) ?_
    rw [if_pos rfl]
    rfl
theorem n_actionHere (hc : ∀ a, a < 28 → ∀ c, c = n_kc a → (lg_cmp (sm_jn (u 17) (u 1017)) c = 0 ↔ W = n_kw a)) : (∀ t, t < 8 → W = n_kw (n_vk t) → f_mo_actionHere 114 (n_rr g u q w) = some (nI t, n_rr g u q w)) ∧ ((∀ t, t < 8 → W ≠ n_kw (n_vk t)) → f_mo_actionHere 114 (n_rr g u q w) = some (-1, n_rr g u q w)) := by
  obtain ⟨-, -, -, -, k4, -⟩ := n_kc_eq
  obtain ⟨-, -, -, -, -, -, -, k21, k22, k23, k24, k25, k26, k27⟩ := n_kc_eq2
  constructor
  · rintro t ht hW
    have no : ∀ a, a < 28 → a ≠ n_vk t → W ≠ n_kw a := fun a ha x y => n_kw_ne (a := n_vk t) (c := a) (by unfold n_vk; split <;> omega) ha (fun z => x z.symm) (hW.symm.trans y)
    have c : t = 0 ∨ t = 1 ∨ t = 2 ∨ t = 3 ∨ t = 4 ∨ t = 5 ∨ t = 6 ∨ t = 7 := by omega
    unfold f_mo_actionHere
    rw [n_r114]
    rcases c with rfl | rfl | rfl | rfl | rfl | rfl | rfl | rfl
    · rw [if_pos ((hc 4 (by decide) _ k4).mpr hW)]
      rfl
    · rw [if_neg (fun z => no 4 (by decide) (by decide) ((hc 4 (by decide) _ k4).mp z)), if_pos ((hc 21 (by decide) _ k21).mpr hW)]
      rfl
    · rw [if_neg (fun z => no 4 (by decide) (by decide) ((hc 4 (by decide) _ k4).mp z)), if_neg (fun z => no 21 (by decide) (by decide) ((hc 21 (by decide) _ k21).mp z)), if_pos ((hc 22 (by decide) _ k22).mpr hW)]
      rfl
    · rw [if_neg (fun z => no 4 (by decide) (by decide) ((hc 4 (by decide) _ k4).mp z)), if_neg (fun z => no 21 (by decide) (by decide) ((hc 21 (by decide) _ k21).mp z)), if_neg (fun z => no 22 (by decide) (by decide) ((hc 22 (by decide) _ k22).mp z)), if_pos ((hc 23 (by decide) _ k23).mpr hW)]
      rfl
    · rw [if_neg (fun z => no 4 (by decide) (by decide) ((hc 4 (by decide) _ k4).mp z)), if_neg (fun z => no 21 (by decide) (by decide) ((hc 21 (by decide) _ k21).mp z)), if_neg (fun z => no 22 (by decide) (by decide) ((hc 22 (by decide) _ k22).mp z)), if_neg (fun z => no 23 (by decide) (by decide) ((hc 23 (by decide) _ k23).mp z)), if_pos ((hc 24 (by decide) _ k24).mpr hW)]
      rfl
    · rw [if_neg (fun z => no 4 (by decide) (by decide) ((hc 4 (by decide) _ k4).mp z)), if_neg (fun z => no 21 (by decide) (by decide) ((hc 21 (by decide) _ k21).mp z)), if_neg (fun z => no 22 (by decide) (by decide) ((hc 22 (by decide) _ k22).mp z)), if_neg (fun z => no 23 (by decide) (by decide) ((hc 23 (by decide) _ k23).mp z)), if_neg (fun z => no 24 (by decide) (by decide) ((hc 24 (by decide) _ k24).mp z)), if_pos ((hc 25 (by decide) _ k25).mpr hW)]
      rfl
    · rw [if_neg (fun z => no 4 (by decide) (by decide) ((hc 4 (by decide) _ k4).mp z)), if_neg (fun z => no 21 (by decide) (by decide) ((hc 21 (by decide) _ k21).mp z)), if_neg (fun z => no 22 (by decide) (by decide) ((hc 22 (by decide) _ k22).mp z)), if_neg (fun z => no 23 (by decide) (by decide) ((hc 23 (by decide) _ k23).mp z)), if_neg (fun z => no 24 (by decide) (by decide) ((hc 24 (by decide) _ k24).mp z)), if_neg (fun z => no 25 (by decide) (by decide) ((hc 25 (by decide) _ k25).mp z)), if_pos ((hc 26 (by decide) _ k26).mpr hW)]
      rfl
    · rw [if_neg (fun z => no 4 (by decide) (by decide) ((hc 4 (by decide) _ k4).mp z)), if_neg (fun z => no 21 (by decide) (by decide) ((hc 21 (by decide) _ k21).mp z)), if_neg (fun z => no 22 (by decide) (by decide) ((hc 22 (by decide) _ k22).mp z)), if_neg (fun z => no 23 (by decide) (by decide) ((hc 23 (by decide) _ k23).mp z)), if_neg (fun z => no 24 (by decide) (by decide) ((hc 24 (by decide) _ k24).mp z)), if_neg (fun z => no 25 (by decide) (by decide) ((hc 25 (by decide) _ k25).mp z)), if_neg (fun z => no 26 (by decide) (by decide) ((hc 26 (by decide) _ k26).mp z)), if_pos ((hc 27 (by decide) _ k27).mpr hW)]
      rfl
  · intro z
    unfold f_mo_actionHere
    rw [n_r114, if_neg (fun y => z 0 (by decide) ((hc 4 (by decide) _ k4).mp y)), if_neg (fun y => z 1 (by decide) ((hc 21 (by decide) _ k21).mp y)), if_neg (fun y => z 2 (by decide) ((hc 22 (by decide) _ k22).mp y)), if_neg (fun y => z 3 (by decide) ((hc 23 (by decide) _ k23).mp y)), if_neg (fun y => z 4 (by decide) ((hc 24 (by decide) _ k24).mp y)), if_neg (fun y => z 5 (by decide) ((hc 25 (by decide) _ k25).mp y)), if_neg (fun y => z 6 (by decide) ((hc 26 (by decide) _ k26).mp y)), if_neg (fun y => z 7 (by decide) ((hc 27 (by decide) _ k27).mp y))]
    rfl
end n_verb
