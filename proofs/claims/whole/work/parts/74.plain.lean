-- LOAD: A TEST THAT ISN'T OPENED
theorem n_kw_ne {a c : Nat} (ha : a < 28) (hc : c < 28) (h : a ≠ c) : n_kw a ≠ n_kw c := by
  have g : ((List.range 28).all fun a => (List.range 28).all fun c => decide (n_kw a = n_kw c) == decide (a = c)) = true := by decide +kernel
  have := eq_of_beq (List.all_eq_true.mp (List.all_eq_true.mp g a (List.mem_range.mpr ha)) c (List.mem_range.mpr hc))
  rw [decide_eq_false h] at this
  exact of_decide_eq_false this
theorem n_le_pred {v Z : Nat} (hZ : Z < 2 ^ 30) (hv : v < 2 ^ 30) (h : nI v ≤ nI Z - 1) : v < Z := by
  have h1 := Int32.le_iff_toInt_le.mp h
  rw [nI_toInt (by omega)] at h1
  have e : (nI Z - 1).toInt = (Z : Int) - 1 := by
    cases Z with
    | zero => decide
    | succ m =>
      rw [nI_pred, nI_toInt (by omega)]
      omega
  rw [e] at h1
  omega
section n_plain
variable {b : Nat → Nat} {L T p i e s τ m n n' : Nat} {g h0 h : sm_H} {u q w : Nat → Int32} {le : Bool} {W S : List Nat} {Z D F R N Kc A K : Nat}
theorem n_testHere (B : n_B0 b L T p h0) (G : n_G p h0 i h) (Kt : n_TK b L T h0 i e le τ W s) : (∀ t, t < 6 → τ = 1 ∧ W = n_kw (12 + t) → f_re_testHere 17 h = some (nI t, h)) ∧ ((∀ t, t < 6 → ¬ (τ = 1 ∧ W = n_kw (12 + t))) → f_re_testHere 17 h = some (-1, h)) := by
  have E := fun (a : Nat) (ha : a < 28) => n_isWord B G Kt ha
  have V : ∀ a, a < 28 → (τ = 1 ∧ W = n_kw a) → f_te_isWord (17 + 1) a h = some (1, h) := by
    intro a ha z
    rw [show (17 + 1 : Nat) = 18 from rfl, E a ha, decide_eq_true z]
    rfl
  have V0 : ∀ a, a < 28 → ¬ (τ = 1 ∧ W = n_kw a) → f_te_isWord (17 + 1) a h = some (0, h) := by
    intro a ha z
    rw [show (17 + 1 : Nat) = 18 from rfl, E a ha, decide_eq_false z]
    rfl
  have n1 : ¬ (1 : Int32) = 0 := by decide
  constructor
  · rintro t ht ⟨z1, z2⟩
    have no : ∀ a, a < 28 → a ≠ 12 + t → ¬ (τ = 1 ∧ W = n_kw a) := fun a ha x y => n_kw_ne (by omega) ha (fun z => x z.symm) (z2.symm.trans y.2)
    have c : t = 0 ∨ t = 1 ∨ t = 2 ∨ t = 3 ∨ t = 4 ∨ t = 5 := by omega
    unfold f_re_testHere
    rcases c with rfl | rfl | rfl | rfl | rfl | rfl
    · refine w_b2 (V 12 (by decide) ⟨z1, z2⟩) ?_
      rw [if_neg n1]
      rfl
    · refine w_b2 (V0 12 (by decide) (no 12 (by decide) (by decide))) ?_
      rw [if_pos rfl]
      refine w_b2 (V 13 (by decide) ⟨z1, z2⟩) ?_
      rw [if_neg n1]
      rfl
    · refine w_b2 (V0 12 (by decide) (no 12 (by decide) (by decide))) ?_
      rw [if_pos rfl]
      refine w_b2 (V0 13 (by decide) (no 13 (by decide) (by decide))) ?_
      rw [if_pos rfl]
      refine w_b2 (V 14 (by decide) ⟨z1, z2⟩) ?_
      rw [if_neg n1]
      rfl
    · refine w_b2 (V0 12 (by decide) (no 12 (by decide) (by decide))) ?_
      rw [if_pos rfl]
      refine w_b2 (V0 13 (by decide) (no 13 (by decide) (by decide))) ?_
      rw [if_pos rfl]
      refine w_b2 (V0 14 (by decide) (no 14 (by decide) (by decide))) ?_
      rw [if_pos rfl]
      refine w_b2 (V 15 (by decide) ⟨z1, z2⟩) ?_
      rw [if_neg n1]
      rfl
    · refine w_b2 (V0 12 (by decide) (no 12 (by decide) (by decide))) ?_
      rw [if_pos rfl]
      refine w_b2 (V0 13 (by decide) (no 13 (by decide) (by decide))) ?_
      rw [if_pos rfl]
      refine w_b2 (V0 14 (by decide) (no 14 (by decide) (by decide))) ?_
      rw [if_pos rfl]
      refine w_b2 (V0 15 (by decide) (no 15 (by decide) (by decide))) ?_
      rw [if_pos rfl]
      refine w_b2 (V 16 (by decide) ⟨z1, z2⟩) ?_
      rw [if_neg n1]
      rfl
    · refine w_b2 (V0 12 (by decide) (no 12 (by decide) (by decide))) ?_
      rw [if_pos rfl]
      refine w_b2 (V0 13 (by decide) (no 13 (by decide) (by decide))) ?_
      rw [if_pos rfl]
      refine w_b2 (V0 14 (by decide) (no 14 (by decide) (by decide))) ?_
      rw [if_pos rfl]
      refine w_b2 (V0 15 (by decide) (no 15 (by decide) (by decide))) ?_
      rw [if_pos rfl]
      refine w_b2 (V0 16 (by decide) (no 16 (by decide) (by decide))) ?_
      rw [if_pos rfl]
      refine w_b2 (V 17 (by decide) ⟨z1, z2⟩) ?_
      rw [if_neg n1]
      rfl
  · intro z
    unfold f_re_testHere
    refine w_b2 (V0 12 (by decide) (z 0 (by decide))) ?_
    rw [if_pos rfl]
    refine w_b2 (V0 13 (by decide) (z 1 (by decide))) ?_
    rw [if_pos rfl]
    refine w_b2 (V0 14 (by decide) (z 2 (by decide))) ?_
    rw [if_pos rfl]
    refine w_b2 (V0 15 (by decide) (z 3 (by decide))) ?_
    rw [if_pos rfl]
    refine w_b2 (V0 16 (by decide) (z 4 (by decide))) ?_
    rw [if_pos rfl]
    refine w_b2 (V0 17 (by decide) (z 5 (by decide))) ?_
    rw [if_pos rfl]
    rfl
-- how the reference's test begins and ends
theorem n_A_T9 {g6 : sm_H} (h1 : f_mo_readOpenings_L0 m 114 g = some (1, g6)) : n_A n' m g = n_T9 n' g6 := by
  unfold n_A
  refine w_b2 h1 ?_
  rw [if_neg (show ¬ (1 : Int32) = 0 by decide)]
theorem n_A_bad {g6 : sm_H} (h1 : f_mo_readOpenings_L0 m 114 g = some (0, g6)) : n_A n' m g = some (0, g6) := by
  unfold n_A
  refine w_b2 h1 ?_
  rw [if_pos rfl]
theorem n_T9_good {g10 : sm_H} (h1 : f_mo_readTest 114 g = some (1, g10)) : n_T9 n' g = n_C n' sm_N sm_N g10 := by
  unfold n_T9
  refine w_b2 h1 ?_
  rw [if_neg (show ¬ (1 : Int32) = 0 by decide)]
theorem n_T9_bad {g10 : sm_H} (h1 : f_mo_readTest 114 g = some (0, g10)) : n_T9 n' g = some (0, g10) := by
  unfold n_T9
  refine w_b2 h1 ?_
  rw [if_pos rfl]
-- the reference's test by its word
theorem n_rt (hc : ∀ a, a < 28 → ∀ c, c = n_kc a → (lg_cmp (sm_jn (u 17) (u 1017)) c = 0 ↔ W = n_kw a)) : (∀ t hi, (t = 0 ∧ hi = q 0 - 1) ∨ (t = 1 ∧ hi = q 0 - 1) ∨ (t = 2 ∧ hi = q 3 - 1) ∨ (t = 3 ∧ hi = 999) ∨ (t = 4 ∧ hi = q 2 - 1) → W = n_kw (12 + t) → ∀ r g', (r = 0 ∨ r = 1) → f_mo_readTestOf 114 (nI t) hi (n_rr g u q w) = some (r, g') → f_mo_readTest 114 (n_rr g u q w) = some (r, g')) ∧ (W = n_kw 17 → f_mo_readTest 114 (n_rr g u q w) = Option.bind (f_mo_passWord 114 (n_rr g u q w)) fun g7 => Option.bind (f_mo_emit 114 5 0 g7) fun g9 => some (1, g9)) ∧ ((∀ t, t < 6 → W ≠ n_kw (12 + t)) → f_mo_readTest 114 (n_rr g u q w) = sm_b2 (f_mo_fails 114 1 (u 13) (n_rr g u q w)) fun r11 g12 => sm_gd (sm_bz r11) <| some (r11, g12)) := by
  obtain ⟨-, -, -, -, -, -, -, -, -, -, -, -, k12, k13⟩ := n_kc_eq
  obtain ⟨k14, k15, k16, k17, -⟩ := n_kc_eq2
  have bz : ∀ r : Int32, r = 0 ∨ r = 1 → sm_bz r = true := fun r hr => decide_eq_true hr
  refine ⟨fun t hi ht hW r g' hr hg => ?_, fun hW => ?_, fun hW => ?_⟩
  · have no : ∀ a, a < 28 → a ≠ 12 + t → W ≠ n_kw a := fun a ha x y => n_kw_ne (by omega) ha (fun z => x z.symm) (hW.symm.trans y)
    unfold f_mo_readTest
    rw [n_r114, show (114 + 2 : Nat) = 116 from rfl, n_r116]
    rcases ht with ⟨rfl, rfl⟩ | ⟨rfl, rfl⟩ | ⟨rfl, rfl⟩ | ⟨rfl, rfl⟩ | ⟨rfl, rfl⟩
    · rw [if_pos ((hc 12 (by decide) _ k12).mpr hW), s_i0, s_c0]
      refine w_b2 hg ?_
      rw [sm_gd_t (bz r hr)]
    · rw [if_neg (fun z => no 12 (by decide) (by decide) ((hc 12 (by decide) _ k12).mp z)), if_pos ((hc 13 (by decide) _ k13).mpr hW), s_i0, s_c0]
      refine w_b2 hg ?_
      rw [sm_gd_t (bz r hr)]
    · rw [if_neg (fun z => no 12 (by decide) (by decide) ((hc 12 (by decide) _ k12).mp z)), if_neg (fun z => no 13 (by decide) (by decide) ((hc 13 (by decide) _ k13).mp z)), if_pos ((hc 14 (by decide) _ k14).mpr hW), s_i3, s_c3]
      refine w_b2 hg ?_
      rw [sm_gd_t (bz r hr)]
    · rw [if_neg (fun z => no 12 (by decide) (by decide) ((hc 12 (by decide) _ k12).mp z)), if_neg (fun z => no 13 (by decide) (by decide) ((hc 13 (by decide) _ k13).mp z)), if_neg (fun z => no 14 (by decide) (by decide) ((hc 14 (by decide) _ k14).mp z)), if_pos ((hc 15 (by decide) _ k15).mpr hW)]
      refine w_b2 hg ?_
      rw [sm_gd_t (bz r hr)]
    · rw [if_neg (fun z => no 12 (by decide) (by decide) ((hc 12 (by decide) _ k12).mp z)), if_neg (fun z => no 13 (by decide) (by decide) ((hc 13 (by decide) _ k13).mp z)), if_neg (fun z => no 14 (by decide) (by decide) ((hc 14 (by decide) _ k14).mp z)), if_neg (fun z => no 15 (by decide) (by decide) ((hc 15 (by decide) _ k15).mp z)), if_pos ((hc 16 (by decide) _ k16).mpr hW), s_i2, s_c2]
      refine w_b2 hg ?_
      rw [sm_gd_t (bz r hr)]
  · have no : ∀ a, a < 28 → a ≠ 17 → W ≠ n_kw a := fun a ha x y => n_kw_ne (by omega) ha (fun z => x z.symm) (hW.symm.trans y)
    unfold f_mo_readTest
    rw [n_r114, show (114 + 2 : Nat) = 116 from rfl, n_r116]
    rw [if_neg (fun z => no 12 (by decide) (by decide) ((hc 12 (by decide) _ k12).mp z)), if_neg (fun z => no 13 (by decide) (by decide) ((hc 13 (by decide) _ k13).mp z)), if_neg (fun z => no 14 (by decide) (by decide) ((hc 14 (by decide) _ k14).mp z)), if_neg (fun z => no 15 (by decide) (by decide) ((hc 15 (by decide) _ k15).mp z)), if_neg (fun z => no 16 (by decide) (by decide) ((hc 16 (by decide) _ k16).mp z)), if_pos ((hc 17 (by decide) _ k17).mpr hW)]
  · unfold f_mo_readTest
    rw [n_r114, show (114 + 2 : Nat) = 116 from rfl, n_r116]
    rw [if_neg (fun z => hW 0 (by decide) ((hc 12 (by decide) _ k12).mp z)), if_neg (fun z => hW 1 (by decide) ((hc 13 (by decide) _ k13).mp z)), if_neg (fun z => hW 2 (by decide) ((hc 14 (by decide) _ k14).mp z)), if_neg (fun z => hW 3 (by decide) ((hc 15 (by decide) _ k15).mp z)), if_neg (fun z => hW 4 (by decide) ((hc 16 (by decide) _ k16).mp z)), if_neg (fun z => hW 5 (by decide) ((hc 17 (by decide) _ k17).mp z))]
end n_plain
