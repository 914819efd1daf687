section p_keep2
variable {p Z D F R j : Nat} {h : sm_H}
theorem p_flag (b c : Bool) : sm_bz (sm_b2i (b || c)) = true := sm_b2i_bz _
def p_kf (h : sm_H) (k : Nat) : sm_H := sm_up (sm_up (sm_up h 114 5 (if k = 0 then 1 else h 114 5)) 114 6 (if k = 1 then 1 else h 114 6)) 114 7 (if k = 2 then 1 else h 114 7)
theorem e_flags {k : Nat} (hk : k < 3) (b5 : sm_bz (h 114 5) = true) (b6 : sm_bz (h 114 6) = true) (b7 : sm_bz (h 114 7) = true) : f_mo_keep_L44 114 (nI k) h = some (h 117 0, p_kf h k) := by
  have d0 : ∀ x : Int32, sm_bz x = true → x = 0 ∨ x = 1 := fun x hx => of_decide_eq_true hx
  have c0 : (0 : Int32).toNatClampNeg = 0 := by decide
  have t7 : ∀ (g : sm_H) (v : Int32), sm_bz v = true → f_mo_keep_L103 114 v 114 g = some (g 117 0, sm_up g 114 7 v) := by
    intro g v hv
    unfold f_mo_keep_L103
    simp only [sm_let, Nat.reduceAdd]
    rw [sm_gd_t hv, sm_gd_t (by decide), c0, sm_up_off (by omega)]
  have t6 : ∀ (g : sm_H) (v : Int32), g 114 7 = h 114 7 → sm_bz v = true → f_mo_keep_L82 114 (nI k) v 114 g = some (g 117 0, sm_up (sm_up g 114 6 v) 114 7 (if k = 2 then 1 else h 114 7)) := by
    intro g v hg hv
    unfold f_mo_keep_L82 f_mo_keep_L98
    simp only [sm_let]
    have e7 : sm_up g 114 6 v 114 7 = h 114 7 := by rw [sm_up_off (by omega), hg]
    have e0 : sm_up g 114 6 v 117 0 = g 117 0 := sm_up_off (by omega)
    rw [sm_gd_t hv, e7]
    rcases d0 _ b7 with y | y
    · rw [y, if_pos rfl]
      by_cases z : k = 2
      · subst z
        rw [if_pos (by decide), t7 _ _ (by decide), e0, if_pos rfl]
      · rw [if_neg (show ¬ nI k = (2 : Int32) from fun e => z ((nI_eq (b := 2) (by omega) (by omega)).mp e)), t7 _ _ (by decide), e0, if_neg z]
    · rw [y, if_neg (by decide), t7 _ _ (by decide), e0]
      by_cases z : k = 2
      · rw [if_pos z]
      · rw [if_neg z]
  have t5 : ∀ (g : sm_H) (v : Int32), g 114 6 = h 114 6 → g 114 7 = h 114 7 → sm_bz v = true → f_mo_keep_L61 114 (nI k) v 114 g = some (g 117 0, sm_up (sm_up (sm_up g 114 5 v) 114 6 (if k = 1 then 1 else h 114 6)) 114 7 (if k = 2 then 1 else h 114 7)) := by
    intro g v hg6 hg7 hv
    unfold f_mo_keep_L61 f_mo_keep_L77
    simp only [sm_let]
    have e6 : sm_up g 114 5 v 114 6 = h 114 6 := by rw [sm_up_off (by omega), hg6]
    have e7 : sm_up g 114 5 v 114 7 = h 114 7 := by rw [sm_up_off (by omega), hg7]
    have e0 : sm_up g 114 5 v 117 0 = g 117 0 := sm_up_off (by omega)
    rw [sm_gd_t hv, e6]
    rcases d0 _ b6 with y | y
    · rw [y, if_pos rfl]
      by_cases z : k = 1
      · subst z
        rw [if_pos (by decide), t6 _ _ e7 (by decide), e0, if_pos rfl]
      · rw [if_neg (show ¬ nI k = (1 : Int32) from fun e => z ((nI_eq (b := 1) (by omega) (by omega)).mp e)), t6 _ _ e7 (by decide), e0, if_neg z]
    · rw [y, if_neg (by decide), t6 _ _ e7 (by decide), e0]
      by_cases z : k = 1
      · rw [if_pos z]
      · rw [if_neg z]
  unfold f_mo_keep_L44 f_mo_keep_L56 p_kf
  rcases d0 _ b5 with y | y
  · rw [y, if_pos rfl]
    by_cases z : k = 0
    · subst z
      rw [if_pos (by decide), t5 _ _ rfl rfl (by decide), if_pos rfl]
    · rw [if_neg (show ¬ nI k = (0 : Int32) from fun e => z ((nI_eq (b := 0) (by omega) (by omega)).mp e)), t5 _ _ rfl rfl (by decide), if_neg z]
  · rw [y, if_neg (by decide), t5 _ _ rfl rfl (by decide)]
    by_cases z : k = 0
    · rw [if_pos z]
    · rw [if_neg z]
theorem s_keep : sm_S39 p_RR := by
  intro j h x hj hR
  obtain ⟨p, Z, D, F, R, G⟩ := hR
  have C := G.2.2.2.1.1
  obtain ⟨g1, g2, g3, g4, g5, g6, g7, g8, g9⟩ := id G
  have same : ∀ r, f_sc_keep 0 x h = some (r, h) → f_mo_keep 114 x h = some (r, h) → ∃ r h1 h2, f_sc_keep 0 x h = some (r, h1) ∧ f_mo_keep 114 x h1 = some (r, h2) ∧ p_RR (j + 6) h2 := fun r a b => ⟨r, h, h, a, b, p, Z, D, F, R, G.mono⟩
  rcases p_idx x 3 (by omega) with ⟨k, hk, rfl⟩ | hx
  · obtain ⟨s1, s2, s3⟩ := g6 k hk
    have ek : h 40 2 = h 117 1 := by
      obtain ⟨t, S1, S2⟩ := g5
      exact S1.1 0 2 1 q_key
    have et : h 40 1 = h 117 0 := by
      obtain ⟨t, S1, S2⟩ := g5
      exact S1.1 0 1 0 q_time
    have hz : sm_bz (h 40 2) = true := by
      obtain ⟨t, S1, S2⟩ := g5
      rw [ek]
      exact decide_eq_true S2.1.1
    have hi : 67 + 13 * k = 40 ∨ 67 + 13 * k = 53 ∨ 67 + 13 * k = 67 ∨ 67 + 13 * k = 80 ∨ 67 + 13 * k = 93 := by omega
    obtain ⟨g, e1, e2, e3⟩ := e_copyFrom (a := 67 + 13 * k) (b := 40) g1 (by omega) (fun o a1 a2 a3 a4 => ⟨p_lens hi a1 a2 a3 a4, p_lens (Or.inl rfl) a1 a2 a3 a4⟩) g2 hz
    generalize hw : sm_wb (h 0 4) k true = w
    have el := p_keepL hk (g := sm_up g 0 4 w) sm_N 0 (sm_up g 0 4 w 119) (by unfold sm_N; omega) (by omega)
    rw [p_row_self] at el
    have r117 : sm_up g 0 4 w 117 = h 117 := by rw [sm_up_ne _ _ _ _ _ (by omega), e2 _ (by omega)]
    have r119 : sm_up g 0 4 w 119 = h 119 := by rw [sm_up_ne _ _ _ _ _ (by omega), e2 _ (by omega)]
    have r114 : sm_up g 0 4 w 114 = h 114 := by rw [sm_up_ne _ _ _ _ _ (by omega), e2 _ (by omega)]
    rw [r117, r119] at el
    generalize hm : (sm_row (sm_up g 0 4 w) 119 (fun m => if 350 * k + 0 ≤ m ∧ m < 350 * k + 350 then h 117 (m - 350 * k) else h 119 m)) = g2' at el
    have m114 : g2' 114 = h 114 := by rw [← hm, p_row_off (by omega), r114]
    have m117 : g2' 117 = h 117 := by rw [← hm, p_row_off (by omega), r117]
    have fl : ∀ i, i < 3 → sm_bz (h 114 (5 + i)) = true := fun i hi => by
      rw [(g6 i hi).2.1]
      exact sm_b2i_bz _
    have ef := e_flags (h := g2') hk (by rw [m114]; exact fl 0 (by omega)) (by rw [m114]; exact fl 1 (by omega)) (by rw [m114]; exact fl 2 (by omega))
    rw [m117] at ef
    have kf : ∀ i, i ≠ 114 → p_kf g2' k i = g2' i := fun i hi => by
      unfold p_kf
      rw [sm_up_ne _ _ _ _ _ hi, sm_up_ne _ _ _ _ _ hi, sm_up_ne _ _ _ _ _ hi]
    have kg : ∀ i, i ≠ 114 → i ≠ 119 → i ≠ 0 → (i < 67 + 13 * k ∨ 67 + 13 * k + 12 < i) → p_kf g2' k i = h i := fun i a b c d => by
      rw [kf i a, ← hm, p_row_off b, sm_up_ne _ _ _ _ _ c, e2 i d]
    have k119 : p_kf g2' k 119 = fun m => if 350 * k + 0 ≤ m ∧ m < 350 * k + 350 then h 117 (m - 350 * k) else h 119 m := by
      rw [kf 119 (by omega), ← hm, p_row_at]
    have k114 : ∀ i, i < 5 ∨ 7 < i → p_kf g2' k 114 i = h 114 i := fun i hi => by
      unfold p_kf
      rw [sm_up_off (by omega), sm_up_off (by omega), sm_up_off (by omega), m114]
    have kfl : ∀ i, i < 3 → p_kf g2' k 114 (5 + i) = if k = i then 1 else h 114 (5 + i) := fun i hi => by
      unfold p_kf
      match i, hi with
      | 0, _ => rw [sm_up_off (by omega), sm_up_off (by omega), p_up_at, m114]
      | 1, _ => rw [sm_up_off (by omega), p_up_at, m114]
      | 2, _ => rw [p_up_at, m114]
    have k0 : p_kf g2' k 0 4 = w := by rw [kf 0 (by omega), ← hm, p_row_off (by omega), p_up_at]
    have ks : ∀ o, o ≤ 12 → p_kf g2' k (67 + 13 * k + o) = g (67 + 13 * k + o) := fun o ho => by
      rw [kf _ (by omega), ← hm, p_row_off (by omega), sm_up_ne _ _ _ _ _ (by omega)]
    refine ⟨h 40 1, sm_up g 0 4 w, p_kf g2' k, ?_, ?_, p, Z, D, F, R, ?_⟩
    · unfold f_sc_keep
      simp only [Nat.reduceAdd, sm_b2, sm_let]
      rw [if_neg (nI_pos (by omega)), show (3 : Int32) = nI 3 from rfl, if_pos (nI_lt hk (by omega)), sm_gd_t (sm_inb_nI hk (by omega)), nI_clamp (by omega), sm_gd_t (decide_eq_true s1), e1, Option.bind_some, e_with]
      simp only [Option.bind_some]
      have eb : (!decide ((1 : Int32) = 0)) = true := by decide
      rw [eb, show g 0 4 = h 0 4 from congrFun (e2 0 (by omega)) 4, hw, sm_up_off (by omega), e2 40 (by omega)]
    · unfold f_mo_keep
      simp only [sm_b2]
      rw [show (2 : Int32) = nI 3 - 1 from by decide, e_inI hk (by omega)]
      simp only [Option.bind_some]
      rw [if_neg (by decide), show (0 : Int32) = nI 0 from rfl, el, ef, et]
    · refine ⟨g1, by rw [kg 40 (by omega) (by omega) (by omega) (by omega)]; exact g2, by rw [kg 17 (by omega) (by omega) (by omega) (by omega)]; exact g3, ?_, ?_, fun i hi => ?_, ?_, ?_, ?_⟩
      · rw [kg 115 (by omega) (by omega) (by omega) (by omega)]
        exact g4.rows (fun o ho => kg _ (by omega) (by omega) (by omega) (by omega))
      · rw [kg 115 (by omega) (by omega) (by omega) (by omega), kg 117 (by omega) (by omega) (by omega) (by omega)]
        exact (g5.rows (fun o ho => kg _ (by omega) (by omega) (by omega) (by omega))).mono
      · obtain ⟨u1, u2, u3⟩ := g6 i hi
        rw [kg 66 (by omega) (by omega) (by omega) (by omega), k0, kfl i hi, ← hw, sm_bt_wb _ _ _ _ (by omega) (by omega), kg 115 (by omega) (by omega) (by omega) (by omega)]
        refine ⟨u1, ?_, fun hb => ?_⟩
        · by_cases z : k = i
          · rw [if_pos z, if_pos z.symm]
            rfl
          · rw [if_neg z, if_neg (fun e => z e.symm)]
            exact u2
        · by_cases z : i = k
          · subst z
            have q0 : p_kf g2' i (67 + 13 * i) 0 = nI p := by
              rw [show p_kf g2' i (67 + 13 * i) = g (67 + 13 * i) from ks 0 (by omega), show g (67 + 13 * i) 0 = h 40 0 from e3 0 0 (by unfold p_ok; omega), g2]
            refine ⟨q0, (g5.copy C (fun o m hm => ?_) (fun m hm' => ?_)).mono⟩
            · rw [ks o (by unfold p_ok at hm; omega)]
              exact e3 o m hm
            · show p_kf g2' i 119 (350 * i + m) = h 117 m
              rw [k119]
              dsimp only
              rw [if_pos (by omega)]
              congr 1
              omega
          · rw [if_neg z] at hb
            obtain ⟨v1, v2⟩ := u3 hb
            rw [kg (67 + 13 * i) (by omega) (by omega) (by omega) (by omega)]
            refine ⟨v1, (v2.copy C (fun o m hm => ?_) (fun m hm' => ?_)).mono⟩
            · rw [kg (67 + 13 * i + o) (by unfold p_ok at hm; omega) (by unfold p_ok at hm; omega) (by omega) (by unfold p_ok at hm; omega)]
            · show p_kf g2' k 119 (350 * i + m) = h 119 (350 * i + m)
              rw [k119]
              dsimp only
              rw [if_neg (by omega)]
      · unfold p_TX at g7 ⊢
        rw [kg 18 (by omega) (by omega) (by omega) (by omega), k114 9 (by omega), kg 120 (by omega) (by omega) (by omega) (by omega), kg 19 (by omega) (by omega) (by omega) (by omega)]
        exact g7
      · rw [kg 17 (by omega) (by omega) (by omega) (by omega), k114 15 (by omega)]
        exact g8
      · rw [kg 17 (by omega) (by omega) (by omega) (by omega), k114 16 (by omega)]
        exact g9
  · refine same (-1) ?_ ?_
    · unfold f_sc_keep
      by_cases x0 : x < 0
      · rw [if_pos x0]
      · rw [if_neg x0, show (3 : Int32) = nI 3 from rfl, if_neg (Int32.not_lt.mpr (hx.resolve_left x0))]
    · unfold f_mo_keep
      simp only [sm_b2]
      rw [show (2 : Int32) = nI 3 - 1 from by decide, e_inO hx (by omega)]
      simp only [Option.bind_some]
      rw [if_pos (by decide)]
end p_keep2
