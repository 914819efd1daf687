section p_query
variable {p Z D F R j : Nat} {h : sm_H}
-- what a relation gives of single cells
theorem p_RR.parts (G : p_R0 j p Z D F R h) : (1 ≤ Z ∧ Z ≤ 8 ∧ D ≤ 16 ∧ F ≤ 6 ∧ R ≤ 10) ∧ (h p 0 = nI Z ∧ h 115 0 = nI Z) ∧ (h p 1 = nI D ∧ h 115 1 = nI D) ∧ (h p 2 = nI F ∧ h 115 2 = nI F) ∧ (h p 3 = nI R ∧ h 115 3 = nI R) := by
  obtain ⟨-, -, -, ⟨c, ⟨a1, a2, a3, a4, a5, a6, a7, a8, -⟩, -⟩, -⟩ := G
  exact ⟨c, ⟨a1, a2⟩, ⟨a3, a4⟩, ⟨a5, a6⟩, a7, a8⟩
theorem p_SO.eq {s : Nat} {q w : Nat → Int32} (S : p_SO Z D F R s h q w j) {o k m : Nat} (e : p_eq Z Z D F o k m) : h (s + o) k = q m := by
  obtain ⟨t, S1, -⟩ := S
  exact S1.1 o k m e
theorem p_SO.bit {s : Nat} {q w : Nat → Int32} (S : p_SO Z D F R s h q w j) {o k b m : Nat} (e : p_bi Z D F R o k b m) : q m = sm_b2i (sm_bt (h (s + o) k) b) := by
  obtain ⟨t, S1, -⟩ := S
  exact S1.2.1 o k b m e
-- queries that change nothing
theorem s_errorCode : sm_S2 p_RR := by
  intro j h _ hR
  obtain ⟨p, Z, D, F, R, G⟩ := hR
  obtain ⟨g1, g2, g3, g4, g5, g6, g7, g8, g9⟩ := id G
  have e1 : f_sc_errorCode 0 h = some (h 17 2, h) := by unfold f_sc_errorCode; simp only [Nat.reduceAdd]
  have e2 : f_mo_errorCode 114 h = some (h 17 2, h) := by unfold f_mo_errorCode; rw [g8]
  exact ⟨h 17 2, h, h, e1, e2, p, Z, D, F, R, G.mono⟩
theorem s_errorPosition : sm_S3 p_RR := by
  intro j h _ hR
  obtain ⟨p, Z, D, F, R, G⟩ := hR
  obtain ⟨g1, g2, g3, g4, g5, g6, g7, g8, g9⟩ := id G
  have e1 : f_sc_errorPosition 0 h = some (h 17 3, h) := by unfold f_sc_errorPosition; simp only [Nat.reduceAdd]
  have e2 : f_mo_errorPosition 114 h = some (h 17 3, h) := by unfold f_mo_errorPosition; rw [g9]
  exact ⟨h 17 3, h, h, e1, e2, p, Z, D, F, R, G.mono⟩
theorem s_time : sm_S17 p_RR := by
  intro j h _ hR
  obtain ⟨p, Z, D, F, R, G⟩ := hR
  have e : h 40 1 = h 117 0 := G.2.2.2.2.1.eq q_time
  have c : (0 : Int32).toNatClampNeg = 0 := by decide
  have e1 : f_sc_time 0 h = some (h 40 1, h) := by unfold f_sc_time; simp only [Nat.reduceAdd]
  have e2 : f_mo_time 114 h = some (h 40 1, h) := by
    unfold f_mo_time
    simp only [Nat.reduceAdd]
    rw [sm_gd_t (by decide), c, e]
  exact ⟨h 40 1, h, h, e1, e2, p, Z, D, F, R, G.mono⟩
theorem p_m1 {z : Nat} (hz : z < 2 ^ 31) : ¬ nI z = -1 := by
  intro y
  have h1 := congrArg Int32.toInt y
  rw [nI_toInt hz] at h1
  have h2 : (-1 : Int32).toInt = -1 := by decide
  omega
theorem s_firstAlarm : sm_S21 p_RR := by
  intro j h _ hR
  obtain ⟨p, Z, D, F, R, G⟩ := hR
  have e : h 48 2 = h 117 7 := G.2.2.2.2.1.eq q_first
  have c : (7 : Int32).toNatClampNeg = 7 := by decide
  obtain ⟨⟨c1, c2, -⟩, -⟩ := p_RR.parts G
  obtain ⟨t, S1, S2⟩ := G.2.2.2.2.1
  have K : ∀ r, f_sc_firstAlarm 0 h = some (r, h) → f_mo_firstAlarm 114 h = some (r, h) → ∃ r h1 h2, f_sc_firstAlarm 0 h = some (r, h1) ∧ f_mo_firstAlarm 114 h1 = some (r, h2) ∧ p_RR (j + 6) h2 := fun r a b => ⟨r, h, h, a, b, p, Z, D, F, R, G.mono⟩
  rcases S2.2.2.2.2.2.2 with ⟨f, -⟩ | ⟨z, hz, f, -⟩
  · refine K (-4) ?_ ?_
    · unfold f_sc_firstAlarm f_sc_firstAlarm_L28
      simp only [Nat.reduceAdd]
      rw [e, f, if_neg (by decide)]
    · unfold f_mo_firstAlarm f_mo_firstAlarm_L23
      simp only [Nat.reduceAdd]
      rw [sm_gd_t (by decide), c, f, if_pos rfl]
  · refine K (nI z) ?_ ?_
    · unfold f_sc_firstAlarm f_sc_firstAlarm_L28
      simp only [Nat.reduceAdd]
      rw [e, f, if_pos (nI_pos' (by omega))]
    · unfold f_mo_firstAlarm f_mo_firstAlarm_L23
      simp only [Nat.reduceAdd]
      rw [sm_gd_t (by decide), c, f, if_neg (p_m1 (by omega)), sm_gd_t (by decide)]
theorem s_smoke : sm_S18 p_RR := fun j h x _ ⟨p, Z, D, F, R, G⟩ => by
  obtain ⟨⟨c1, c2, -⟩, ⟨z1, z2⟩, -⟩ := p_RR.parts G
  rcases p_idx x Z (by omega) with ⟨k, hk, rfl⟩ | hx
  · have e : h 41 k = h 117 (10 + 4 * k + 0) := G.2.2.2.2.1.eq (q_smoke hk)
    refine ⟨h 41 k, h, h, ?_, ?_, p, Z, D, F, R, G.mono⟩
    · unfold f_sc_smoke f_sc_smoke_L21
      rw [e_lacksZoneI G.1 G.2.1 z1 (by omega) hk]
      simp only [sm_b2, Option.bind_some, Nat.reduceAdd]
      rw [if_pos trivial, sm_gd_t (sm_inb_nI (by omega) (by omega)), nI_clamp (by omega)]
    · unfold f_mo_smoke f_mo_smoke_L18
      rw [e_isZoneI z2 (by omega) hk]
      simp only [sm_b2, Option.bind_some]
      rw [if_neg (by decide), show (0 : Int32) = nI 0 from rfl, e_zoneIs (by omega) (by omega), e]
      rfl
  · refine ⟨-1, h, h, ?_, ?_, p, Z, D, F, R, G.mono⟩
    · unfold f_sc_smoke f_sc_smoke_L21
      rw [e_lacksZoneO G.1 G.2.1 z1 hx]
      rfl
    · unfold f_mo_smoke f_mo_smoke_L18
      rw [e_isZoneO z2 (by omega) hx]
      rfl
theorem s_alarm : sm_S20 p_RR := fun j h x _ ⟨p, Z, D, F, R, G⟩ => by
  obtain ⟨⟨c1, c2, -⟩, ⟨z1, z2⟩, -⟩ := p_RR.parts G
  rcases p_idx x Z (by omega) with ⟨k, hk, rfl⟩ | hx
  · have e : h 117 (10 + 4 * k + 2) = sm_b2i (sm_bt (h 48 0) k) := by
      rw [show 10 + 4 * k + 2 = 12 + 4 * k by omega]
      exact G.2.2.2.2.1.bit (w_al hk)
    refine ⟨sm_b2i (sm_bt (h 48 0) k), h, h, ?_, ?_, p, Z, D, F, R, G.mono⟩
    · unfold f_sc_alarm f_sc_alarm_L32
      rw [e_lacksZoneI G.1 G.2.1 z1 (by omega) hk]
      simp only [sm_b2, Option.bind_some, Nat.reduceAdd]
      rw [if_pos trivial, e_has _ _ _ (by omega)]
      simp only [Option.bind_some]
      cases sm_bt (h 48 0) k <;> rfl
    · unfold f_mo_alarm f_mo_alarm_L18
      rw [e_isZoneI z2 (by omega) hk]
      simp only [sm_b2, Option.bind_some]
      rw [if_neg (by decide), show (2 : Int32) = nI 2 from rfl, e_zoneIs (by omega) (by omega), e]
      rfl
  · refine ⟨-1, h, h, ?_, ?_, p, Z, D, F, R, G.mono⟩
    · unfold f_sc_alarm f_sc_alarm_L32
      rw [e_lacksZoneO G.1 G.2.1 z1 hx]
      rfl
    · unfold f_mo_alarm f_mo_alarm_L18
      rw [e_isZoneO z2 (by omega) hx]
      rfl
end p_query
