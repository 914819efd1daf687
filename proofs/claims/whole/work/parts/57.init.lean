-- A NEW OBJECT
theorem t_init : p_RR 0 (sm_mb (sm_mp (sm_up sm_z7 114 16 (-1)))) := by
  obtain ⟨H, hH⟩ : ∃ H, H = sm_mb (sm_mp (sm_up sm_z7 114 16 (-1))) := ⟨_, rfl⟩
  have c : ∀ i k v, decide (sm_mb (sm_mp (sm_up sm_z7 114 16 (-1))) i k = v) = true → H i k = v := fun i k v e => by
    rw [hH]
    exact of_decide_eq_true e
  rw [← hH]
  have z48 : H 48 0 = 0 := c 48 0 0 (by decide +kernel)
  have z408 : H 40 8 = 0 := c 40 8 0 (by decide +kernel)
  have z04 : H 0 4 = 0 := c 0 4 0 (by decide +kernel)
  refine ⟨1, 1, 0, 0, 0, Or.inl rfl, c 40 0 _ (by decide +kernel), c 17 1 _ (by decide +kernel), ⟨⟨by omega, by omega, by omega, by omega, by omega⟩, ⟨c 1 0 _ (by decide +kernel), c 115 0 _ (by decide +kernel), c 1 1 _ (by decide +kernel), c 115 1 _ (by decide +kernel), c 1 2 _ (by decide +kernel), c 115 2 _ (by decide +kernel), c 1 3 _ (by decide +kernel), c 115 3 _ (by decide +kernel), 50, 10, by omega, by omega, by omega, c 1 4 _ (by decide +kernel), c 115 5 _ (by decide +kernel), c 1 5 _ (by decide +kernel), c 115 6 _ (by decide +kernel)⟩, fun d hd => absurd hd (by omega), fun d hd => absurd hd (by omega), fun d hd => absurd hd (by omega), 0, 0, 0, by omega, by omega, by omega, c 10 0 _ (by decide +kernel), c 115 4 _ (by decide +kernel), c 10 1 _ (by decide +kernel), c 115 8 _ (by decide +kernel), c 10 2 _ (by decide +kernel), c 115 7 _ (by decide +kernel), ⟨fun _ => 0, fun _ => 0, rfl, rfl, fun r hr => absurd hr (by omega)⟩, fun k hk => absurd hk (by omega), fun k hk => absurd hk (by omega)⟩, ⟨0, ⟨fun o k m e => ?_, fun o k b m e => ?_, fun d hd => absurd hd (by omega), 0, c 49 0 _ (by decide +kernel), c 117 9 _ (by decide +kernel), rfl, fun e he => absurd he (by omega)⟩, ⟨Or.inl (c 117 1 _ (by decide +kernel)), 100, by omega, c 117 2 _ (by decide +kernel)⟩, ⟨0, by omega, c 117 0 _ (by decide +kernel), by omega⟩, fun d hd => absurd hd (by omega), fun d hd => absurd hd (by omega), fun i hi hb => ?_, fun i hi hb => ?_, Or.inl ⟨c 117 7 _ (by decide +kernel), z48⟩⟩, fun k hk => ⟨?_, ?_, fun hb => ?_⟩, ⟨0, by omega, c 18 1 _ (by decide +kernel), c 114 9 _ (by decide +kernel), fun i hi => absurd hi (by omega)⟩, ?_, ?_⟩
  · rcases e with ⟨rfl, rfl, rfl⟩ | ⟨rfl, rfl, rfl⟩ | ⟨rfl, rfl, rfl⟩ | ⟨rfl, rfl, rfl⟩ | ⟨rfl, rfl, rfl⟩ | ⟨rfl, rfl, rfl⟩ | ⟨rfl, rfl, rfl⟩ | ⟨rfl, rfl, rfl⟩ | ⟨rfl, k1, rfl⟩ | ⟨rfl, k1, rfl⟩ | ⟨rfl, k1, -⟩ | ⟨rfl, k1, -⟩ | ⟨rfl, k1, -⟩ | ⟨rfl, k1, -⟩ | ⟨rfl, k1, k2, -⟩ | ⟨rfl, k1, k2, -⟩ | ⟨rfl, k1, k2, -⟩ | ⟨rfl, k1, k2, -⟩
    · rw [c 117 0 0 (by decide +kernel)]; exact c 40 1 0 (by decide +kernel)
    · rw [c 117 1 0 (by decide +kernel)]; exact c 40 2 0 (by decide +kernel)
    · rw [c 117 3 0 (by decide +kernel)]; exact c 40 3 0 (by decide +kernel)
    · rw [c 117 2 100 (by decide +kernel)]; exact c 40 4 100 (by decide +kernel)
    · rw [c 117 4 0 (by decide +kernel)]; exact c 40 5 0 (by decide +kernel)
    · rw [c 117 5 0 (by decide +kernel)]; exact c 47 22 0 (by decide +kernel)
    · rw [c 117 7 (-1) (by decide +kernel)]; exact c 48 2 (-1) (by decide +kernel)
    · rw [c 117 8 0 (by decide +kernel)]; exact c 48 3 0 (by decide +kernel)
    · have z : k = 0 := by omega
      subst z
      rw [c 117 (10 + 4 * 0) 0 (by decide +kernel)]; exact c 41 0 0 (by decide +kernel)
    · have z : k = 0 := by omega
      subst z
      rw [c 117 (11 + 4 * 0) 0 (by decide +kernel)]; exact c 42 0 0 (by decide +kernel)
    · exact absurd k1 (by omega)
    · exact absurd k1 (by omega)
    · exact absurd k1 (by omega)
    · exact absurd k1 (by omega)
    · exact absurd k2 (by omega)
    · exact absurd k2 (by omega)
    · exact absurd k2 (by omega)
    · exact absurd k2 (by omega)
  · rcases e with ⟨rfl, rfl, rfl, rfl⟩ | ⟨rfl, rfl, k1, rfl⟩ | ⟨rfl, rfl, k1, rfl⟩ | ⟨-, -, k1, -⟩ | ⟨-, -, k1, k2, -⟩ | ⟨-, -, k1, -⟩ | ⟨-, -, k1, k2, -⟩ | ⟨-, -, k1, -⟩
    · rw [c 117 6 0 (by decide +kernel), show H (40 + 0) 8 = 0 from z408, sm_bt0]
      rfl
    · have z : b = 0 := by omega
      subst z
      rw [c 117 (12 + 4 * 0) 0 (by decide +kernel), show H (40 + 8) 0 = 0 from z48, sm_bt0]
      rfl
    · have z : b = 0 := by omega
      subst z
      rw [c 117 (13 + 4 * 0) 0 (by decide +kernel), show H (40 + 8) 1 = 0 from c 48 1 0 (by decide +kernel), sm_bt0]
      rfl
    · exact absurd k1 (by omega)
    · exact absurd k2 (by omega)
    · exact absurd k1 (by omega)
    · exact absurd k2 (by omega)
    · exact absurd k1 (by omega)
  · rw [show H (40 + 8) 0 = 0 from z48, sm_bt0] at hb
    cases hb
  · rw [z408, sm_bt0] at hb
    cases hb
  · match k, hk with
    | 0, _ => exact c 66 0 _ (by decide +kernel)
    | 1, _ => exact c 66 1 _ (by decide +kernel)
    | 2, _ => exact c 66 2 _ (by decide +kernel)
    | k + 3, z => omega
  · rw [z04, sm_bt0]
    match k, hk with
    | 0, _ => exact c 114 5 _ (by decide +kernel)
    | 1, _ => exact c 114 6 _ (by decide +kernel)
    | 2, _ => exact c 114 7 _ (by decide +kernel)
    | k + 3, z => omega
  · rw [z04, sm_bt0] at hb
    cases hb
  · rw [c 17 2 0 (by decide +kernel), c 114 15 0 (by decide +kernel)]
  · rw [c 17 3 (-1) (by decide +kernel), c 114 16 (-1) (by decide +kernel)]
