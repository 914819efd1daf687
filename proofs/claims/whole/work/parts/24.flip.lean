section p_set2
variable {p Z D F R j : Nat} {h : sm_H}
theorem p_bne (w : Int32) (k : Nat) (b : Bool) (hk : k < 32) (f : Int32 → sm_H → Option (Int32 × sm_H)) (g : sm_H) : (if w = sm_wb w k b then f 0 g else f 1 g) = f (sm_b2i (sm_bt w k != b)) g := by
  by_cases z : w = sm_wb w k b
  · rw [if_pos z, (p_wb_eq w k b hk).mp z]
    cases b <;> rfl
  · have e : ¬ sm_bt w k = b := fun y => z ((p_wb_eq w k b hk).mpr y)
    rw [if_neg z]
    revert e
    cases sm_bt w k <;> cases b <;> intro e <;> first | rfl | exact absurd rfl e
theorem e_setFaulty {k : Nat} (hk : k < 32) (v : Int32) (h : sm_H) : f_sc_setFaulty 0 (nI k) v h = some (sm_b2i (sm_bt (h 40 7) k != !decide (v = 0)), sm_up h 40 7 (sm_wb (h 40 7) k (!decide (v = 0)))) := by
  unfold f_sc_setFaulty f_sc_setFaulty_L37
  simp only [Nat.reduceAdd, sm_let, sm_b2]
  rw [e_with]
  simp only [Option.bind_some]
  rw [p_up_at]
  exact p_bne _ _ _ hk (fun r g => some (r, g)) _
theorem s_setDetector : sm_S6 p_RR := by
  intro j h x y _ hR hy
  obtain ⟨p, Z, D, F, R, G⟩ := hR
  obtain ⟨⟨c1, c2, c3, c4, c5⟩, ⟨z1, z2⟩, ⟨d1, d2⟩, ⟨f1, f2⟩, r1, r2⟩ := p_RR.parts G
  have same : ∀ r, f_sc_setDetector 0 x y h = some (r, h) → f_mo_setDetector 114 x y h = some (r, h) → ∃ r h1 h2, f_sc_setDetector 0 x y h = some (r, h1) ∧ f_mo_setDetector 114 x y h1 = some (r, h2) ∧ p_RR (j + 6) h2 := fun r a b => ⟨r, h, h, a, b, p, Z, D, F, R, G.mono⟩
  rcases p_idx x Z (by omega) with ⟨k, hk, rfl⟩ | hx
  · have e : h 117 (13 + 4 * k) = sm_b2i (sm_bt (h 48 1) k) := G.2.2.2.2.1.bit (w_dis hk)
    refine ⟨sm_b2i (sm_bt (h 48 1) k != !decide (y = 0)), sm_up h 48 1 (sm_wb (h 48 1) k (!decide (y = 0))), sm_row (sm_up h 48 1 (sm_wb (h 48 1) k (!decide (y = 0)))) 117 (upd (h 117) (13 + 4 * k) (sm_b2i (!decide (y = 0)))), ?_, ?_, p, Z, D, F, R, G.now (fun i hi => sm_up_ne _ _ _ _ _ (by omega)) (sm_up_off (by omega)) (G.2.2.2.2.1.bit1 ⟨c1, c2, c3, c4, c5⟩ _ (w_dis hk) (by omega) ⟨by omega, by omega, by omega, fun d hd => by omega, fun f hf => by omega⟩)⟩
    · unfold f_sc_setDetector f_sc_setDetector_L56
      rw [e_lacksZoneI G.1 G.2.1 z1 (by omega) hk]
      simp only [sm_b2, Option.bind_some, Nat.reduceAdd, sm_let]
      rw [if_pos trivial, e_with]
      simp only [Option.bind_some]
      rw [p_up_at]
      exact p_bne _ _ _ (by omega) (fun r g => some (r, g)) _
    · rw [p_self h 48 1 _ (by omega)]
      have z3 : sm_row (sm_up h 48 1 (sm_wb (h 48 1) k (!decide (y = 0)))) 117 (h 117) 115 0 = nI Z := by
        rw [p_row_off (by omega), sm_up_off (by omega)]
        exact z2
      have ei : (10 + 4 * nI k + 3 : Int32) = nI (13 + 4 * k) := by
        have e1 : (4 : Int32) * nI k = nI (4 * k) := nI_mul 4 k
        have e2 : (10 : Int32) + nI (4 * k) = nI (10 + 4 * k) := nI_add 10 _
        have e3 : nI (10 + 4 * k) + nI 3 = nI (10 + 4 * k + 3) := nI_add _ _
        rw [e1, e2, show (3 : Int32) = nI 3 from rfl, e3]
        congr 1
        omega
      unfold f_mo_setDetector f_mo_setDetector_L25
      rw [e_isZoneI z3 (by omega) hk]
      simp only [sm_b2, Option.bind_some]
      rw [if_neg (by decide), ei, e_flip (by omega) e]
      simp only [Option.bind_some]
      rw [p_row_row]
  · refine same (-1) ?_ ?_
    · unfold f_sc_setDetector
      rw [e_lacksZoneO G.1 G.2.1 z1 hx]
      simp only [sm_b2, Option.bind_some]
      rw [if_neg (by decide)]
    · unfold f_mo_setDetector f_mo_setDetector_L25
      rw [e_isZoneO z2 (by omega) hx]
      simp only [sm_b2, Option.bind_some]
      rw [if_pos trivial]
theorem s_setDoor : sm_S7 p_RR := by
  intro j h x y _ hR hy
  obtain ⟨p, Z, D, F, R, G⟩ := hR
  obtain ⟨⟨c1, c2, c3, c4, c5⟩, ⟨z1, z2⟩, ⟨d1, d2⟩, ⟨f1, f2⟩, r1, r2⟩ := p_RR.parts G
  have same : ∀ r, f_sc_setDoor 0 x y h = some (r, h) → f_mo_setDoor 114 x y h = some (r, h) → ∃ r h1 h2, f_sc_setDoor 0 x y h = some (r, h1) ∧ f_mo_setDoor 114 x y h1 = some (r, h2) ∧ p_RR (j + 6) h2 := fun r a b => ⟨r, h, h, a, b, p, Z, D, F, R, G.mono⟩
  rcases p_idx x R (by omega) with ⟨k, hk, rfl⟩ | hx
  · have e : h 117 (190 + k) = sm_b2i (sm_bt (h 40 6) k) := G.2.2.2.2.1.bit (w_door hk)
    refine ⟨sm_b2i (sm_bt (h 40 6) k != !decide (y = 0)), sm_up h 40 6 (sm_wb (h 40 6) k (!decide (y = 0))), sm_row (sm_up h 40 6 (sm_wb (h 40 6) k (!decide (y = 0)))) 117 (upd (h 117) (190 + k) (sm_b2i (!decide (y = 0)))), ?_, ?_, p, Z, D, F, R, G.now (fun i hi => sm_up_ne _ _ _ _ _ (by omega)) (sm_up_off (by omega)) (G.2.2.2.2.1.bit1 ⟨c1, c2, c3, c4, c5⟩ _ (w_door hk) (by omega) ⟨by omega, by omega, by omega, fun d hd => by omega, fun f hf => by omega⟩)⟩
    · obtain ⟨i1, i2⟩ := p_isPp G.1
      unfold f_sc_setDoor f_sc_setDoor_L57
      simp only [sm_b2, Nat.reduceAdd, sm_let]
      rw [if_neg (nI_pos (by omega)), G.2.1, sm_gd_t i1, i2, r1, if_pos (nI_lt hk (by omega)), e_with]
      simp only [Option.bind_some]
      rw [p_up_at]
      exact p_bne _ _ _ (by omega) (fun r g => some (r, g)) _
    · rw [p_self h 40 6 _ (by omega)]
      have z3 : sm_row (sm_up h 40 6 (sm_wb (h 40 6) k (!decide (y = 0)))) 117 (h 117) 115 3 = nI R := by
        rw [p_row_off (by omega), sm_up_off (by omega)]
        exact r2
      have ei : (190 + nI k : Int32) = nI (190 + k) := by
        exact nI_add 190 k
      unfold f_mo_setDoor f_mo_setDoor_L22
      rw [e_isDoorI z3 (by omega) hk]
      simp only [sm_b2, Option.bind_some]
      rw [if_neg (by decide), ei, e_flip (by omega) e]
      simp only [Option.bind_some]
      rw [p_row_row]
  · refine same (-1) ?_ ?_
    · obtain ⟨i1, i2⟩ := p_isPp G.1
      unfold f_sc_setDoor
      simp only [sm_b2, Nat.reduceAdd, sm_let]
      by_cases y0 : x < 0
      · rw [if_pos y0]
      · rw [if_neg y0, G.2.1, sm_gd_t i1, i2, r1, if_neg (Int32.not_lt.mpr (hx.resolve_left y0))]
    · unfold f_mo_setDoor f_mo_setDoor_L22
      rw [e_isDoorO r2 (by omega) hx]
      simp only [sm_b2, Option.bind_some]
      rw [if_pos trivial]
theorem s_jam : sm_S8 p_RR := by
  intro j h x y _ hR hy
  obtain ⟨p, Z, D, F, R, G⟩ := hR
  obtain ⟨⟨c1, c2, c3, c4, c5⟩, ⟨z1, z2⟩, ⟨d1, d2⟩, ⟨f1, f2⟩, r1, r2⟩ := p_RR.parts G
  have same : ∀ r, f_sc_jam 0 x y h = some (r, h) → f_mo_jam 114 x y h = some (r, h) → ∃ r h1 h2, f_sc_jam 0 x y h = some (r, h1) ∧ f_mo_jam 114 x y h1 = some (r, h2) ∧ p_RR (j + 6) h2 := fun r a b => ⟨r, h, h, a, b, p, Z, D, F, R, G.mono⟩
  rcases p_idx x D (by omega) with ⟨k, hk, rfl⟩ | hx
  · have e : h 117 (43 + 7 * k) = sm_b2i (sm_bt (h 40 7) k) := G.2.2.2.2.1.bit (w_jam hk)
    refine ⟨sm_b2i (sm_bt (h 40 7) k != !decide (y = 0)), sm_up h 40 7 (sm_wb (h 40 7) k (!decide (y = 0))), sm_row (sm_up h 40 7 (sm_wb (h 40 7) k (!decide (y = 0)))) 117 (upd (h 117) (43 + 7 * k) (sm_b2i (!decide (y = 0)))), ?_, ?_, p, Z, D, F, R, G.now (fun i hi => sm_up_ne _ _ _ _ _ (by omega)) (sm_up_off (by omega)) (G.2.2.2.2.1.bit1 ⟨c1, c2, c3, c4, c5⟩ _ (w_jam hk) (by omega) ⟨by omega, by omega, by omega, fun d hd => by omega, fun f hf => by omega⟩)⟩
    · unfold f_sc_jam f_sc_jam_L18
      rw [e_lacksDamperI G.1 G.2.1 d1 (by omega) hk]
      simp only [sm_b2, Option.bind_some]
      rw [if_pos trivial, e_setFaulty (by omega)]
      rfl
    · rw [p_self h 40 7 _ (by omega)]
      have z3 : sm_row (sm_up h 40 7 (sm_wb (h 40 7) k (!decide (y = 0)))) 117 (h 117) 115 1 = nI D := by
        rw [p_row_off (by omega), sm_up_off (by omega)]
        exact d2
      have ei : (42 + 7 * nI k + 1 : Int32) = nI (43 + 7 * k) := by
        have e1 : (7 : Int32) * nI k = nI (7 * k) := nI_mul 7 k
        have e2 : (42 : Int32) + nI (7 * k) = nI (42 + 7 * k) := nI_add 42 _
        have e3 : nI (42 + 7 * k) + nI 1 = nI (42 + 7 * k + 1) := nI_add _ _
        rw [e1, e2, show (1 : Int32) = nI 1 from rfl, e3]
        congr 1
        omega
      unfold f_mo_jam f_mo_jam_L26
      rw [e_isDamperI z3 (by omega) hk]
      simp only [sm_b2, Option.bind_some]
      rw [if_neg (by decide), ei, e_flip (by omega) e]
      simp only [Option.bind_some]
      rw [p_row_row]
  · refine same (-1) ?_ ?_
    · unfold f_sc_jam f_sc_jam_L18
      rw [e_lacksDamperO G.1 G.2.1 d1 hx]
      simp only [sm_b2, Option.bind_some]
      rw [if_neg (by decide)]
    · unfold f_mo_jam f_mo_jam_L26
      rw [e_isDamperO d2 (by omega) hx]
      simp only [sm_b2, Option.bind_some]
      rw [if_pos trivial]
theorem s_breakFan : sm_S9 p_RR := by
  intro j h x y _ hR hy
  obtain ⟨p, Z, D, F, R, G⟩ := hR
  obtain ⟨⟨c1, c2, c3, c4, c5⟩, ⟨z1, z2⟩, ⟨d1, d2⟩, ⟨f1, f2⟩, r1, r2⟩ := p_RR.parts G
  have same : ∀ r, f_sc_breakFan 0 x y h = some (r, h) → f_mo_breakFan 114 x y h = some (r, h) → ∃ r h1 h2, f_sc_breakFan 0 x y h = some (r, h1) ∧ f_mo_breakFan 114 x y h1 = some (r, h2) ∧ p_RR (j + 6) h2 := fun r a b => ⟨r, h, h, a, b, p, Z, D, F, R, G.mono⟩
  rcases p_idx x F (by omega) with ⟨k, hk, rfl⟩ | hx
  · have e : h 117 (155 + 6 * k) = sm_b2i (sm_bt (h 40 7) (16 + k)) := G.2.2.2.2.1.bit (w_brk hk)
    refine ⟨sm_b2i (sm_bt (h 40 7) (16 + k) != !decide (y = 0)), sm_up h 40 7 (sm_wb (h 40 7) (16 + k) (!decide (y = 0))), sm_row (sm_up h 40 7 (sm_wb (h 40 7) (16 + k) (!decide (y = 0)))) 117 (upd (h 117) (155 + 6 * k) (sm_b2i (!decide (y = 0)))), ?_, ?_, p, Z, D, F, R, G.now (fun i hi => sm_up_ne _ _ _ _ _ (by omega)) (sm_up_off (by omega)) (G.2.2.2.2.1.bit1 ⟨c1, c2, c3, c4, c5⟩ _ (w_brk hk) (by omega) ⟨by omega, by omega, by omega, fun d hd => by omega, fun f hf => by omega⟩)⟩
    · unfold f_sc_breakFan f_sc_breakFan_L21
      rw [e_lacksFanI G.1 G.2.1 f1 (by omega) hk]
      simp only [sm_b2, Option.bind_some]
      rw [if_pos trivial, show (16 : Int32) + nI k = nI (16 + k) from nI_add 16 k, e_setFaulty (by omega)]
      rfl
    · rw [p_self h 40 7 _ (by omega)]
      have z3 : sm_row (sm_up h 40 7 (sm_wb (h 40 7) (16 + k) (!decide (y = 0)))) 117 (h 117) 115 2 = nI F := by
        rw [p_row_off (by omega), sm_up_off (by omega)]
        exact f2
      have ei : (154 + 6 * nI k + 1 : Int32) = nI (155 + 6 * k) := by
        have e1 : (6 : Int32) * nI k = nI (6 * k) := nI_mul 6 k
        have e2 : (154 : Int32) + nI (6 * k) = nI (154 + 6 * k) := nI_add 154 _
        have e3 : nI (154 + 6 * k) + nI 1 = nI (154 + 6 * k + 1) := nI_add _ _
        rw [e1, e2, show (1 : Int32) = nI 1 from rfl, e3]
        congr 1
        omega
      unfold f_mo_breakFan f_mo_breakFan_L27
      rw [e_isFanI z3 (by omega) hk]
      simp only [sm_b2, Option.bind_some]
      rw [if_neg (by decide), ei, e_flip (by omega) e]
      simp only [Option.bind_some]
      rw [p_row_row]
  · refine same (-1) ?_ ?_
    · unfold f_sc_breakFan f_sc_breakFan_L21
      rw [e_lacksFanO G.1 G.2.1 f1 hx]
      simp only [sm_b2, Option.bind_some]
      rw [if_neg (by decide)]
    · unfold f_mo_breakFan f_mo_breakFan_L27
      rw [e_isFanO f2 (by omega) hx]
      simp only [sm_b2, Option.bind_some]
      rw [if_pos trivial]
end p_set2
