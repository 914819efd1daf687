-- WHAT OTHERS SET: sources, detectors, doors, faults, switches, commands
theorem p_wb_eq (w : Int32) (k : Nat) (b : Bool) (hk : k < 32) : (w = sm_wb w k b) ↔ sm_bt w k = b := by
  constructor
  · intro e
    rw [e, sm_bt_wb _ _ _ _ hk hk, if_pos rfl]
  · intro e
    apply sm_bt_ext
    intro j hj
    rw [sm_bt_wb _ _ _ _ hk hj]
    by_cases z : j = k
    · rw [if_pos z, z, e]
    · rw [if_neg z]
theorem p_ud_id {q : Nat → Int32} {k : Nat} {v : Int32} (e : q k = v) : upd q k v = q := by
  funext j
  unfold upd
  by_cases z : j = k
  · rw [if_pos z, z, e]
  · rw [if_neg z]
theorem e_flip {g : sm_H} {q : Nat → Int32} {m : Nat} (hm : m < 350) {c : Bool} (hc : q m = sm_b2i c) (v : Int32) : f_mo_flip 114 (nI m) v (sm_row g 117 q) = some (sm_b2i (c != !decide (v = 0)), sm_row g 117 (upd q m (sm_b2i (!decide (v = 0))))) := by
  have r : sm_row g 117 q (114 + 3) = q := p_row_at (i := 117)
  have K : ∀ b : Bool, f_mo_flip_L9 114 (nI m) (sm_b2i b) (sm_row g 117 q) = some (sm_b2i (c != b), sm_row g 117 (upd q m (sm_b2i b))) := by
    intro b
    unfold f_mo_flip_L9
    dsimp only [sm_let]
    rw [sm_gd_t (sm_inb_nI hm (by omega)), nI_clamp (by omega), r, hc]
    by_cases z : c = b
    · subst z
      rw [if_pos rfl, p_ud_id hc]
      cases c <;> rfl
    · rw [if_neg (fun e => z (sm_b2i_inj e)), sm_gd_t (sm_inb_nI hm (by omega))]
      have e1 : (c != b) = true := by cases c <;> cases b <;> first | rfl | exact absurd rfl z
      rw [e1]
      exact congrArg (fun z => some ((1 : Int32), z)) (p_row_up (i := 117))
  unfold f_mo_flip
  by_cases z : v = 0
  · rw [if_pos z, decide_eq_true z]
    exact K false
  · rw [if_neg z, decide_eq_false z]
    exact K true
section p_set
variable {p Z D F R j : Nat} {h : sm_H}
theorem p_R0.now {h1 : sm_H} {q : Nat → Int32} (G : p_R0 j p Z D F R h) (e : ∀ i, i < 40 ∨ 52 < i → h1 i = h i) (h0 : h1 40 0 = h 40 0) (S : p_SO Z D F R 40 h1 q (h 115) (j + 6)) : p_R0 (j + 6) p Z D F R (sm_row h1 117 q) := by
  refine G.step ⟨fun i hi => ?_, fun k hk => ?_⟩ ?_ ?_
  · rw [p_row_off (by omega), e i (by omega)]
  · rw [p_row_off (by omega), e 114 (by omega)]
  · rw [p_row_off (by omega), h0]
    exact G.2.1
  · rw [p_row_at]
    exact S.rows (fun o ho => p_row_off (by omega))
theorem p_RG.cong {s t : Nat} {h1 : sm_H} {q q' w : Nat → Int32} (S : p_RG Z D F s h q w t j) (e0 : q' 0 = q 0) (e1 : q' 1 = q 1 ∧ q' 2 = q 2) (e7 : q' 7 = q 7) (ed : ∀ d, d < D → q' (42 + 7 * d) = q (42 + 7 * d) ∧ q' (44 + 7 * d) = q (44 + 7 * d) ∧ q' (45 + 7 * d) = q (45 + 7 * d)) (ef : ∀ f, f < F → q' (154 + 6 * f) = q (154 + 6 * f) ∧ q' (156 + 6 * f) = q (156 + 6 * f) ∧ q' (157 + 6 * f) = q (157 + 6 * f)) (h8 : h1 (s + 8) 0 = h (s + 8) 0) (ht : h1 s 8 = h s 8) : p_RG Z D F s h1 q' w t (j + 6) := by
  obtain ⟨a1, ⟨x, x1, x2, x3⟩, a3, a4, a5, a6, a7⟩ := S
  refine ⟨⟨by rw [e1.1]; exact a1.1, by rw [e1.2]; exact a1.2⟩, ⟨x, x1, by rw [e0]; exact x2, by omega⟩, fun d hd => ?_, fun f hf => ?_, by rw [h8]; exact a5, by rw [ht]; exact a6, by rw [e7, h8]; exact a7⟩
  · obtain ⟨b1, b2, b3⟩ := ed d hd
    rw [b1, b2, b3]
    exact a3 d hd
  · obtain ⟨b1, b2, b3⟩ := ef f hf
    rw [b1, b2, b3]
    exact a4 f hf
-- one cell that has no range
theorem p_SO.cell {o k m : Nat} {q w : Nat → Int32} (C : p_CT Z D F R) (S : p_SO Z D F R 40 h q w j) (v : Int32) (e : p_eq Z Z D F o k m) (ho : ¬ (o = 8 ∧ k = 0) ∧ ¬ (o = 0 ∧ k = 8)) (hm : m ≠ 0 ∧ (m ≠ 1 ∧ m ≠ 2) ∧ m ≠ 7 ∧ (∀ d, d < D → 42 + 7 * d ≠ m ∧ 44 + 7 * d ≠ m ∧ 45 + 7 * d ≠ m) ∧ ∀ f, f < F → 154 + 6 * f ≠ m ∧ 156 + 6 * f ≠ m ∧ 157 + 6 * f ≠ m) : p_SO Z D F R 40 (sm_up h (40 + o) k v) (upd q m v) w (j + 6) := by
  obtain ⟨t, S1, S2⟩ := S
  obtain ⟨m1, m2, m3, m4, m5⟩ := hm
  refine ⟨t, S1.cell C (Nat.le_refl _) v e, S2.cong (p_ud_off (by omega)) ⟨p_ud_off (by omega), p_ud_off (by omega)⟩ (p_ud_off (by omega)) (fun d hd => ?_) (fun f hf => ?_) (sm_up_off (by omega)) (sm_up_off (by omega))⟩
  · obtain ⟨a, b, c⟩ := m4 d hd
    exact ⟨p_ud_off a, p_ud_off b, p_ud_off c⟩
  · obtain ⟨a, b, c⟩ := m5 f hf
    exact ⟨p_ud_off a, p_ud_off b, p_ud_off c⟩
theorem p_SO.bit1 {o k b m : Nat} {q w : Nat → Int32} (C : p_CT Z D F R) (S : p_SO Z D F R 40 h q w j) (v : Bool) (e : p_bi Z D F R o k b m) (ho : ¬ (o = 8 ∧ k = 0) ∧ ¬ (o = 0 ∧ k = 8)) (hm : m ≠ 0 ∧ (m ≠ 1 ∧ m ≠ 2) ∧ m ≠ 7 ∧ (∀ d, d < D → 42 + 7 * d ≠ m ∧ 44 + 7 * d ≠ m ∧ 45 + 7 * d ≠ m) ∧ ∀ f, f < F → 154 + 6 * f ≠ m ∧ 156 + 6 * f ≠ m ∧ 157 + 6 * f ≠ m) : p_SO Z D F R 40 (sm_up h (40 + o) k (sm_wb (h (40 + o) k) b v)) (upd q m (sm_b2i v)) w (j + 6) := by
  obtain ⟨t, S1, S2⟩ := S
  obtain ⟨m1, m2, m3, m4, m5⟩ := hm
  refine ⟨t, S1.bit C (Nat.le_refl _) v e, S2.cong (p_ud_off (by omega)) ⟨p_ud_off (by omega), p_ud_off (by omega)⟩ (p_ud_off (by omega)) (fun d hd => ?_) (fun f hf => ?_) (sm_up_off (by omega)) (sm_up_off (by omega))⟩
  · obtain ⟨a, b, c⟩ := m4 d hd
    exact ⟨p_ud_off a, p_ud_off b, p_ud_off c⟩
  · obtain ⟨a, b, c⟩ := m5 f hf
    exact ⟨p_ud_off a, p_ud_off b, p_ud_off c⟩
-- one class cell, one reference cell: the row of the reference in sight
theorem p_self (h : sm_H) (o k : Nat) (v : Int32) (ho : o ≤ 52) : sm_up h o k v = sm_row (sm_up h o k v) 117 (h 117) := by
  rw [← sm_up_ne h o k v 117 (by omega)]
  exact (p_row_self _ _).symm
theorem s_setSource : sm_S5 p_RR := by
  intro j h x y _ hR
  obtain ⟨p, Z, D, F, R, G⟩ := hR
  obtain ⟨⟨c1, c2, c3, c4, c5⟩, ⟨z1, z2⟩, -⟩ := p_RR.parts G
  have same : ∀ r, f_sc_setSource 0 x y h = some (r, h) → f_mo_setSource 114 x y h = some (r, h) → ∃ r h1 h2, f_sc_setSource 0 x y h = some (r, h1) ∧ f_mo_setSource 114 x y h1 = some (r, h2) ∧ p_RR (j + 6) h2 := fun r a b => ⟨r, h, h, a, b, p, Z, D, F, R, G.mono⟩
  rcases p_idx x Z (by omega) with ⟨k, hk, rfl⟩ | hx
  · have a1 : ∀ g, f_mo_in y 0 50 g = some (sm_b2i (decide (0 ≤ y ∧ y ≤ 50)), g) := fun g => e_in y 0 50 g
    by_cases hy : 0 ≤ y ∧ y ≤ 50
    · have e : h 42 k = h 117 (11 + 4 * k) := G.2.2.2.2.1.eq (q_src hk)
      refine ⟨h 42 k, sm_up h 42 k y, sm_row (sm_up h 42 k y) 117 (upd (h 117) (11 + 4 * k) y), ?_, ?_, p, Z, D, F, R, G.now (fun i hi => sm_up_ne _ _ _ _ _ (by omega)) (sm_up_off (by omega)) (G.2.2.2.2.1.cell ⟨c1, c2, c3, c4, c5⟩ y (q_src hk) (by omega) ⟨by omega, by omega, by omega, fun d hd => by omega, fun f hf => by omega⟩)⟩
      · unfold f_sc_setSource f_sc_exchange
        rw [e_lacksZoneI G.1 G.2.1 z1 (by omega) hk]
        simp only [sm_b2, Option.bind_some, Nat.reduceAdd, sm_let]
        have hl : sm_len 42 = 8 := by decide +kernel
        rw [if_pos trivial, if_neg (Int32.not_lt.mpr hy.1), if_pos hy.2, if_neg (nI_pos (by omega)), hl, if_pos (nI_lt (by omega) (by omega)), sm_gd_t (sm_inb_nI (by omega) (by omega)), sm_gd_t (sm_inb_nI (by omega) (by omega)), nI_clamp (by omega)]
        rfl
      · rw [p_self h 42 k y (by omega)]
        have z3 : sm_row (sm_up h 42 k y) 117 (h 117) 115 0 = nI Z := by
          rw [p_row_off (by omega), sm_up_off (by omega)]
          exact z2
        unfold f_mo_setSource
        rw [e_isZoneI z3 (by omega) hk]
        simp only [sm_b2, Option.bind_some]
        rw [if_neg (by decide), a1, decide_eq_true hy]
        simp only [Option.bind_some]
        rw [if_neg (by decide), show (1 : Int32) = nI 1 from rfl, e_zoneIs (by omega) (by omega)]
        simp only [Option.bind_some]
        rw [e_putZone (by omega) (by omega)]
        simp only [Option.bind_some]
        rw [p_row_at, e, p_row_row, show 10 + 4 * k + 1 = 11 + 4 * k by omega]
    · refine same (-2) ?_ ?_
      · unfold f_sc_setSource f_sc_setSource_L20
        rw [e_lacksZoneI G.1 G.2.1 z1 (by omega) hk]
        simp only [sm_b2, Option.bind_some]
        rw [if_pos trivial]
        by_cases y0 : y < 0
        · rw [if_pos y0]
        · rw [if_neg y0, if_neg (fun z => hy ⟨Int32.not_lt.mp y0, z⟩)]
      · unfold f_mo_setSource
        rw [e_isZoneI z2 (by omega) hk]
        simp only [sm_b2, Option.bind_some]
        rw [if_neg (by decide), a1, decide_eq_false hy]
        simp only [Option.bind_some]
        rw [if_pos (by decide)]
  · refine same (-1) ?_ ?_
    · unfold f_sc_setSource
      rw [e_lacksZoneO G.1 G.2.1 z1 hx]
      simp only [sm_b2, Option.bind_some]
      rw [if_neg (by decide)]
    · unfold f_mo_setSource
      rw [e_isZoneO z2 (by omega) hx]
      simp only [sm_b2, Option.bind_some]
      rw [if_pos trivial]
end p_set
