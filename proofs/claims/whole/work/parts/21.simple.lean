section p_cells
variable {Y Z D F R k : Nat}
theorem q_time : p_eq Y Z D F 0 1 0 := Or.inl ⟨rfl, rfl, rfl⟩
theorem q_key : p_eq Y Z D F 0 2 1 := Or.inr (Or.inl ⟨rfl, rfl, rfl⟩)
theorem q_press : p_eq Y Z D F 0 3 3 := Or.inr (Or.inr (Or.inl ⟨rfl, rfl, rfl⟩))
theorem q_thr : p_eq Y Z D F 0 4 2 := Or.inr (Or.inr (Or.inr (Or.inl ⟨rfl, rfl, rfl⟩)))
theorem q_ss : p_eq Y Z D F 0 5 4 := Or.inr (Or.inr (Or.inr (Or.inr (Or.inl ⟨rfl, rfl, rfl⟩))))
theorem q_pt : p_eq Y Z D F 7 22 5 := Or.inr (Or.inr (Or.inr (Or.inr (Or.inr (Or.inl ⟨rfl, rfl, rfl⟩)))))
theorem q_first : p_eq Y Z D F 8 2 7 := Or.inr (Or.inr (Or.inr (Or.inr (Or.inr (Or.inr (Or.inl ⟨rfl, rfl, rfl⟩))))))
theorem q_since : p_eq Y Z D F 8 3 8 := Or.inr (Or.inr (Or.inr (Or.inr (Or.inr (Or.inr (Or.inr (Or.inl ⟨rfl, rfl, rfl⟩)))))))
theorem q_smoke (hk : k < Y) : p_eq Y Z D F 1 k (10 + 4 * k) := Or.inr (Or.inr (Or.inr (Or.inr (Or.inr (Or.inr (Or.inr (Or.inr (Or.inl ⟨rfl, hk, rfl⟩))))))))
theorem q_src (hk : k < Z) : p_eq Y Z D F 2 k (11 + 4 * k) := Or.inr (Or.inr (Or.inr (Or.inr (Or.inr (Or.inr (Or.inr (Or.inr (Or.inr (Or.inl ⟨rfl, hk, rfl⟩)))))))))
theorem q_pos (hk : k < D) : p_eq Y Z D F 3 k (42 + 7 * k) := Or.inr (Or.inr (Or.inr (Or.inr (Or.inr (Or.inr (Or.inr (Or.inr (Or.inr (Or.inr (Or.inl ⟨rfl, hk, rfl⟩))))))))))
theorem q_sw (hk : k < D) : p_eq Y Z D F 4 k (44 + 7 * k) := Or.inr (Or.inr (Or.inr (Or.inr (Or.inr (Or.inr (Or.inr (Or.inr (Or.inr (Or.inr (Or.inr (Or.inl ⟨rfl, hk, rfl⟩)))))))))))
theorem q_op (hk : k < D) : p_eq Y Z D F 5 k (45 + 7 * k) := Or.inr (Or.inr (Or.inr (Or.inr (Or.inr (Or.inr (Or.inr (Or.inr (Or.inr (Or.inr (Or.inr (Or.inr (Or.inl ⟨rfl, hk, rfl⟩))))))))))))
theorem q_tm (hk : k < D) : p_eq Y Z D F 7 k (47 + 7 * k) := Or.inr (Or.inr (Or.inr (Or.inr (Or.inr (Or.inr (Or.inr (Or.inr (Or.inr (Or.inr (Or.inr (Or.inr (Or.inr (Or.inl ⟨rfl, hk, rfl⟩)))))))))))))
theorem q_lev (hk : k < F) : p_eq Y Z D F 3 (16 + k) (154 + 6 * k) := Or.inr (Or.inr (Or.inr (Or.inr (Or.inr (Or.inr (Or.inr (Or.inr (Or.inr (Or.inr (Or.inr (Or.inr (Or.inr (Or.inr (Or.inl ⟨rfl, by omega, by omega, by omega⟩))))))))))))))
theorem q_fsw (hk : k < F) : p_eq Y Z D F 4 (16 + k) (156 + 6 * k) := Or.inr (Or.inr (Or.inr (Or.inr (Or.inr (Or.inr (Or.inr (Or.inr (Or.inr (Or.inr (Or.inr (Or.inr (Or.inr (Or.inr (Or.inr (Or.inl ⟨rfl, by omega, by omega, by omega⟩)))))))))))))))
theorem q_fop (hk : k < F) : p_eq Y Z D F 5 (16 + k) (157 + 6 * k) := Or.inr (Or.inr (Or.inr (Or.inr (Or.inr (Or.inr (Or.inr (Or.inr (Or.inr (Or.inr (Or.inr (Or.inr (Or.inr (Or.inr (Or.inr (Or.inr (Or.inl ⟨rfl, by omega, by omega, by omega⟩))))))))))))))))
theorem q_ftm (hk : k < F) : p_eq Y Z D F 7 (16 + k) (158 + 6 * k) := Or.inr (Or.inr (Or.inr (Or.inr (Or.inr (Or.inr (Or.inr (Or.inr (Or.inr (Or.inr (Or.inr (Or.inr (Or.inr (Or.inr (Or.inr (Or.inr (Or.inr (⟨rfl, by omega, by omega, by omega⟩)))))))))))))))))
theorem w_pt : p_bi Z D F R 0 8 22 6 := Or.inl ⟨rfl, rfl, rfl, rfl⟩
theorem w_al (hk : k < Z) : p_bi Z D F R 8 0 k (12 + 4 * k) := Or.inr (Or.inl ⟨rfl, rfl, hk, rfl⟩)
theorem w_dis (hk : k < Z) : p_bi Z D F R 8 1 k (13 + 4 * k) := Or.inr (Or.inr (Or.inl ⟨rfl, rfl, hk, rfl⟩))
theorem w_jam (hk : k < D) : p_bi Z D F R 0 7 k (43 + 7 * k) := Or.inr (Or.inr (Or.inr (Or.inl ⟨rfl, rfl, hk, rfl⟩)))
theorem w_brk (hk : k < F) : p_bi Z D F R 0 7 (16 + k) (155 + 6 * k) := Or.inr (Or.inr (Or.inr (Or.inr (Or.inl ⟨rfl, rfl, by omega, by omega, by omega⟩))))
theorem w_tr (hk : k < D) : p_bi Z D F R 0 8 k (48 + 7 * k) := Or.inr (Or.inr (Or.inr (Or.inr (Or.inr (Or.inl ⟨rfl, rfl, hk, rfl⟩)))))
theorem w_ftr (hk : k < F) : p_bi Z D F R 0 8 (16 + k) (159 + 6 * k) := Or.inr (Or.inr (Or.inr (Or.inr (Or.inr (Or.inr (Or.inl ⟨rfl, rfl, by omega, by omega, by omega⟩))))))
theorem w_door (hk : k < R) : p_bi Z D F R 0 6 k (190 + k) := Or.inr (Or.inr (Or.inr (Or.inr (Or.inr (Or.inr (Or.inr (⟨rfl, rfl, hk, rfl⟩)))))))
end p_cells
-- SIMPLE METHODS
section p_simple
variable {p Z D F R j : Nat} {h : sm_H}
theorem e_lacksZoneI (hp : p = 1 ∨ p = 24) (h0 : h 40 0 = nI p) {n : Nat} (hn : h p 0 = nI n) (hl : n < 2 ^ 31) {x : Nat} (hx : x < n) : f_sc_lacksZone 0 (nI x) h = some (0, h) := by
  obtain ⟨i1, i2⟩ := p_isPp hp
  unfold f_sc_lacksZone f_sc_lacksZone_L23 f_sc_lacksZone_L18
  simp only [Nat.reduceAdd, sm_let]
  rw [if_neg (nI_pos (by omega)), h0, sm_gd_t i1, i2, hn, if_pos (nI_lt hx hl), sm_gd_t (by decide)]
theorem e_lacksZoneO (hp : p = 1 ∨ p = 24) (h0 : h 40 0 = nI p) {n : Nat} (hn : h p 0 = nI n) {x : Int32} (hx : x < 0 ∨ nI n ≤ x) : f_sc_lacksZone 0 x h = some (1, h) := by
  obtain ⟨i1, i2⟩ := p_isPp hp
  unfold f_sc_lacksZone f_sc_lacksZone_L18 f_sc_lacksZone_L23
  simp only [Nat.reduceAdd, sm_let]
  by_cases z : x < 0
  · rw [if_pos z, sm_gd_t (by decide)]
  · rw [if_neg z, h0, sm_gd_t i1, i2, hn, if_neg (Int32.not_lt.mpr (hx.resolve_left z)), sm_gd_t (by decide)]
theorem e_lacksDamperI (hp : p = 1 ∨ p = 24) (h0 : h 40 0 = nI p) {n : Nat} (hn : h p 1 = nI n) (hl : n < 2 ^ 31) {x : Nat} (hx : x < n) : f_sc_lacksDamper 0 (nI x) h = some (0, h) := by
  obtain ⟨i1, i2⟩ := p_isPp hp
  unfold f_sc_lacksDamper f_sc_lacksDamper_L23 f_sc_lacksDamper_L18
  simp only [Nat.reduceAdd, sm_let]
  rw [if_neg (nI_pos (by omega)), h0, sm_gd_t i1, i2, hn, if_pos (nI_lt hx hl), sm_gd_t (by decide)]
theorem e_lacksDamperO (hp : p = 1 ∨ p = 24) (h0 : h 40 0 = nI p) {n : Nat} (hn : h p 1 = nI n) {x : Int32} (hx : x < 0 ∨ nI n ≤ x) : f_sc_lacksDamper 0 x h = some (1, h) := by
  obtain ⟨i1, i2⟩ := p_isPp hp
  unfold f_sc_lacksDamper f_sc_lacksDamper_L18 f_sc_lacksDamper_L23
  simp only [Nat.reduceAdd, sm_let]
  by_cases z : x < 0
  · rw [if_pos z, sm_gd_t (by decide)]
  · rw [if_neg z, h0, sm_gd_t i1, i2, hn, if_neg (Int32.not_lt.mpr (hx.resolve_left z)), sm_gd_t (by decide)]
theorem e_lacksFanI (hp : p = 1 ∨ p = 24) (h0 : h 40 0 = nI p) {n : Nat} (hn : h p 2 = nI n) (hl : n < 2 ^ 31) {x : Nat} (hx : x < n) : f_sc_lacksFan 0 (nI x) h = some (0, h) := by
  obtain ⟨i1, i2⟩ := p_isPp hp
  unfold f_sc_lacksFan f_sc_lacksFan_L23 f_sc_lacksFan_L18
  simp only [Nat.reduceAdd, sm_let]
  rw [if_neg (nI_pos (by omega)), h0, sm_gd_t i1, i2, hn, if_pos (nI_lt hx hl), sm_gd_t (by decide)]
theorem e_lacksFanO (hp : p = 1 ∨ p = 24) (h0 : h 40 0 = nI p) {n : Nat} (hn : h p 2 = nI n) {x : Int32} (hx : x < 0 ∨ nI n ≤ x) : f_sc_lacksFan 0 x h = some (1, h) := by
  obtain ⟨i1, i2⟩ := p_isPp hp
  unfold f_sc_lacksFan f_sc_lacksFan_L18 f_sc_lacksFan_L23
  simp only [Nat.reduceAdd, sm_let]
  by_cases z : x < 0
  · rw [if_pos z, sm_gd_t (by decide)]
  · rw [if_neg z, h0, sm_gd_t i1, i2, hn, if_neg (Int32.not_lt.mpr (hx.resolve_left z)), sm_gd_t (by decide)]
theorem e_isZoneI {n : Nat} (hn : h 115 0 = nI n) (hl : n < 2 ^ 31) {x : Nat} (hx : x < n) : f_mo_isZone 114 (nI x) h = some (1, h) := by
  unfold f_mo_isZone
  have c : (0 : Int32).toNatClampNeg = 0 := by decide
  simp only [Nat.reduceAdd, sm_b2]
  rw [sm_gd_t (by decide), c, hn, e_inI hx hl]
  simp only [Option.bind_some]
  rw [sm_gd_t (by decide)]
theorem e_isZoneO {n : Nat} (hn : h 115 0 = nI n) (hl : n < 2 ^ 31) {x : Int32} (hx : x < 0 ∨ nI n ≤ x) : f_mo_isZone 114 x h = some (0, h) := by
  unfold f_mo_isZone
  have c : (0 : Int32).toNatClampNeg = 0 := by decide
  simp only [Nat.reduceAdd, sm_b2]
  rw [sm_gd_t (by decide), c, hn, e_inO hx hl]
  simp only [Option.bind_some]
  rw [sm_gd_t (by decide)]
theorem e_isDamperI {n : Nat} (hn : h 115 1 = nI n) (hl : n < 2 ^ 31) {x : Nat} (hx : x < n) : f_mo_isDamper 114 (nI x) h = some (1, h) := by
  unfold f_mo_isDamper
  have c : (1 : Int32).toNatClampNeg = 1 := by decide
  simp only [Nat.reduceAdd, sm_b2]
  rw [sm_gd_t (by decide), c, hn, e_inI hx hl]
  simp only [Option.bind_some]
  rw [sm_gd_t (by decide)]
theorem e_isDamperO {n : Nat} (hn : h 115 1 = nI n) (hl : n < 2 ^ 31) {x : Int32} (hx : x < 0 ∨ nI n ≤ x) : f_mo_isDamper 114 x h = some (0, h) := by
  unfold f_mo_isDamper
  have c : (1 : Int32).toNatClampNeg = 1 := by decide
  simp only [Nat.reduceAdd, sm_b2]
  rw [sm_gd_t (by decide), c, hn, e_inO hx hl]
  simp only [Option.bind_some]
  rw [sm_gd_t (by decide)]
theorem e_isFanI {n : Nat} (hn : h 115 2 = nI n) (hl : n < 2 ^ 31) {x : Nat} (hx : x < n) : f_mo_isFan 114 (nI x) h = some (1, h) := by
  unfold f_mo_isFan
  have c : (2 : Int32).toNatClampNeg = 2 := by decide
  simp only [Nat.reduceAdd, sm_b2]
  rw [sm_gd_t (by decide), c, hn, e_inI hx hl]
  simp only [Option.bind_some]
  rw [sm_gd_t (by decide)]
theorem e_isFanO {n : Nat} (hn : h 115 2 = nI n) (hl : n < 2 ^ 31) {x : Int32} (hx : x < 0 ∨ nI n ≤ x) : f_mo_isFan 114 x h = some (0, h) := by
  unfold f_mo_isFan
  have c : (2 : Int32).toNatClampNeg = 2 := by decide
  simp only [Nat.reduceAdd, sm_b2]
  rw [sm_gd_t (by decide), c, hn, e_inO hx hl]
  simp only [Option.bind_some]
  rw [sm_gd_t (by decide)]
theorem e_isDoorI {n : Nat} (hn : h 115 3 = nI n) (hl : n < 2 ^ 31) {x : Nat} (hx : x < n) : f_mo_isDoor 114 (nI x) h = some (1, h) := by
  unfold f_mo_isDoor
  have c : (3 : Int32).toNatClampNeg = 3 := by decide
  simp only [Nat.reduceAdd, sm_b2]
  rw [sm_gd_t (by decide), c, hn, e_inI hx hl]
  simp only [Option.bind_some]
  rw [sm_gd_t (by decide)]
theorem e_isDoorO {n : Nat} (hn : h 115 3 = nI n) (hl : n < 2 ^ 31) {x : Int32} (hx : x < 0 ∨ nI n ≤ x) : f_mo_isDoor 114 x h = some (0, h) := by
  unfold f_mo_isDoor
  have c : (3 : Int32).toNatClampNeg = 3 := by decide
  simp only [Nat.reduceAdd, sm_b2]
  rw [sm_gd_t (by decide), c, hn, e_inO hx hl]
  simp only [Option.bind_some]
  rw [sm_gd_t (by decide)]
theorem e_zoneIs {d w : Nat} (hd : d < 8) (hw : w < 4) (g : sm_H) : f_mo_zoneIs 114 (nI d) (nI w) g = some (g 117 (10 + 4 * d + w), g) := by
  unfold f_mo_zoneIs
  have e : (10 : Int32) + 4 * nI d + nI w = nI (10 + 4 * d + w) := by
    have e1 : (4 : Int32) * nI d = nI (4 * d) := nI_mul 4 d
    have e2 : (10 : Int32) + nI (4 * d) = nI (10 + 4 * d) := nI_add 10 _
    rw [e1, e2, nI_add]
  rw [e, sm_gd_t (sm_inb_nI (by omega) (by omega)), nI_clamp (by omega)]
theorem e_damperIs {d w : Nat} (hd : d < 16) (hw : w < 7) (g : sm_H) : f_mo_damperIs 114 (nI d) (nI w) g = some (g 117 (42 + 7 * d + w), g) := by
  unfold f_mo_damperIs
  have e : (42 : Int32) + 7 * nI d + nI w = nI (42 + 7 * d + w) := by
    have e1 : (7 : Int32) * nI d = nI (7 * d) := nI_mul 7 d
    have e2 : (42 : Int32) + nI (7 * d) = nI (42 + 7 * d) := nI_add 42 _
    rw [e1, e2, nI_add]
  rw [e, sm_gd_t (sm_inb_nI (by omega) (by omega)), nI_clamp (by omega)]
theorem e_fanIs {d w : Nat} (hd : d < 6) (hw : w < 6) (g : sm_H) : f_mo_fanIs 114 (nI d) (nI w) g = some (g 117 (154 + 6 * d + w), g) := by
  unfold f_mo_fanIs
  have e : (154 : Int32) + 6 * nI d + nI w = nI (154 + 6 * d + w) := by
    have e1 : (6 : Int32) * nI d = nI (6 * d) := nI_mul 6 d
    have e2 : (154 : Int32) + nI (6 * d) = nI (154 + 6 * d) := nI_add 154 _
    rw [e1, e2, nI_add]
  rw [e, sm_gd_t (sm_inb_nI (by omega) (by omega)), nI_clamp (by omega)]
theorem e_putZone {d w : Nat} (hd : d < 8) (hw : w < 4) (v : Int32) (g : sm_H) (q : Nat → Int32) : f_mo_putZone 114 (nI d) (nI w) v (sm_row g 117 q) = some (sm_row g 117 (upd q (10 + 4 * d + w) v)) := by
  unfold f_mo_putZone
  have e : (10 : Int32) + 4 * nI d + nI w = nI (10 + 4 * d + w) := by
    have e1 : (4 : Int32) * nI d = nI (4 * d) := nI_mul 4 d
    have e2 : (10 : Int32) + nI (4 * d) = nI (10 + 4 * d) := nI_add 10 _
    rw [e1, e2, nI_add]
  dsimp only [sm_let]
  rw [e, sm_gd_t (sm_inb_nI (by omega) (by omega)), nI_clamp (by omega)]
  exact congrArg some (p_row_up (i := 117))
theorem e_put {d w : Nat} (hd : d < 16) (hw : w < 7) (v : Int32) (g : sm_H) (q : Nat → Int32) : f_mo_put 114 (nI d) (nI w) v (sm_row g 117 q) = some (sm_row g 117 (upd q (42 + 7 * d + w) v)) := by
  unfold f_mo_put
  have e : (42 : Int32) + 7 * nI d + nI w = nI (42 + 7 * d + w) := by
    have e1 : (7 : Int32) * nI d = nI (7 * d) := nI_mul 7 d
    have e2 : (42 : Int32) + nI (7 * d) = nI (42 + 7 * d) := nI_add 42 _
    rw [e1, e2, nI_add]
  dsimp only [sm_let]
  rw [e, sm_gd_t (sm_inb_nI (by omega) (by omega)), nI_clamp (by omega)]
  exact congrArg some (p_row_up (i := 117))
theorem e_putFan {d w : Nat} (hd : d < 6) (hw : w < 6) (v : Int32) (g : sm_H) (q : Nat → Int32) : f_mo_putFan 114 (nI d) (nI w) v (sm_row g 117 q) = some (sm_row g 117 (upd q (154 + 6 * d + w) v)) := by
  unfold f_mo_putFan
  have e : (154 : Int32) + 6 * nI d + nI w = nI (154 + 6 * d + w) := by
    have e1 : (6 : Int32) * nI d = nI (6 * d) := nI_mul 6 d
    have e2 : (154 : Int32) + nI (6 * d) = nI (154 + 6 * d) := nI_add 154 _
    rw [e1, e2, nI_add]
  dsimp only [sm_let]
  rw [e, sm_gd_t (sm_inb_nI (by omega) (by omega)), nI_clamp (by omega)]
  exact congrArg some (p_row_up (i := 117))
theorem e_damperOf {d w : Nat} (hd : d < 16) (hw : w < 4) (g : sm_H) : f_mo_damperOf 114 (nI d) (nI w) g = some (g 115 (10 + 4 * d + w), g) := by
  unfold f_mo_damperOf
  have e : (10 : Int32) + 4 * nI d + nI w = nI (10 + 4 * d + w) := by
    have e1 : (4 : Int32) * nI d = nI (4 * d) := nI_mul 4 d
    have e2 : (10 : Int32) + nI (4 * d) = nI (10 + 4 * d) := nI_add 10 _
    rw [e1, e2, nI_add]
  rw [e, sm_gd_t (sm_inb_nI (by omega) (by omega)), nI_clamp (by omega)]
theorem e_fanOf {d w : Nat} (hd : d < 6) (hw : w < 4) (g : sm_H) : f_mo_fanOf 114 (nI d) (nI w) g = some (g 115 (74 + 4 * d + w), g) := by
  unfold f_mo_fanOf
  have e : (74 : Int32) + 4 * nI d + nI w = nI (74 + 4 * d + w) := by
    have e1 : (4 : Int32) * nI d = nI (4 * d) := nI_mul 4 d
    have e2 : (74 : Int32) + nI (4 * d) = nI (74 + 4 * d) := nI_add 74 _
    rw [e1, e2, nI_add]
  rw [e, sm_gd_t (sm_inb_nI (by omega) (by omega)), nI_clamp (by omega)]
theorem e_doorOf {d w : Nat} (hd : d < 10) (hw : w < 3) (g : sm_H) : f_mo_doorOf 114 (nI d) (nI w) g = some (g 115 (98 + 3 * d + w), g) := by
  unfold f_mo_doorOf
  have e : (98 : Int32) + 3 * nI d + nI w = nI (98 + 3 * d + w) := by
    have e1 : (3 : Int32) * nI d = nI (3 * d) := nI_mul 3 d
    have e2 : (98 : Int32) + nI (3 * d) = nI (98 + 3 * d) := nI_add 98 _
    rw [e1, e2, nI_add]
  rw [e, sm_gd_t (sm_inb_nI (by omega) (by omega)), nI_clamp (by omega)]
end p_simple
