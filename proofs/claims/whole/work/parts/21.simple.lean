-- SIMPLE METHODS
section p_simple
variable {p Z D F R j : Nat} {h : sm_H}
theorem e_lacksZoneI (hp : p = 1 ∨ p = 24) (h0 : h 40 0 = nI p) {n : Nat} (hn : h p 0 = nI n) (hl : n < 2 ^ 31) {x : Nat} (hx : x < n) : f_sc_lacksZone 0 (nI x) h = some (0, h) := by
  obtain ⟨i1, i2⟩ := p_isPp hp
  unfold f_sc_lacksZone f_sc_lacksZone_L23 f_sc_lacksZone_L18
  simp only [Nat.reduceAdd, sm_let]
  rw [if_neg (nI_pos (by omega)), h0, sm_gd_t i1, i2, hn, if_pos (nI_lt hx hl), sm_gd_t (by decide)]
theorem e_lacksZoneO (hp : p = 1 ∨ p = 24) (h0 : h 40 0 = nI p) {n : Nat} (hn : h p 0 = nI n) {x : Int32} (hx : x < 0 ∨ nI n ≤ x) : f_sc_lacksZone 0 x h = some (1, h) := by
  obtain ⟨i1, i2⟩ := p_isPp hp
  unfold f_sc_lacksZone f_sc_lacksZone_L18 f_sc_lacksZone_L23
  simp only [Nat.reduceAdd, sm_let]
  by_cases z : x < 0
  · rw [if_pos z, sm_gd_t (by decide)]
  · rw [if_neg z, h0, sm_gd_t i1, i2, hn, if_neg (Int32.not_lt.mpr (hx.resolve_left z)), sm_gd_t (by decide)]
theorem e_lacksDamperI (hp : p = 1 ∨ p = 24) (h0 : h 40 0 = nI p) {n : Nat} (hn : h p 1 = nI n) (hl : n < 2 ^ 31) {x : Nat} (hx : x < n) : f_sc_lacksDamper 0 (nI x) h = some (0, h) := by
  obtain ⟨i1, i2⟩ := p_isPp hp
  unfold f_sc_lacksDamper f_sc_lacksDamper_L23 f_sc_lacksDamper_L18
  simp only [Nat.reduceAdd, sm_let]
  rw [if_neg (nI_pos (by omega)), h0, sm_gd_t i1, i2, hn, if_pos (nI_lt hx hl), sm_gd_t (by decide)]
theorem e_lacksDamperO (hp : p = 1 ∨ p = 24) (h0 : h 40 0 = nI p) {n : Nat} (hn : h p 1 = nI n) {x : Int32} (hx : x < 0 ∨ nI n ≤ x) : f_sc_lacksDamper 0 x h = some (1, h) := by
  obtain ⟨i1, i2⟩ := p_isPp hp
  unfold f_sc_lacksDamper f_sc_lacksDamper_L18 f_sc_lacksDamper_L23
  simp only [Nat.reduceAdd, sm_let]
  by_cases z : x < 0
  · rw [if_pos z, sm_gd_t (by decide)]
  · rw [if_neg z, h0, sm_gd_t i1, i2, hn, if_neg (Int32.not_lt.mpr (hx.resolve_left z)), sm_gd_t (by decide)]
theorem e_lacksFanI (hp : p = 1 ∨ p = 24) (h0 : h 40 0 = nI p) {n : Nat} (hn : h p 2 = nI n) (hl : n < 2 ^ 31) {x : Nat} (hx : x < n) : f_sc_lacksFan 0 (nI x) h = some (0, h) := by
  obtain ⟨i1, i2⟩ := p_isPp hp
  unfold f_sc_lacksFan f_sc_lacksFan_L23 f_sc_lacksFan_L18
  simp only [Nat.reduceAdd, sm_let]
  rw [if_neg (nI_pos (by omega)), h0, sm_gd_t i1, i2, hn, if_pos (nI_lt hx hl), sm_gd_t (by decide)]
theorem e_lacksFanO (hp : p = 1 ∨ p = 24) (h0 : h 40 0 = nI p) {n : Nat} (hn : h p 2 = nI n) {x : Int32} (hx : x < 0 ∨ nI n ≤ x) : f_sc_lacksFan 0 x h = some (1, h) := by
  obtain ⟨i1, i2⟩ := p_isPp hp
  unfold f_sc_lacksFan f_sc_lacksFan_L18 f_sc_lacksFan_L23
  simp only [Nat.reduceAdd, sm_let]
  by_cases z : x < 0
  · rw [if_pos z, sm_gd_t (by decide)]
  · rw [if_neg z, h0, sm_gd_t i1, i2, hn, if_neg (Int32.not_lt.mpr (hx.resolve_left z)), sm_gd_t (by decide)]
theorem e_isZoneI {n : Nat} (hn : h 115 0 = nI n) (hl : n < 2 ^ 31) {x : Nat} (hx : x < n) : f_mo_isZone 114 (nI x) h = some (1, h) := by
  unfold f_mo_isZone
  have c : (0 : Int32).toNatClampNeg = 0 := by decide
  simp only [Nat.reduceAdd, sm_b2]
  rw [sm_gd_t (by decide), c, hn, e_inI hx hl]
  simp only [Option.bind_some]
  rw [sm_gd_t (by decide)]
theorem e_isZoneO {n : Nat} (hn : h 115 0 = nI n) (hl : n < 2 ^ 31) {x : Int32} (hx : x < 0 ∨ nI n ≤ x) : f_mo_isZone 114 x h = some (0, h) := by
  unfold f_mo_isZone
  have c : (0 : Int32).toNatClampNeg = 0 := by decide
  simp only [Nat.reduceAdd, sm_b2]
  rw [sm_gd_t (by decide), c, hn, e_inO hx hl]
  simp only [Option.bind_some]
  rw [sm_gd_t (by decide)]
theorem e_isDamperI {n : Nat} (hn : h 115 1 = nI n) (hl : n < 2 ^ 31) {x : Nat} (hx : x < n) : f_mo_isDamper 114 (nI x) h = some (1, h) := by
  unfold f_mo_isDamper
  have c : (1 : Int32).toNatClampNeg = 1 := by decide
  simp only [Nat.reduceAdd, sm_b2]
  rw [sm_gd_t (by decide), c, hn, e_inI hx hl]
  simp only [Option.bind_some]
  rw [sm_gd_t (by decide)]
theorem e_isDamperO {n : Nat} (hn : h 115 1 = nI n) (hl : n < 2 ^ 31) {x : Int32} (hx : x < 0 ∨ nI n ≤ x) : f_mo_isDamper 114 x h = some (0, h) := by
  unfold f_mo_isDamper
  have c : (1 : Int32).toNatClampNeg = 1 := by decide
  simp only [Nat.reduceAdd, sm_b2]
  rw [sm_gd_t (by decide), c, hn, e_inO hx hl]
  simp only [Option.bind_some]
  rw [sm_gd_t (by decide)]
theorem e_isFanI {n : Nat} (hn : h 115 2 = nI n) (hl : n < 2 ^ 31) {x : Nat} (hx : x < n) : f_mo_isFan 114 (nI x) h = some (1, h) := by
  unfold f_mo_isFan
  have c : (2 : Int32).toNatClampNeg = 2 := by decide
  simp only [Nat.reduceAdd, sm_b2]
  rw [sm_gd_t (by decide), c, hn, e_inI hx hl]
  simp only [Option.bind_some]
  rw [sm_gd_t (by decide)]
theorem e_isFanO {n : Nat} (hn : h 115 2 = nI n) (hl : n < 2 ^ 31) {x : Int32} (hx : x < 0 ∨ nI n ≤ x) : f_mo_isFan 114 x h = some (0, h) := by
  unfold f_mo_isFan
  have c : (2 : Int32).toNatClampNeg = 2 := by decide
  simp only [Nat.reduceAdd, sm_b2]
  rw [sm_gd_t (by decide), c, hn, e_inO hx hl]
  simp only [Option.bind_some]
  rw [sm_gd_t (by decide)]
theorem e_isDoorI {n : Nat} (hn : h 115 3 = nI n) (hl : n < 2 ^ 31) {x : Nat} (hx : x < n) : f_mo_isDoor 114 (nI x) h = some (1, h) := by
  unfold f_mo_isDoor
  have c : (3 : Int32).toNatClampNeg = 3 := by decide
  simp only [Nat.reduceAdd, sm_b2]
  rw [sm_gd_t (by decide), c, hn, e_inI hx hl]
  simp only [Option.bind_some]
  rw [sm_gd_t (by decide)]
theorem e_isDoorO {n : Nat} (hn : h 115 3 = nI n) (hl : n < 2 ^ 31) {x : Int32} (hx : x < 0 ∨ nI n ≤ x) : f_mo_isDoor 114 x h = some (0, h) := by
  unfold f_mo_isDoor
  have c : (3 : Int32).toNatClampNeg = 3 := by decide
  simp only [Nat.reduceAdd, sm_b2]
  rw [sm_gd_t (by decide), c, hn, e_inO hx hl]
  simp only [Option.bind_some]
  rw [sm_gd_t (by decide)]
theorem e_zoneIs {d w : Nat} (hd : d < 8) (hw : w < 4) (g : sm_H) : f_mo_zoneIs 114 (nI d) (nI w) g = some (g 117 (10 + 4 * d + w), g) := by
  unfold f_mo_zoneIs
  have e : (10 : Int32) + 4 * nI d + nI w = nI (10 + 4 * d + w) := by
    have e1 : (4 : Int32) * nI d = nI (4 * d) := nI_mul 4 d
    have e2 : (10 : Int32) + nI (4 * d) = nI (10 + 4 * d) := nI_add 10 _
    rw [e1, e2, nI_add]
  rw [e, sm_gd_t (sm_inb_nI (by omega) (by omega)), nI_clamp (by omega)]
theorem e_damperIs {d w : Nat} (hd : d < 16) (hw : w < 7) (g : sm_H) : f_mo_damperIs 114 (nI d) (nI w) g = some (g 117 (42 + 7 * d + w), g) := by
  unfold f_mo_damperIs
  have e : (42 : Int32) + 7 * nI d + nI w = nI (42 + 7 * d + w) := by
    have e1 : (7 : Int32) * nI d = nI (7 * d) := nI_mul 7 d
    have e2 : (42 : Int32) + nI (7 * d) = nI (42 + 7 * d) := nI_add 42 _
    rw [e1, e2, nI_add]
  rw [e, sm_gd_t (sm_inb_nI (by omega) (by omega)), nI_clamp (by omega)]
theorem e_fanIs {d w : Nat} (hd : d < 6) (hw : w < 6) (g : sm_H) : f_mo_fanIs 114 (nI d) (nI w) g = some (g 117 (154 + 6 * d + w), g) := by
  unfold f_mo_fanIs
  have e : (154 : Int32) + 6 * nI d + nI w = nI (154 + 6 * d + w) := by
    have e1 : (6 : Int32) * nI d = nI (6 * d) := nI_mul 6 d
    have e2 : (154 : Int32) + nI (6 * d) = nI (154 + 6 * d) := nI_add 154 _
    rw [e1, e2, nI_add]
  rw [e, sm_gd_t (sm_inb_nI (by omega) (by omega)), nI_clamp (by omega)]
theorem e_putZone {d w : Nat} (hd : d < 8) (hw : w < 4) (v : Int32) (g : sm_H) (q : Nat → Int32) : f_mo_putZone 114 (nI d) (nI w) v (sm_row g 117 q) = some (sm_row g 117 (upd q (10 + 4 * d + w) v)) := by
  unfold f_mo_putZone
  have e : (10 : Int32) + 4 * nI d + nI w = nI (10 + 4 * d + w) := by
    have e1 : (4 : Int32) * nI d = nI (4 * d) := nI_mul 4 d
    have e2 : (10 : Int32) + nI (4 * d) = nI (10 + 4 * d) := nI_add 10 _
    rw [e1, e2, nI_add]
  dsimp only [sm_let]
  rw [e, sm_gd_t (sm_inb_nI (by omega) (by omega)), nI_clamp (by omega)]
  exact congrArg some (p_row_up (i := 117))
theorem e_put {d w : Nat} (hd : d < 16) (hw : w < 7) (v : Int32) (g : sm_H) (q : Nat → Int32) : f_mo_put 114 (nI d) (nI w) v (sm_row g 117 q) = some (sm_row g 117 (upd q (42 + 7 * d + w) v)) := by
  unfold f_mo_put
  have e : (42 : Int32) + 7 * nI d + nI w = nI (42 + 7 * d + w) := by
    have e1 : (7 : Int32) * nI d = nI (7 * d) := nI_mul 7 d
    have e2 : (42 : Int32) + nI (7 * d) = nI (42 + 7 * d) := nI_add 42 _
    rw [e1, e2, nI_add]
  dsimp only [sm_let]
  rw [e, sm_gd_t (sm_inb_nI (by omega) (by omega)), nI_clamp (by omega)]
  exact congrArg some (p_row_up (i := 117))
theorem e_putFan {d w : Nat} (hd : d < 6) (hw : w < 6) (v : Int32) (g : sm_H) (q : Nat → Int32) : f_mo_putFan 114 (nI d) (nI w) v (sm_row g 117 q) = some (sm_row g 117 (upd q (154 + 6 * d + w) v)) := by
  unfold f_mo_putFan
  have e : (154 : Int32) + 6 * nI d + nI w = nI (154 + 6 * d + w) := by
    have e1 : (6 : Int32) * nI d = nI (6 * d) := nI_mul 6 d
    have e2 : (154 : Int32) + nI (6 * d) = nI (154 + 6 * d) := nI_add 154 _
    rw [e1, e2, nI_add]
  dsimp only [sm_let]
  rw [e, sm_gd_t (sm_inb_nI (by omega) (by omega)), nI_clamp (by omega)]
  exact congrArg some (p_row_up (i := 117))
theorem e_damperOf {d w : Nat} (hd : d < 16) (hw : w < 4) (g : sm_H) : f_mo_damperOf 114 (nI d) (nI w) g = some (g 115 (10 + 4 * d + w), g) := by
  unfold f_mo_damperOf
  have e : (10 : Int32) + 4 * nI d + nI w = nI (10 + 4 * d + w) := by
    have e1 : (4 : Int32) * nI d = nI (4 * d) := nI_mul 4 d
    have e2 : (10 : Int32) + nI (4 * d) = nI (10 + 4 * d) := nI_add 10 _
    rw [e1, e2, nI_add]
  rw [e, sm_gd_t (sm_inb_nI (by omega) (by omega)), nI_clamp (by omega)]
theorem e_fanOf {d w : Nat} (hd : d < 6) (hw : w < 4) (g : sm_H) : f_mo_fanOf 114 (nI d) (nI w) g = some (g 115 (74 + 4 * d + w), g) := by
  unfold f_mo_fanOf
  have e : (74 : Int32) + 4 * nI d + nI w = nI (74 + 4 * d + w) := by
    have e1 : (4 : Int32) * nI d = nI (4 * d) := nI_mul 4 d
    have e2 : (74 : Int32) + nI (4 * d) = nI (74 + 4 * d) := nI_add 74 _
    rw [e1, e2, nI_add]
  rw [e, sm_gd_t (sm_inb_nI (by omega) (by omega)), nI_clamp (by omega)]
theorem e_doorOf {d w : Nat} (hd : d < 10) (hw : w < 3) (g : sm_H) : f_mo_doorOf 114 (nI d) (nI w) g = some (g 115 (98 + 3 * d + w), g) := by
  unfold f_mo_doorOf
  have e : (98 : Int32) + 3 * nI d + nI w = nI (98 + 3 * d + w) := by
    have e1 : (3 : Int32) * nI d = nI (3 * d) := nI_mul 3 d
    have e2 : (98 : Int32) + nI (3 * d) = nI (98 + 3 * d) := nI_add 98 _
    rw [e1, e2, nI_add]
  rw [e, sm_gd_t (sm_inb_nI (by omega) (by omega)), nI_clamp (by omega)]
-- what a relation gives of single cells
theorem p_RR.parts (G : p_R0 j p Z D F R h) : (1 ≤ Z ∧ Z ≤ 8 ∧ D ≤ 16 ∧ F ≤ 6 ∧ R ≤ 10) ∧ (h p 0 = nI Z ∧ h 115 0 = nI Z) ∧ (h p 1 = nI D ∧ h 115 1 = nI D) ∧ (h p 2 = nI F ∧ h 115 2 = nI F) ∧ (h p 3 = nI R ∧ h 115 3 = nI R) := by
  obtain ⟨-, -, -, ⟨c, ⟨a1, a2, a3, a4, a5, a6, a7, a8, -⟩, -⟩, -⟩ := G
  exact ⟨c, ⟨a1, a2⟩, ⟨a3, a4⟩, ⟨a5, a6⟩, a7, a8⟩
theorem p_SO.eq {s : Nat} {q w : Nat → Int32} (S : p_SO Z D F R s h q w j) {o k m : Nat} (e : p_eq Z Z D F o k m) : h (s + o) k = q m := by
  obtain ⟨t, S1, -⟩ := S
  exact S1.1 o k m e
theorem p_SO.bit {s : Nat} {q w : Nat → Int32} (S : p_SO Z D F R s h q w j) {o k b m : Nat} (e : p_bi Z D F R o k b m) : q m = sm_b2i (sm_bt (h (s + o) k) b) := by
  obtain ⟨t, S1, -⟩ := S
  exact S1.2.1 o k b m e
-- queries that change nothing
theorem s_errorCode : sm_S2 p_RR := fun j h _ ⟨p, Z, D, F, R, G⟩ => ⟨h 17 2, h, h, rfl, by
  have := G.2.2.2.2.2.2.2.1
  show some (h 114 15, h) = _
  rw [this], p, Z, D, F, R, G.mono⟩
theorem s_errorPosition : sm_S3 p_RR := fun j h _ ⟨p, Z, D, F, R, G⟩ => ⟨h 17 3, h, h, rfl, by
  have := G.2.2.2.2.2.2.2.2
  show some (h 114 16, h) = _
  rw [this], p, Z, D, F, R, G.mono⟩
theorem s_time : sm_S17 p_RR := fun j h _ ⟨p, Z, D, F, R, G⟩ => ⟨h 40 1, h, h, rfl, by
  have e : h 40 1 = h 117 0 := G.2.2.2.2.1.eq (o := 0) (k := 1) (m := 0) (by unfold p_eq; omega)
  have c : (0 : Int32).toNatClampNeg = 0 := by decide
  unfold f_mo_time
  rw [sm_gd_t (by decide), c, e], p, Z, D, F, R, G.mono⟩
theorem s_firstAlarm : sm_S21 p_RR := fun j h _ ⟨p, Z, D, F, R, G⟩ => by
  have e : h 48 2 = h 117 7 := G.2.2.2.2.1.eq (o := 8) (k := 2) (m := 7) (by unfold p_eq; omega)
  have c : (7 : Int32).toNatClampNeg = 7 := by decide
  obtain ⟨⟨c1, c2, -⟩, -⟩ := p_RR.parts G
  obtain ⟨t, S1, S2⟩ := G.2.2.2.2.1
  unfold f_sc_firstAlarm f_mo_firstAlarm f_sc_firstAlarm_L28 f_mo_firstAlarm_L23
  simp only [Nat.reduceAdd]
  rw [e]
  rcases S2.2.2.2.2.2.2 with ⟨f, -⟩ | ⟨z, hz, f, -⟩
  · rw [f]
    refine ⟨-4, h, h, rfl, ?_, p, Z, D, F, R, G.mono⟩
    rw [sm_gd_t (by decide), c, f]
    rfl
  · rw [f, if_pos (nI_pos' (by omega))]
    refine ⟨nI z, h, h, rfl, ?_, p, Z, D, F, R, G.mono⟩
    rw [sm_gd_t (by decide), c, f, if_neg (by
      intro y
      have h1 := congrArg Int32.toInt y
      rw [nI_toInt (by omega)] at h1
      have h2 : (-1 : Int32).toInt = -1 := by decide
      omega), sm_gd_t (by decide)]
theorem s_smoke : sm_S18 p_RR := fun j h x _ ⟨p, Z, D, F, R, G⟩ => by
  obtain ⟨⟨c1, c2, -⟩, ⟨z1, z2⟩, -⟩ := p_RR.parts G
  rcases p_idx x Z (by omega) with ⟨k, hk, rfl⟩ | hx
  · have e : h 41 k = h 117 (10 + 4 * k + 0) := G.2.2.2.2.1.eq (o := 1) (k := k) (m := 10 + 4 * k) (by unfold p_eq; omega)
    refine ⟨h 41 k, h, h, ?_, ?_, p, Z, D, F, R, G.mono⟩
    · unfold f_sc_smoke f_sc_smoke_L21
      rw [e_lacksZoneI G.1 G.2.1 z1 (by omega) hk]
      simp only [sm_b2, Option.bind_some, Nat.reduceAdd]
      rw [if_pos rfl, sm_gd_t (sm_inb_nI (by omega) (by omega)), nI_clamp (by omega)]
    · unfold f_mo_smoke f_mo_smoke_L18
      rw [e_isZoneI z2 (by omega) hk]
      simp only [sm_b2, Option.bind_some]
      rw [if_neg (by decide), show (0 : Int32) = nI 0 from rfl, e_zoneIs (by omega) (by omega), e]
      rfl
  · refine ⟨-1, h, h, ?_, ?_, p, Z, D, F, R, G.mono⟩
    · unfold f_sc_smoke f_sc_smoke_L21
      rw [e_lacksZoneO G.1 G.2.1 z1 hx]
      rfl
    · unfold f_mo_smoke f_mo_smoke_L18
      rw [e_isZoneO z2 (by omega) hx]
      rfl
theorem s_alarm : sm_S20 p_RR := fun j h x _ ⟨p, Z, D, F, R, G⟩ => by
  obtain ⟨⟨c1, c2, -⟩, ⟨z1, z2⟩, -⟩ := p_RR.parts G
  rcases p_idx x Z (by omega) with ⟨k, hk, rfl⟩ | hx
  · have e : h 117 (10 + 4 * k + 2) = sm_b2i (sm_bt (h 48 0) k) := G.2.2.2.2.1.bit (o := 8) (k := 0) (b := k) (m := 10 + 4 * k + 2) (by unfold p_bi; omega)
    refine ⟨sm_b2i (sm_bt (h 48 0) k), h, h, ?_, ?_, p, Z, D, F, R, G.mono⟩
    · unfold f_sc_alarm f_sc_alarm_L32
      rw [e_lacksZoneI G.1 G.2.1 z1 (by omega) hk]
      simp only [sm_b2, Option.bind_some, Nat.reduceAdd]
      rw [if_pos rfl, e_has _ _ _ (by omega)]
      simp only [Option.bind_some]
      cases sm_bt (h 48 0) k <;> rfl
    · unfold f_mo_alarm f_mo_alarm_L18
      rw [e_isZoneI z2 (by omega) hk]
      simp only [sm_b2, Option.bind_some]
      rw [if_neg (by decide), show (2 : Int32) = nI 2 from rfl, e_zoneIs (by omega) (by omega), e]
      rfl
  · refine ⟨-1, h, h, ?_, ?_, p, Z, D, F, R, G.mono⟩
    · unfold f_sc_alarm f_sc_alarm_L32
      rw [e_lacksZoneO G.1 G.2.1 z1 hx]
      rfl
    · unfold f_mo_alarm f_mo_alarm_L18
      rw [e_isZoneO z2 (by omega) hx]
      rfl
end p_simple
