-- TOOLS: the functions' bodies worked off by simp, side conditions by omega
theorem s_true {α : Type} {x : Option α} : sm_gd true x = x := if_pos rfl
theorem s_nz {r : Nat} (h : 1 ≤ r) (hr : r < 2 ^ 31) : sm_nz (nI r) = true := decide_eq_true (nI_ne0 (by omega) hr)
theorem s_i0 {α : Type} {x : Option α} : sm_gd (sm_inb 0 1268) x = x := sm_gd_t (by decide)
theorem s_i1 {α : Type} {x : Option α} : sm_gd (sm_inb 1 1268) x = x := sm_gd_t (by decide)
theorem s_i2 {α : Type} {x : Option α} : sm_gd (sm_inb 2 1268) x = x := sm_gd_t (by decide)
theorem s_i3 {α : Type} {x : Option α} : sm_gd (sm_inb 3 1268) x = x := sm_gd_t (by decide)
theorem s_i4 {α : Type} {x : Option α} : sm_gd (sm_inb 4 1268) x = x := sm_gd_t (by decide)
theorem s_i5 {α : Type} {x : Option α} : sm_gd (sm_inb 5 1268) x = x := sm_gd_t (by decide)
theorem s_i6 {α : Type} {x : Option α} : sm_gd (sm_inb 6 1268) x = x := sm_gd_t (by decide)
theorem s_i7 {α : Type} {x : Option α} : sm_gd (sm_inb 7 1268) x = x := sm_gd_t (by decide)
theorem s_i8 {α : Type} {x : Option α} : sm_gd (sm_inb 8 1268) x = x := sm_gd_t (by decide)
theorem s_j0 {α : Type} {x : Option α} : sm_gd (sm_inb 0 350) x = x := sm_gd_t (by decide)
theorem s_j1 {α : Type} {x : Option α} : sm_gd (sm_inb 1 350) x = x := sm_gd_t (by decide)
theorem s_j2 {α : Type} {x : Option α} : sm_gd (sm_inb 2 350) x = x := sm_gd_t (by decide)
theorem s_j3 {α : Type} {x : Option α} : sm_gd (sm_inb 3 350) x = x := sm_gd_t (by decide)
theorem s_j4 {α : Type} {x : Option α} : sm_gd (sm_inb 4 350) x = x := sm_gd_t (by decide)
theorem s_j5 {α : Type} {x : Option α} : sm_gd (sm_inb 5 350) x = x := sm_gd_t (by decide)
theorem s_j6 {α : Type} {x : Option α} : sm_gd (sm_inb 6 350) x = x := sm_gd_t (by decide)
theorem s_j7 {α : Type} {x : Option α} : sm_gd (sm_inb 7 350) x = x := sm_gd_t (by decide)
theorem s_j8 {α : Type} {x : Option α} : sm_gd (sm_inb 8 350) x = x := sm_gd_t (by decide)
theorem s_j9 {α : Type} {x : Option α} : sm_gd (sm_inb 9 350) x = x := sm_gd_t (by decide)
theorem s_c0 : (0 : Int32).toNatClampNeg = 0 := by decide
theorem s_c1 : (1 : Int32).toNatClampNeg = 1 := by decide
theorem s_c2 : (2 : Int32).toNatClampNeg = 2 := by decide
theorem s_c3 : (3 : Int32).toNatClampNeg = 3 := by decide
theorem s_c4 : (4 : Int32).toNatClampNeg = 4 := by decide
theorem s_c5 : (5 : Int32).toNatClampNeg = 5 := by decide
theorem s_c6 : (6 : Int32).toNatClampNeg = 6 := by decide
theorem s_c7 : (7 : Int32).toNatClampNeg = 7 := by decide
theorem s_c8 : (8 : Int32).toNatClampNeg = 8 := by decide
theorem s_c9 : (9 : Int32).toNatClampNeg = 9 := by decide
theorem s_l0 : (0 : Int32) = nI 0 := rfl
theorem s_l1 : (1 : Int32) = nI 1 := rfl
theorem s_l2 : (2 : Int32) = nI 2 := rfl
theorem s_l3 : (3 : Int32) = nI 3 := rfl
theorem s_l4 : (4 : Int32) = nI 4 := rfl
theorem s_l5 : (5 : Int32) = nI 5 := rfl
theorem s_l6 : (6 : Int32) = nI 6 := rfl
theorem s_l7 : (7 : Int32) = nI 7 := rfl
theorem s_l8 : (8 : Int32) = nI 8 := rfl
theorem s_l9 : (9 : Int32) = nI 9 := rfl
theorem s_l16 : (16 : Int32) = nI 16 := rfl
theorem s_l30 : (30 : Int32) = nI 30 := rfl
theorem s_l128 : (128 : Int32) = nI 128 := rfl
theorem s_l176 : (176 : Int32) = nI 176 := rfl
theorem s_l190 : (190 : Int32) = nI 190 := rfl
theorem s_l200 : (200 : Int32) = nI 200 := rfl
theorem s_l1076 : (1076 : Int32) = nI 1076 := rfl
theorem s_min (a b : Int32) (h : sm_H) : f_jm_min a b h = some (if b < a then b else a, h) := by
  unfold f_jm_min f_jm_min_L10
  split <;> rfl
theorem s_max (a b : Int32) (h : sm_H) : f_jm_max a b h = some (if a < b then b else a, h) := by
  unfold f_jm_max f_jm_max_L10
  split <;> rfl
theorem s_lesser (a b : Int32) (h : sm_H) : f_mo_lesser a b h = some (if b < a then b else a, h) := by
  unfold f_mo_lesser f_mo_lesser_L10
  by_cases z : b < a
  · rw [if_pos z, if_pos (Int32.le_of_lt z)]
  · rw [if_neg z]
    by_cases y : b ≤ a
    · rw [if_pos y, Int32.le_antisymm y (Int32.not_lt.mp z)]
    · rw [if_neg y]
theorem s_greater (a b : Int32) (h : sm_H) : f_mo_greater a b h = some (if a < b then b else a, h) := by
  unfold f_mo_greater f_mo_greater_L10
  by_cases z : a < b
  · rw [if_pos z, if_pos (Int32.le_of_lt z)]
  · rw [if_neg z]
    by_cases y : a ≤ b
    · rw [if_pos y, Int32.le_antisymm y (Int32.not_lt.mp z)]
    · rw [if_neg y]
theorem e_dI0 {d : Nat} (hd : d < 16) (g : sm_H) : f_mo_damperIs 114 (nI d) 0 g = some (g 117 (42 + 7 * d), g) := by
  have e := e_damperIs (w := 0) hd (by omega) g
  rw [show 42 + 7 * d + 0 = 42 + 7 * d by omega] at e
  exact e
theorem e_dI1 {d : Nat} (hd : d < 16) (g : sm_H) : f_mo_damperIs 114 (nI d) 1 g = some (g 117 (43 + 7 * d), g) := by
  have e := e_damperIs (w := 1) hd (by omega) g
  rw [show 42 + 7 * d + 1 = 43 + 7 * d by omega] at e
  exact e
theorem e_dI2 {d : Nat} (hd : d < 16) (g : sm_H) : f_mo_damperIs 114 (nI d) 2 g = some (g 117 (44 + 7 * d), g) := by
  have e := e_damperIs (w := 2) hd (by omega) g
  rw [show 42 + 7 * d + 2 = 44 + 7 * d by omega] at e
  exact e
theorem e_dI3 {d : Nat} (hd : d < 16) (g : sm_H) : f_mo_damperIs 114 (nI d) 3 g = some (g 117 (45 + 7 * d), g) := by
  have e := e_damperIs (w := 3) hd (by omega) g
  rw [show 42 + 7 * d + 3 = 45 + 7 * d by omega] at e
  exact e
theorem e_dI4 {d : Nat} (hd : d < 16) (g : sm_H) : f_mo_damperIs 114 (nI d) 4 g = some (g 117 (46 + 7 * d), g) := by
  have e := e_damperIs (w := 4) hd (by omega) g
  rw [show 42 + 7 * d + 4 = 46 + 7 * d by omega] at e
  exact e
theorem e_dI5 {d : Nat} (hd : d < 16) (g : sm_H) : f_mo_damperIs 114 (nI d) 5 g = some (g 117 (47 + 7 * d), g) := by
  have e := e_damperIs (w := 5) hd (by omega) g
  rw [show 42 + 7 * d + 5 = 47 + 7 * d by omega] at e
  exact e
theorem e_dI6 {d : Nat} (hd : d < 16) (g : sm_H) : f_mo_damperIs 114 (nI d) 6 g = some (g 117 (48 + 7 * d), g) := by
  have e := e_damperIs (w := 6) hd (by omega) g
  rw [show 42 + 7 * d + 6 = 48 + 7 * d by omega] at e
  exact e
theorem e_fI0 {d : Nat} (hd : d < 6) (g : sm_H) : f_mo_fanIs 114 (nI d) 0 g = some (g 117 (154 + 6 * d), g) := by
  have e := e_fanIs (w := 0) hd (by omega) g
  rw [show 154 + 6 * d + 0 = 154 + 6 * d by omega] at e
  exact e
theorem e_fI1 {d : Nat} (hd : d < 6) (g : sm_H) : f_mo_fanIs 114 (nI d) 1 g = some (g 117 (155 + 6 * d), g) := by
  have e := e_fanIs (w := 1) hd (by omega) g
  rw [show 154 + 6 * d + 1 = 155 + 6 * d by omega] at e
  exact e
theorem e_fI2 {d : Nat} (hd : d < 6) (g : sm_H) : f_mo_fanIs 114 (nI d) 2 g = some (g 117 (156 + 6 * d), g) := by
  have e := e_fanIs (w := 2) hd (by omega) g
  rw [show 154 + 6 * d + 2 = 156 + 6 * d by omega] at e
  exact e
theorem e_fI3 {d : Nat} (hd : d < 6) (g : sm_H) : f_mo_fanIs 114 (nI d) 3 g = some (g 117 (157 + 6 * d), g) := by
  have e := e_fanIs (w := 3) hd (by omega) g
  rw [show 154 + 6 * d + 3 = 157 + 6 * d by omega] at e
  exact e
theorem e_fI4 {d : Nat} (hd : d < 6) (g : sm_H) : f_mo_fanIs 114 (nI d) 4 g = some (g 117 (158 + 6 * d), g) := by
  have e := e_fanIs (w := 4) hd (by omega) g
  rw [show 154 + 6 * d + 4 = 158 + 6 * d by omega] at e
  exact e
theorem e_fI5 {d : Nat} (hd : d < 6) (g : sm_H) : f_mo_fanIs 114 (nI d) 5 g = some (g 117 (159 + 6 * d), g) := by
  have e := e_fanIs (w := 5) hd (by omega) g
  rw [show 154 + 6 * d + 5 = 159 + 6 * d by omega] at e
  exact e
theorem e_zI0 {d : Nat} (hd : d < 8) (g : sm_H) : f_mo_zoneIs 114 (nI d) 0 g = some (g 117 (10 + 4 * d), g) := by
  have e := e_zoneIs (w := 0) hd (by omega) g
  rw [show 10 + 4 * d + 0 = 10 + 4 * d by omega] at e
  exact e
theorem e_zI1 {d : Nat} (hd : d < 8) (g : sm_H) : f_mo_zoneIs 114 (nI d) 1 g = some (g 117 (11 + 4 * d), g) := by
  have e := e_zoneIs (w := 1) hd (by omega) g
  rw [show 10 + 4 * d + 1 = 11 + 4 * d by omega] at e
  exact e
theorem e_zI2 {d : Nat} (hd : d < 8) (g : sm_H) : f_mo_zoneIs 114 (nI d) 2 g = some (g 117 (12 + 4 * d), g) := by
  have e := e_zoneIs (w := 2) hd (by omega) g
  rw [show 10 + 4 * d + 2 = 12 + 4 * d by omega] at e
  exact e
theorem e_zI3 {d : Nat} (hd : d < 8) (g : sm_H) : f_mo_zoneIs 114 (nI d) 3 g = some (g 117 (13 + 4 * d), g) := by
  have e := e_zoneIs (w := 3) hd (by omega) g
  rw [show 10 + 4 * d + 3 = 13 + 4 * d by omega] at e
  exact e
theorem e_dO0 {d : Nat} (hd : d < 16) (g : sm_H) : f_mo_damperOf 114 (nI d) 0 g = some (g 115 (10 + 4 * d), g) := by
  have e := e_damperOf (w := 0) hd (by omega) g
  rw [show 10 + 4 * d + 0 = 10 + 4 * d by omega] at e
  exact e
theorem e_dO1 {d : Nat} (hd : d < 16) (g : sm_H) : f_mo_damperOf 114 (nI d) 1 g = some (g 115 (11 + 4 * d), g) := by
  have e := e_damperOf (w := 1) hd (by omega) g
  rw [show 10 + 4 * d + 1 = 11 + 4 * d by omega] at e
  exact e
theorem e_dO2 {d : Nat} (hd : d < 16) (g : sm_H) : f_mo_damperOf 114 (nI d) 2 g = some (g 115 (12 + 4 * d), g) := by
  have e := e_damperOf (w := 2) hd (by omega) g
  rw [show 10 + 4 * d + 2 = 12 + 4 * d by omega] at e
  exact e
theorem e_dO3 {d : Nat} (hd : d < 16) (g : sm_H) : f_mo_damperOf 114 (nI d) 3 g = some (g 115 (13 + 4 * d), g) := by
  have e := e_damperOf (w := 3) hd (by omega) g
  rw [show 10 + 4 * d + 3 = 13 + 4 * d by omega] at e
  exact e
theorem e_fO0 {d : Nat} (hd : d < 6) (g : sm_H) : f_mo_fanOf 114 (nI d) 0 g = some (g 115 (74 + 4 * d), g) := by
  have e := e_fanOf (w := 0) hd (by omega) g
  rw [show 74 + 4 * d + 0 = 74 + 4 * d by omega] at e
  exact e
theorem e_fO1 {d : Nat} (hd : d < 6) (g : sm_H) : f_mo_fanOf 114 (nI d) 1 g = some (g 115 (75 + 4 * d), g) := by
  have e := e_fanOf (w := 1) hd (by omega) g
  rw [show 74 + 4 * d + 1 = 75 + 4 * d by omega] at e
  exact e
theorem e_fO2 {d : Nat} (hd : d < 6) (g : sm_H) : f_mo_fanOf 114 (nI d) 2 g = some (g 115 (76 + 4 * d), g) := by
  have e := e_fanOf (w := 2) hd (by omega) g
  rw [show 74 + 4 * d + 2 = 76 + 4 * d by omega] at e
  exact e
theorem e_fO3 {d : Nat} (hd : d < 6) (g : sm_H) : f_mo_fanOf 114 (nI d) 3 g = some (g 115 (77 + 4 * d), g) := by
  have e := e_fanOf (w := 3) hd (by omega) g
  rw [show 74 + 4 * d + 3 = 77 + 4 * d by omega] at e
  exact e
theorem e_rO0 {d : Nat} (hd : d < 10) (g : sm_H) : f_mo_doorOf 114 (nI d) 0 g = some (g 115 (98 + 3 * d), g) := by
  have e := e_doorOf (w := 0) hd (by omega) g
  rw [show 98 + 3 * d + 0 = 98 + 3 * d by omega] at e
  exact e
theorem e_rO1 {d : Nat} (hd : d < 10) (g : sm_H) : f_mo_doorOf 114 (nI d) 1 g = some (g 115 (99 + 3 * d), g) := by
  have e := e_doorOf (w := 1) hd (by omega) g
  rw [show 98 + 3 * d + 1 = 99 + 3 * d by omega] at e
  exact e
theorem e_rO2 {d : Nat} (hd : d < 10) (g : sm_H) : f_mo_doorOf 114 (nI d) 2 g = some (g 115 (100 + 3 * d), g) := by
  have e := e_doorOf (w := 2) hd (by omega) g
  rw [show 98 + 3 * d + 2 = 100 + 3 * d by omega] at e
  exact e
theorem e_pD0 {d : Nat} (hd : d < 16) (v : Int32) (g : sm_H) (q : Nat → Int32) : f_mo_put 114 (nI d) 0 v (sm_row g 117 q) = some (sm_row g 117 (upd q (42 + 7 * d) v)) := by
  have e := e_put (w := 0) hd (by omega) v g q
  rw [show 42 + 7 * d + 0 = 42 + 7 * d by omega] at e
  exact e
theorem e_pD1 {d : Nat} (hd : d < 16) (v : Int32) (g : sm_H) (q : Nat → Int32) : f_mo_put 114 (nI d) 1 v (sm_row g 117 q) = some (sm_row g 117 (upd q (43 + 7 * d) v)) := by
  have e := e_put (w := 1) hd (by omega) v g q
  rw [show 42 + 7 * d + 1 = 43 + 7 * d by omega] at e
  exact e
theorem e_pD2 {d : Nat} (hd : d < 16) (v : Int32) (g : sm_H) (q : Nat → Int32) : f_mo_put 114 (nI d) 2 v (sm_row g 117 q) = some (sm_row g 117 (upd q (44 + 7 * d) v)) := by
  have e := e_put (w := 2) hd (by omega) v g q
  rw [show 42 + 7 * d + 2 = 44 + 7 * d by omega] at e
  exact e
theorem e_pD3 {d : Nat} (hd : d < 16) (v : Int32) (g : sm_H) (q : Nat → Int32) : f_mo_put 114 (nI d) 3 v (sm_row g 117 q) = some (sm_row g 117 (upd q (45 + 7 * d) v)) := by
  have e := e_put (w := 3) hd (by omega) v g q
  rw [show 42 + 7 * d + 3 = 45 + 7 * d by omega] at e
  exact e
theorem e_pD4 {d : Nat} (hd : d < 16) (v : Int32) (g : sm_H) (q : Nat → Int32) : f_mo_put 114 (nI d) 4 v (sm_row g 117 q) = some (sm_row g 117 (upd q (46 + 7 * d) v)) := by
  have e := e_put (w := 4) hd (by omega) v g q
  rw [show 42 + 7 * d + 4 = 46 + 7 * d by omega] at e
  exact e
theorem e_pD5 {d : Nat} (hd : d < 16) (v : Int32) (g : sm_H) (q : Nat → Int32) : f_mo_put 114 (nI d) 5 v (sm_row g 117 q) = some (sm_row g 117 (upd q (47 + 7 * d) v)) := by
  have e := e_put (w := 5) hd (by omega) v g q
  rw [show 42 + 7 * d + 5 = 47 + 7 * d by omega] at e
  exact e
theorem e_pD6 {d : Nat} (hd : d < 16) (v : Int32) (g : sm_H) (q : Nat → Int32) : f_mo_put 114 (nI d) 6 v (sm_row g 117 q) = some (sm_row g 117 (upd q (48 + 7 * d) v)) := by
  have e := e_put (w := 6) hd (by omega) v g q
  rw [show 42 + 7 * d + 6 = 48 + 7 * d by omega] at e
  exact e
theorem e_pF0 {d : Nat} (hd : d < 6) (v : Int32) (g : sm_H) (q : Nat → Int32) : f_mo_putFan 114 (nI d) 0 v (sm_row g 117 q) = some (sm_row g 117 (upd q (154 + 6 * d) v)) := by
  have e := e_putFan (w := 0) hd (by omega) v g q
  rw [show 154 + 6 * d + 0 = 154 + 6 * d by omega] at e
  exact e
theorem e_pF1 {d : Nat} (hd : d < 6) (v : Int32) (g : sm_H) (q : Nat → Int32) : f_mo_putFan 114 (nI d) 1 v (sm_row g 117 q) = some (sm_row g 117 (upd q (155 + 6 * d) v)) := by
  have e := e_putFan (w := 1) hd (by omega) v g q
  rw [show 154 + 6 * d + 1 = 155 + 6 * d by omega] at e
  exact e
theorem e_pF2 {d : Nat} (hd : d < 6) (v : Int32) (g : sm_H) (q : Nat → Int32) : f_mo_putFan 114 (nI d) 2 v (sm_row g 117 q) = some (sm_row g 117 (upd q (156 + 6 * d) v)) := by
  have e := e_putFan (w := 2) hd (by omega) v g q
  rw [show 154 + 6 * d + 2 = 156 + 6 * d by omega] at e
  exact e
theorem e_pF3 {d : Nat} (hd : d < 6) (v : Int32) (g : sm_H) (q : Nat → Int32) : f_mo_putFan 114 (nI d) 3 v (sm_row g 117 q) = some (sm_row g 117 (upd q (157 + 6 * d) v)) := by
  have e := e_putFan (w := 3) hd (by omega) v g q
  rw [show 154 + 6 * d + 3 = 157 + 6 * d by omega] at e
  exact e
theorem e_pF4 {d : Nat} (hd : d < 6) (v : Int32) (g : sm_H) (q : Nat → Int32) : f_mo_putFan 114 (nI d) 4 v (sm_row g 117 q) = some (sm_row g 117 (upd q (158 + 6 * d) v)) := by
  have e := e_putFan (w := 4) hd (by omega) v g q
  rw [show 154 + 6 * d + 4 = 158 + 6 * d by omega] at e
  exact e
theorem e_pF5 {d : Nat} (hd : d < 6) (v : Int32) (g : sm_H) (q : Nat → Int32) : f_mo_putFan 114 (nI d) 5 v (sm_row g 117 q) = some (sm_row g 117 (upd q (159 + 6 * d) v)) := by
  have e := e_putFan (w := 5) hd (by omega) v g q
  rw [show 154 + 6 * d + 5 = 159 + 6 * d by omega] at e
  exact e
theorem e_pZ0 {d : Nat} (hd : d < 8) (v : Int32) (g : sm_H) (q : Nat → Int32) : f_mo_putZone 114 (nI d) 0 v (sm_row g 117 q) = some (sm_row g 117 (upd q (10 + 4 * d) v)) := by
  have e := e_putZone (w := 0) hd (by omega) v g q
  rw [show 10 + 4 * d + 0 = 10 + 4 * d by omega] at e
  exact e
theorem e_pZ1 {d : Nat} (hd : d < 8) (v : Int32) (g : sm_H) (q : Nat → Int32) : f_mo_putZone 114 (nI d) 1 v (sm_row g 117 q) = some (sm_row g 117 (upd q (11 + 4 * d) v)) := by
  have e := e_putZone (w := 1) hd (by omega) v g q
  rw [show 10 + 4 * d + 1 = 11 + 4 * d by omega] at e
  exact e
theorem e_pZ2 {d : Nat} (hd : d < 8) (v : Int32) (g : sm_H) (q : Nat → Int32) : f_mo_putZone 114 (nI d) 2 v (sm_row g 117 q) = some (sm_row g 117 (upd q (12 + 4 * d) v)) := by
  have e := e_putZone (w := 2) hd (by omega) v g q
  rw [show 10 + 4 * d + 2 = 12 + 4 * d by omega] at e
  exact e
theorem e_pZ3 {d : Nat} (hd : d < 8) (v : Int32) (g : sm_H) (q : Nat → Int32) : f_mo_putZone 114 (nI d) 3 v (sm_row g 117 q) = some (sm_row g 117 (upd q (13 + 4 * d) v)) := by
  have e := e_putZone (w := 3) hd (by omega) v g q
  rw [show 10 + 4 * d + 3 = 13 + 4 * d by omega] at e
  exact e
section p_air
variable {p s : Nat} {h g : sm_H}
theorem t_fanAir (hp : p = 1 ∨ p = 24) (h0 : h s 0 = nI p) {f r : Nat} (hf : f < 6) (h1 : 1 ≤ r) (h2 : r ≤ 30) (e1 : h (p + 2) (16 + f) = nI r) : f_st_fanAir s (nI f) h = some (h (p + 4) f * h (s + 3) (16 + f) / nI r, h) := by
  obtain ⟨i1, i2⟩ := p_isPp hp
  simp (disch := omega) only [f_st_fanAir, f_st_fanAir_L42, sm_b2, sm_let, Option.bind_some, s_true, sm_inb_nI, nI_clamp, nI_add, h0, i1, i2, s_l16, s_l0, e1, nI_leI, if_neg, s_nz]
theorem t_airOf {f r : Nat} (hf : f < 6) (h1 : 1 ≤ r) (h2 : r ≤ 30) (e1 : g 115 (76 + 4 * f) = nI r) : f_mo_airOf 114 (nI f) g = some (g 115 (75 + 4 * f) * g 117 (154 + 6 * f) / nI r, g) := by
  have e : 74 + 4 * f + 2 = 76 + 4 * f := by omega
  have e' : 74 + 4 * f + 1 = 75 + 4 * f := by omega
  simp (disch := omega) only [f_mo_airOf, sm_b2, sm_let, Option.bind_some, s_true, s_l0, s_l1, s_l2, e_fanOf, e_fanIs, e, e', e1, s_nz, Nat.add_zero]
theorem t_isStair {f : Nat} (hf : f < 6) : f_pl_isStairFan p (nI f) h = some (sm_b2i (decide (h (p + 1) (16 + f) = 2)), h) := by
  have b0 : sm_bz (nI 0) = true := by decide
  have b1 : sm_bz (nI 1) = true := by decide
  by_cases z : h (p + 1) (16 + f) = 2
  · simp (disch := omega) only [f_pl_isStairFan, f_pl_isStairFan_L18, sm_b2, sm_let, s_true, sm_inb_nI, nI_clamp, nI_add, s_l16, s_l1, s_l0, z, if_true, b1, decide_true, sm_b2i]
  · simp (disch := omega) only [f_pl_isStairFan, f_pl_isStairFan_L18, sm_b2, sm_let, s_true, sm_inb_nI, nI_clamp, nI_add, s_l16, s_l1, s_l0, z, if_false, b0, decide_false, sm_b2i]
    rfl
end p_air
