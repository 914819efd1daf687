-- LOAD: A DOOR'S ITEM, both sides; a setting
section n_dor
variable {b : Nat → Nat} {L T p i e s τ j l k z r : Nat} {g h0 h h' : sm_H} {u q w : Nat → Int32} {le : Bool} {W : List Nat} {Z D F R N Kc A K c : Nat} {o v : Int32}
def n_oK4 (r6 r9 r12 : Int32) (g13 : sm_H) : Option sm_H := if (g13 17 2) = 0 then (sm_gd (sm_isP (g13 17 1)) <| sm_let (sm_p (g13 17 1)) fun p19 => Option.bind (f_pl_addDoor p19 r6 r9 r12 g13) fun g21 => some g21) else (some g13)
def n_oK3 (r6 r9 : Int32) (g10 : sm_H) : Option sm_H := sm_b2 (f_re_needNumber 17 51 500 g10) fun r12 g13 => n_oK4 r6 r9 r12 g13
def n_oK2 (r6 : Int32) (g7 : sm_H) : Option sm_H := sm_b2 (f_re_needNumber 17 1 50 g7) fun r9 g10 => n_oK3 r6 r9 g10
theorem n_oK1 (h : sm_H) : f_re_doorItem 17 h = (sm_gd (sm_isP (h 17 1)) <| sm_let (sm_p (h 17 1)) fun p4 => sm_b2 (f_re_needNumber 17 0 ((h p4 0) - 1) h) fun r6 g7 => n_oK2 r6 g7) := rfl
theorem n_oK4E (X : n_E p h0 c s h) (r1 r9 r12 : Int32) : n_oK4 r1 r9 r12 h = some h := by
  obtain ⟨-, -, ⟨x1, x2, x3⟩, -⟩ := id X
  unfold n_oK4
  rw [x3, if_neg (nI_ne0 (by omega) (by omega))]
theorem n_oK3E (X : n_E p h0 c s h) (r1 r9 : Int32) : n_oK3 r1 r9 h = some h := by
  unfold n_oK3
  refine w_b2 (n_needNumberE X 51 500) ?_
  exact n_oK4E X _ _ _
theorem n_oK2E (X : n_E p h0 c s h) (r1 : Int32) : n_oK2 r1 h = some h := by
  unfold n_oK2
  refine w_b2 (n_needNumberE X 1 50) ?_
  exact n_oK3E X _ _
def n_oR4 (g24 : sm_H) : Option (Int32 × sm_H) := sm_gd (sm_inb 3 1268) <| sm_gd (sm_inb 3 1268) <| sm_let (sm_up g24 (114 + 2) (3 : Int32).toNatClampNeg ((g24 (114 + 2) (3 : Int32).toNatClampNeg) + 1)) fun g28 => some (1, g28)
def n_oR3 (x2 : Int32) (g17 : sm_H) : Option (Int32 × sm_H) := sm_b2 (f_mo_readNumber 114 51 500 g17) fun r19 g20 => if r19 = 0 then (some (0, g20)) else (sm_gd (sm_inb (x2 + 2) 1268) <| sm_let (sm_up g20 (114 + 2) (x2 + 2 : Int32).toNatClampNeg (g20 114 14)) fun g24 => n_oR4 g24)
def n_oR2 (x2 : Int32) (g10 : sm_H) : Option (Int32 × sm_H) := sm_b2 (f_mo_readNumber 114 1 50 g10) fun r12 g13 => if r12 = 0 then (some (0, g13)) else (sm_gd (sm_inb (x2 + 1) 1268) <| sm_let (sm_up g13 (114 + 2) (x2 + 1 : Int32).toNatClampNeg (g13 114 14)) fun g17 => n_oR3 x2 g17)
theorem n_oR1 (h : sm_H) : f_mo_readDoor 114 h = (sm_gd (sm_inb 3 1268) <| sm_let (98 + (3 * (h (114 + 2) (3 : Int32).toNatClampNeg))) fun x2 => sm_gd (sm_inb 0 1268) <| sm_b2 (f_mo_readNumber 114 0 ((h (114 + 2) (0 : Int32).toNatClampNeg) - 1) h) fun r5 g6 => if r5 = 0 then (some (0, g6)) else (sm_gd (sm_inb x2 1268) <| sm_let (sm_up g6 (114 + 2) (x2 : Int32).toNatClampNeg (g6 114 14)) fun g10 => n_oR2 x2 g10)) := rfl
theorem n_cdoor (hp : p = 1 ∨ p = 24) (h1 : h p 3 = nI R) (hR : R < 10) (a z t : Int32) : ∃ h', f_pl_addDoor p a z t h = some h' ∧ h' p 3 = nI (R + 1) ∧ (∀ j, j ≠ 3 → h' p j = h p j) ∧ h' (p + 6) R = a ∧ h' (p + 7) R = z ∧ h' (p + 8) R = t ∧ (∀ j, j ≠ R → h' (p + 6) j = h (p + 6) j ∧ h' (p + 7) j = h (p + 7) j ∧ h' (p + 8) j = h (p + 8) j) ∧ ∀ r, r ≠ p → r ≠ p + 6 → r ≠ p + 7 → r ≠ p + 8 → h' r = h r := by
  refine ⟨sm_up (sm_up (sm_up (sm_up h (p + 6) R a) (p + 7) R z) (p + 8) R t) p 3 (nI (R + 1)), ?_, p_up_at, fun j j1 => ?_, ?_, ?_, ?_, fun j hj => ⟨?_, ?_, ?_⟩, fun r r0 r1 r2 r3 => ?_⟩
  · unfold f_pl_addDoor
    rw [h1, if_neg (show ¬ (10 : Int32) ≤ nI R from nI_ge (b := 10) hR (by omega)), sm_gd_t (sm_inb_nI (k := R) (n := 10) (by omega) (by omega)), nI_clamp (n := R) (by omega)]
    refine w_lt ?_
    rw [show sm_up h (p + 6) R a p 3 = nI R by rw [sm_up_off (by omega)]; exact h1, sm_gd_t (sm_inb_nI (k := R) (n := 10) (by omega) (by omega)), nI_clamp (n := R) (by omega)]
    refine w_lt ?_
    rw [show sm_up (sm_up h (p + 6) R a) (p + 7) R z p 3 = nI R by rw [sm_up_off (by omega), sm_up_off (by omega)]; exact h1, sm_gd_t (sm_inb_nI (k := R) (n := 10) (by omega) (by omega)), nI_clamp (n := R) (by omega)]
    refine w_lt ?_
    rw [show sm_up (sm_up (sm_up h (p + 6) R a) (p + 7) R z) (p + 8) R t p 3 = nI R by rw [sm_up_off (by omega), sm_up_off (by omega), sm_up_off (by omega)]; exact h1, nI_1]
    rfl
  · rw [sm_up_off (by omega), sm_up_off (by omega), sm_up_off (by omega), sm_up_off (by omega)]
  · rw [sm_up_off (by omega), sm_up_off (by omega), sm_up_off (by omega), p_up_at]
  · rw [sm_up_off (by omega), sm_up_off (by omega), p_up_at]
  · rw [sm_up_off (by omega), p_up_at]
  · rw [sm_up_off (by omega), sm_up_off (by omega), sm_up_off (by omega), sm_up_off (by omega)]
  · rw [sm_up_off (by omega), sm_up_off (by omega), sm_up_off (by omega), sm_up_off (by omega)]
  · rw [sm_up_off (by omega), sm_up_off (by omega), sm_up_off (by omega), sm_up_off (by omega)]
  · rw [sm_up_ne _ _ _ _ _ r0, sm_up_ne _ _ _ _ _ r3, sm_up_ne _ _ _ _ _ r2, sm_up_ne _ _ _ _ _ r1]
theorem n_door (B : n_B0 b L T p h0) (RB : n_RB b L g) (Y : n_SS b L T p h0 i e le h u) (C : n_IT Z D F R N K A p h q) (hR : R < 10) (bud : 3 * K ≤ e) (hA : A ≤ 8 * N) : n_O b L T p h0 g i h u (Option.bind (f_re_doorItem 17 h) fun g60 => f_re_item_L216 17 g60) (f_mo_readDoor 114 (n_rr g u q w)) := by
  have hp := B.2.2.2.2
  obtain ⟨q1, q2⟩ := p_isPp hp
  have n1 : ¬ (1 : Int32) = 0 := by decide
  have hc := C.1.2.1
  have cZ := C.1.1.2.1
  obtain ⟨τ, W, s, Y1⟩ := id Y
  obtain ⟨G, Kt, nx, U⟩ := id Y1
  have P1 : f_re_doorItem 17 h = sm_b2 (f_re_needNumber 17 0 (nI Z - 1) h) fun r6 g7 => n_oK2 r6 g7 := by
    rw [n_oK1, G.1, q1, s_true, q2]
    refine w_lt ?_
    rw [hc.1]
  have Q1 : f_mo_readDoor 114 (n_rr g u q w) = sm_b2 (f_mo_readNumber 114 0 (nI Z - 1) (n_rr g u q w)) fun r5 g6 => if r5 = 0 then (some (0, g6)) else (sm_gd (sm_inb (nI (98 + 3 * R)) 1268) <| sm_let (sm_up g6 (114 + 2) (nI (98 + 3 * R) : Int32).toNatClampNeg (g6 114 14)) fun g10 => n_oR2 (nI (98 + 3 * R)) g10) := by
    rw [n_oR1, s_i3, s_c3, show (114 + 2 : Nat) = 116 from rfl, n_r116, hc.2.2.2.2.2.2.2.1, show (98 : Int32) + 3 * nI R = nI (98 + 3 * R) by rw [show (3 : Int32) = nI 3 from rfl, show (98 : Int32) = nI 98 from rfl, nI_mul, nI_add]]
    refine w_lt ?_
    rw [s_i0, s_c0, hc.2.1]
  rcases n_num (g := g) (q := q) (w := w) B RB Y C.KA 0 (nI Z - 1) with ⟨u1, z, e1, v1, v2, v3, v4, v5, v6, v7, v8, v9, va, vb⟩ | ⟨h2, u1, v1, v2, c, s2, v3, v4⟩
  · have hz := n_le_pred (by omega) (by omega) v7
    have C1 := C.at7 hp (nI (i + 1))
    have P2 : f_re_doorItem 17 h = n_oK2 (nI z) (sm_up h 18 7 (nI (i + 1))) := by
      rw [P1]
      exact w_b2 v1 rfl
    have Q2 : f_mo_readDoor 114 (n_rr g u q w) = n_oR2 (nI (98 + 3 * R)) (n_rr g u1 (upd q (98 + 3 * R) (nI z)) w) := by
      rw [Q1]
      refine w_b2 v2 ?_
      rw [if_neg n1, sm_gd_t (sm_inb_nI (k := 98 + 3 * R) (n := 1268) (by omega) (by omega)), nI_clamp (n := 98 + 3 * R) (by omega), show (114 + 2 : Nat) = 116 from rfl, n_u116, n_r114, v4]
      rfl
    rw [P2, Q2]
    rcases n_num (g := g) (q := upd q (98 + 3 * R) (nI z)) (w := w) B RB vb C1.KA 1 50 with ⟨u2, a, e2, x1, x2, x3, x4, x5, x6, x7, x8, x9, xa, xb⟩ | ⟨h2, u2, x1, x2, c, s2, x3, x4⟩
    · have C2 := C1.at7 hp (nI (i + 1 + 1))
      have ha1 : 1 ≤ a := (nI_leI (a := 1) (by decide) (by omega)).mp x6
      have ha2 : a ≤ 50 := (nI_leI (b := 50) (by omega) (by decide)).mp x7
      have P3 : n_oK2 (nI z) (sm_up h 18 7 (nI (i + 1))) = n_oK3 (nI z) (nI a) (sm_up (sm_up h 18 7 (nI (i + 1))) 18 7 (nI (i + 1 + 1))) := by
        unfold n_oK2
        exact w_b2 x1 rfl
      have Q3 : n_oR2 (nI (98 + 3 * R)) (n_rr g u1 (upd q (98 + 3 * R) (nI z)) w) = n_oR3 (nI (98 + 3 * R)) (n_rr g u2 (upd (upd q (98 + 3 * R) (nI z)) (99 + 3 * R) (nI a)) w) := by
        unfold n_oR2
        refine w_b2 x2 ?_
        rw [if_neg n1, show nI (98 + 3 * R) + 1 = nI (98 + 3 * R + 1) from nI_add (98 + 3 * R) 1, sm_gd_t (sm_inb_nI (k := 98 + 3 * R + 1) (n := 1268) (by omega) (by omega)), nI_clamp (n := 98 + 3 * R + 1) (by omega), show (114 + 2 : Nat) = 116 from rfl, n_u116, n_r114, x4, show 98 + 3 * R + 1 = 99 + 3 * R by omega]
        rfl
      rw [P3, Q3]
      rcases n_num (g := g) (q := upd (upd q (98 + 3 * R) (nI z)) (99 + 3 * R) (nI a)) (w := w) B RB xb C2.KA 51 500 with ⟨u3, y, e3, y1, y2, y3, y4, y5, y6, y7, y8, y9, ya, yb⟩ | ⟨h2, u3, y1, y2, c, s2, y3, y4⟩
      · have C3 := C2.at7 hp (nI (i + 1 + 1 + 1))
        have hy1 : 51 ≤ y := (nI_leI (a := 51) (by decide) (by omega)).mp y6
        have hy2 : y ≤ 500 := (nI_leI (b := 500) (by omega) (by decide)).mp y7
        obtain ⟨h5, m1, m2, m3, m4, m5, m6, m7, m8⟩ := n_cdoor hp C3.1.2.1.2.2.2.2.2.2.1 hR (nI z) (nI a) (nI y)
        have hsv : sm_up (sm_up (sm_up h 18 7 (nI (i + 1))) 18 7 (nI (i + 1 + 1))) 18 7 (nI (i + 1 + 1 + 1)) 17 = h 17 := by rw [sm_up_ne _ _ _ _ _ (by decide), sm_up_ne _ _ _ _ _ (by decide), sm_up_ne _ _ _ _ _ (by decide)]
        have P4 : n_oK3 (nI z) (nI a) (sm_up (sm_up h 18 7 (nI (i + 1))) 18 7 (nI (i + 1 + 1))) = some h5 := by
          unfold n_oK3
          refine w_b2 y1 ?_
          unfold n_oK4
          rw [hsv, G.2.1, if_pos rfl, G.1, q1, s_true, q2]
          refine w_lt ?_
          exact w_bd m1 rfl
        have Q4 : n_oR3 (nI (98 + 3 * R)) (n_rr g u2 (upd (upd q (98 + 3 * R) (nI z)) (99 + 3 * R) (nI a)) w) = some (1, n_rr g u3 (upd (upd (upd (upd q (98 + 3 * R) (nI z)) (99 + 3 * R) (nI a)) (100 + 3 * R) (nI y)) 3 (nI (R + 1))) w) := by
          unfold n_oR3
          refine w_b2 y2 ?_
          rw [if_neg n1, show nI (98 + 3 * R) + 2 = nI (98 + 3 * R + 2) from nI_add (98 + 3 * R) 2, sm_gd_t (sm_inb_nI (k := 98 + 3 * R + 2) (n := 1268) (by omega) (by omega)), nI_clamp (n := 98 + 3 * R + 2) (by omega), show (114 + 2 : Nat) = 116 from rfl, n_u116, n_r114, y4, show 98 + 3 * R + 2 = 100 + 3 * R by omega]
          refine w_lt ?_
          unfold n_oR4
          rw [s_i3, s_i3, s_c3, show (114 + 2 : Nat) = 116 from rfl, n_r116, p_ud_off (by omega), p_ud_off (by omega), p_ud_off (by omega), hc.2.2.2.2.2.2.2.1, nI_1, n_u116]
          rfl
        have C5 : n_IT Z D F (R + 1) N K A p h5 (upd (upd (upd (upd q (98 + 3 * R) (nI z)) (99 + 3 * R) (nI a)) (100 + 3 * R) (nI y)) 3 (nI (R + 1))) := by
          refine C3.door hR hz ha1 ha2 hy1 hy2 m2 m3 m4 m5 m6 m7 m8 p_ud_at ?_ ?_ ?_ (fun j j1 j2 => ?_)
          · rw [p_ud_off (by omega), p_ud_off (by omega), p_ud_off (by omega), p_ud_at]
          · rw [p_ud_off (by omega), p_ud_off (by omega), p_ud_at]
          · rw [p_ud_off (by omega), p_ud_at]
          · rw [p_ud_off j1, p_ud_off (by omega), p_ud_off (by omega), p_ud_off (by omega)]
        rw [P4]
        exact n_fin (i1 := i + 1 + 1 + 1) B RB (yb.pl' hp (fun r hr => m8 r (by omega) (by omega) (by omega) (by omega))) C5 Q4 (((v3.trans x3).trans y3).uc) (by omega) (by omega) hA (by rw [m8 17 (by omega) (by omega) (by omega) (by omega), hsv])
      · have P4 : n_oK3 (nI z) (nI a) (sm_up (sm_up h 18 7 (nI (i + 1))) 18 7 (nI (i + 1 + 1))) = some h2 := by
          unfold n_oK3
          refine w_b2 y1 ?_
          exact n_oK4E y3 _ _ _
        have Q4 : n_oR3 (nI (98 + 3 * R)) (n_rr g u2 (upd (upd q (98 + 3 * R) (nI z)) (99 + 3 * R) (nI a)) w) = some (0, n_rr g u3 (upd (upd q (98 + 3 * R) (nI z)) (99 + 3 * R) (nI a)) w) := by
          unfold n_oR3
          refine w_b2 y2 ?_
          rw [if_pos rfl]
        rw [P4]
        exact n_finE y3 Q4 ((v3.trans x3).ub y4)
    · have P3 : n_oK2 (nI z) (sm_up h 18 7 (nI (i + 1))) = some h2 := by
        unfold n_oK2
        refine w_b2 x1 ?_
        exact n_oK3E x3 _ _
      have Q3 : n_oR2 (nI (98 + 3 * R)) (n_rr g u1 (upd q (98 + 3 * R) (nI z)) w) = some (0, n_rr g u2 (upd q (98 + 3 * R) (nI z)) w) := by
        unfold n_oR2
        refine w_b2 x2 ?_
        rw [if_pos rfl]
      rw [P3]
      exact n_finE x3 Q3 (v3.ub x4)
  · have P2 : f_re_doorItem 17 h = some h2 := by
      rw [P1]
      refine w_b2 v1 ?_
      exact n_oK2E v3 _
    have Q2 : f_mo_readDoor 114 (n_rr g u q w) = some (0, n_rr g u1 q w) := by
      rw [Q1]
      refine w_b2 v2 ?_
      rw [if_pos rfl]
    rw [P2]
    exact n_finE v3 Q2 v4
-- the plan's fields may be written after an error
theorem n_E.plan (hp : p = 1 ∨ p = 24) (X : n_E p h0 c s h) (j : Nat) (v : Int32) : n_E p h0 c s (sm_up h p j v) := by
  obtain ⟨⟨i, x1, x2, x3⟩, x4, x5, x6, x7, x8, ⟨K, x9, xa⟩, A, xb, xc⟩ := X
  have E : ∀ r, r ≠ p → sm_up h p j v r = h r := fun r hr => sm_up_ne _ _ _ _ _ hr
  refine ⟨⟨i, x1, by rw [E 18 (by omega)]; exact x2, by rw [E 20 (by omega)]; exact x3⟩, by rw [E 17 (by omega)]; exact x4, by rw [E 17 (by omega)]; exact x5, by rw [E 17 (by omega)]; exact x6, fun j hj => by rw [E 18 (by omega)]; exact x7 j hj, fun r r1 r2 r3 r4 => by rw [E r (by omega)]; exact x8 r r1 r2 r3 r4, ⟨K, x9, by rw [E (p + 9) (by omega)]; exact xa⟩, A, xb, by rw [E (p + 9) (by omega)]; exact xc⟩
-- a setting: target and proof
theorem n_setting (B : n_B0 b L T p h0) (RB : n_RB b L g) (Y : n_SS b L T p h0 i e le h u) (C : n_IT Z D F R N K A p h q) {jj m lo hi : Nat} (hv : (jj = 4 ∧ m = 5 ∧ lo = 1 ∧ hi = 200) ∨ (jj = 5 ∧ m = 6 ∧ lo = 0 ∧ hi = 999)) (bud : 3 * K ≤ e) (hA : A ≤ 8 * N) : n_O b L T p h0 g i h u (sm_b2 (f_re_needNumber 17 (nI lo) (nI hi) h) fun r55 g56 => sm_let (sm_up g56 p jj r55) fun g58 => f_re_item_L216 17 g58) (f_mo_readSetting 114 (nI m) (nI lo) (nI hi) (n_rr g u q w)) := by
  have hp := B.2.2.2.2
  have n1 : ¬ (1 : Int32) = 0 := by decide
  rcases n_num (g := g) (q := q) (w := w) B RB Y C.KA (nI lo) (nI hi) with ⟨u1, z, e1, v1, v2, v3, v4, v5, v6, v7, v8, v9, va, vb⟩ | ⟨h2, u1, v1, v2, c, s2, v3, v4⟩
  · have C1 := C.at7 hp (nI (i + 1))
    have l1 : lo ≤ z := (nI_leI (by omega) (by omega)).mp v6
    have l2 : z ≤ hi := (nI_leI (by omega) (by omega)).mp v7
    have P : (sm_b2 (f_re_needNumber 17 (nI lo) (nI hi) h) fun r55 g56 => sm_let (sm_up g56 p jj r55) fun g58 => f_re_item_L216 17 g58) = f_re_item_L216 17 (sm_up (sm_up h 18 7 (nI (i + 1))) p jj (nI z)) := by
      refine w_b2 v1 ?_
      rfl
    have Q : f_mo_readSetting 114 (nI m) (nI lo) (nI hi) (n_rr g u q w) = some (1, n_rr g u1 (upd q m (nI z)) w) := by
      unfold f_mo_readSetting
      refine w_b2 v2 ?_
      rw [if_neg n1, sm_gd_t (sm_inb_nI (k := m) (n := 1268) (by omega) (by omega)), nI_clamp (n := m) (by omega), show (114 + 2 : Nat) = 116 from rfl, n_u116, n_r114, v4]
      rfl
    rw [P]
    refine n_fin (i1 := i + 1) B RB (vb.pl' hp (fun r hr => sm_up_ne _ _ _ _ _ (by omega))) (C1.set (v := z) (j := jj) (m := m) (by omega) p_up_at (fun l hl => by rw [sm_up_off (by omega)]) (fun r hr => sm_up_ne _ _ _ _ _ hr) p_ud_at (fun l hl => p_ud_off hl)) Q v3.uc (by omega) (by omega) hA ?_
    rw [sm_up_ne _ _ _ _ _ (by omega), sm_up_ne _ _ _ _ _ (by decide)]
  · have P : (sm_b2 (f_re_needNumber 17 (nI lo) (nI hi) h) fun r55 g56 => sm_let (sm_up g56 p jj r55) fun g58 => f_re_item_L216 17 g58) = f_re_item_L216 17 (sm_up h2 p jj (nI lo)) := by
      refine w_b2 v1 ?_
      rfl
    rw [P]
    refine n_finE (q1 := q) (w1 := w) (v3.plan hp jj (nI lo)) ?_ v4
    unfold f_mo_readSetting
    refine w_b2 v2 ?_
    rw [if_pos rfl]
-- zones
theorem n_zones (B : n_B0 b L T p h0) (RB : n_RB b L g) (Y : n_SS b L T p h0 i e le h u) (C : n_IT Z 0 0 0 0 0 0 p h q) : n_O b L T p h0 g i h u (sm_b2 (f_re_needNumber 17 1 8 h) fun r55 g56 => sm_let (sm_up g56 p 0 r55) fun g58 => f_re_item_L216 17 g58) (f_mo_readSetting 114 0 1 8 (n_rr g u q w)) := by
  have hp := B.2.2.2.2
  have n1 : ¬ (1 : Int32) = 0 := by decide
  rcases n_num (g := g) (q := q) (w := w) B RB Y C.KA 1 8 with ⟨u1, z, e1, v1, v2, v3, v4, v5, v6, v7, v8, v9, va, vb⟩ | ⟨h2, u1, v1, v2, c, s2, v3, v4⟩
  · have C1 := C.at7 hp (nI (i + 1))
    have l1 : 1 ≤ z := (nI_leI (a := 1) (by decide) (by omega)).mp v6
    have l2 : z ≤ 8 := (nI_leI (b := 8) (by omega) (by decide)).mp v7
    have P : (sm_b2 (f_re_needNumber 17 1 8 h) fun r55 g56 => sm_let (sm_up g56 p 0 r55) fun g58 => f_re_item_L216 17 g58) = f_re_item_L216 17 (sm_up (sm_up h 18 7 (nI (i + 1))) p 0 (nI z)) := by
      refine w_b2 v1 ?_
      rfl
    have Q : f_mo_readSetting 114 0 1 8 (n_rr g u q w) = some (1, n_rr g u1 (upd q 0 (nI z)) w) := by
      unfold f_mo_readSetting
      refine w_b2 v2 ?_
      rw [if_neg n1, s_i0, s_c0, show (114 + 2 : Nat) = 116 from rfl, n_u116, n_r114, v4]
      rfl
    rw [P]
    refine n_fin (i1 := i + 1) B RB (vb.pl' hp (fun r hr => sm_up_ne _ _ _ _ _ (by omega))) (C1.zones (v := z) l1 l2 p_up_at (fun l hl => by rw [sm_up_off (by omega)]) (fun r hr => sm_up_ne _ _ _ _ _ hr) p_ud_at (fun l hl => p_ud_off hl)) Q v3.uc (by omega) (by omega) (by omega) ?_
    rw [sm_up_ne _ _ _ _ _ (by omega), sm_up_ne _ _ _ _ _ (by decide)]
  · have P : (sm_b2 (f_re_needNumber 17 1 8 h) fun r55 g56 => sm_let (sm_up g56 p 0 r55) fun g58 => f_re_item_L216 17 g58) = f_re_item_L216 17 (sm_up h2 p 0 1) := by
      refine w_b2 v1 ?_
      rfl
    rw [P]
    refine n_finE (q1 := q) (w1 := w) (v3.plan hp 0 1) ?_ v4
    unfold f_mo_readSetting
    refine w_b2 v2 ?_
    rw [if_pos rfl]
end n_dor
