-- LOAD: A FAN'S ITEM, its head
section n_fn2
variable {b : Nat → Nat} {L T p i e s τ j l k z r v : Nat} {g h0 h h' : sm_H} {u q w Q : Nat → Int32} {le : Bool} {W : List Nat} {Z D F R N Kc A K c : Nat}
def n_fR3 (x2 x8 : Int32) (g18 : sm_H) : Option (Int32 × sm_H) := sm_b2 (f_mo_readNumber 114 1 30 g18) fun r20 g21 => if r20 = 0 then (some (0, g21)) else (sm_gd (sm_inb (x2 + 2) 1268) <| sm_let (sm_up g21 (114 + 2) (x2 + 2 : Int32).toNatClampNeg (g21 114 14)) fun g25 => f_mo_readFan_L85 sm_N 114 x2 x8 g25)
def n_fR2 (x2 x8 : Int32) (g11 : sm_H) : Option (Int32 × sm_H) := sm_b2 (f_mo_readNumber 114 1 999 g11) fun r13 g14 => if r13 = 0 then (some (0, g14)) else (sm_gd (sm_inb (x2 + 1) 1268) <| sm_let (sm_up g14 (114 + 2) (x2 + 1 : Int32).toNatClampNeg (g14 114 14)) fun g18 => n_fR3 x2 x8 g18)
theorem n_fR1 (h : sm_H) : f_mo_readFan 114 h = (sm_gd (sm_inb 2 1268) <| sm_let (74 + (4 * (h (114 + 2) (2 : Int32).toNatClampNeg))) fun x2 => sm_b2 (f_mo_readKind 114 2 h) fun r4 g5 => if r4 = 0 then (some (0, g5)) else (sm_let (g5 114 14) fun x8 => sm_gd (sm_inb (x2 + 0) 1268) <| sm_let (sm_up g5 (114 + 2) (x2 + 0 : Int32).toNatClampNeg x8) fun g11 => n_fR2 x2 x8 g11)) := rfl
theorem n_fan (B : n_B0 b L T p h0) (RB : n_RB b L g) (Y : n_SS b L T p h0 i e le h u) (C : n_IT Z D F R N K A p h q) (hF : F < 6) (bud : 3 * K ≤ e) (hA : A ≤ 8 * N) : n_O b L T p h0 g i h u (Option.bind (f_re_fanItem 17 h) fun g62 => f_re_item_L216 17 g62) (f_mo_readFan 114 (n_rr g u q w)) := by
  have hp := B.2.2.2.2
  have n1 : ¬ (1 : Int32) = 0 := by decide
  have hc := C.1.2.1
  have em := C.1.2.2.2.2.2.2 F (Nat.le_refl _) hF
  obtain ⟨τ, W, s, Y1⟩ := id Y
  obtain ⟨G, Kt, nx, U⟩ := id Y1
  have hes : e ≤ s := Kt.1
  obtain ⟨a1, a2⟩ := n_air B G Kt C.KA
  have w6 := n_takeWord B G Kt (a := 6) (by decide)
  obtain ⟨r1, r2⟩ := n_rkind (g := g) (q := q) (w := w) B RB Y1 2 (by decide)
  have R1 : ∀ r g5, f_mo_readKind 114 2 (n_rr g u q w) = some (r, g5) → f_mo_readFan 114 (n_rr g u q w) = if r = 0 then (some ((0 : Int32), g5)) else (sm_let (g5 114 14) fun x8 => sm_gd (sm_inb (nI (74 + 4 * F) + 0) 1268) <| sm_let (sm_up g5 (114 + 2) (nI (74 + 4 * F) + 0 : Int32).toNatClampNeg x8) fun g11 => n_fR2 (nI (74 + 4 * F)) x8 g11) := by
    intro r g5 hr
    rw [n_fR1, s_i2, s_c2, show (114 + 2 : Nat) = 116 from rfl, n_r116, hc.2.2.2.2.2.1, show (74 : Int32) + 4 * nI F = nI (74 + 4 * F) by rw [show (4 : Int32) = nI 4 from rfl, show (74 : Int32) = nI 74 from rfl, nI_mul, nI_add]]
    refine w_lt ?_
    exact w_b2 hr rfl
  by_cases hk : ∃ k, k ≤ 2 ∧ τ = 1 ∧ W = n_kw (n_kk k)
  · obtain ⟨k, k2, kt, kW⟩ := hk
    obtain ⟨u1, b1, b2, b3, b4, b5⟩ := r1 k k2 ⟨kt, kW⟩
    have C1 := C.at7 hp (nI (i + 1))
    have P0 : f_re_fanItem 17 h = f_re_fanItem_L17 17 (nI k) (sm_up h 18 7 (nI (i + 1))) := by
      unfold f_re_fanItem
      by_cases y : k = 2
      · subst y
        rw [if_pos (show τ = 1 ∧ W = n_kw 6 from ⟨kt, kW⟩)] at w6
        refine w_b2 w6 ?_
        rw [if_neg n1]
        rfl
      · have k1 : k ≤ 1 := by omega
        have ne : ¬ (τ = 1 ∧ W = n_kw 6) := by
          intro x
          have c : k = 0 ∨ k = 1 := by omega
          rcases c with rfl | rfl
          · exact n_kw_ne (a := 2) (c := 6) (by decide) (by decide) (by decide) ((show W = n_kw 2 from kW).symm.trans x.2)
          · exact n_kw_ne (a := 3) (c := 6) (by decide) (by decide) (by decide) ((show W = n_kw 3 from kW).symm.trans x.2)
        rw [if_neg ne] at w6
        refine w_b2 w6 ?_
        rw [if_pos rfl]
        exact w_b2 (a1 k k1 ⟨kt, kW⟩) rfl
    have P1 : f_re_fanItem 17 h = sm_b2 (f_re_needNumber 17 1 999 (sm_up h 18 7 (nI (i + 1)))) (fun r8 g9 => sm_b2 (f_re_needNumber 17 1 30 g9) fun r11 g12 => f_re_fanItem_L41 sm_N 17 (nI k) r8 r11 0 0 g12) := by
      rw [P0]
      rfl
    have Q1 : f_mo_readFan 114 (n_rr g u q w) = n_fR2 (nI (74 + 4 * F)) (nI k) (n_rr g u1 (upd q (74 + 4 * F) (nI k)) w) := by
      rw [R1 _ _ b1, if_neg n1, n_r114, b3]
      refine w_lt ?_
      rw [show nI (74 + 4 * F) + 0 = nI (74 + 4 * F) from nI_add (74 + 4 * F) 0, sm_gd_t (sm_inb_nI (k := 74 + 4 * F) (n := 1268) (by omega) (by omega)), nI_clamp (n := 74 + 4 * F) (by omega), show (114 + 2 : Nat) = 116 from rfl, n_u116]
      rfl
    rw [Q1]
    rcases n_num (g := g) (q := upd q (74 + 4 * F) (nI k)) (w := w) B RB b5 C1.KA 1 999 with ⟨u2, v, e2, v1, v2, v3, v4, v5, v6, v7, v8, v9, va, vb⟩ | ⟨h2, u2, v1, v2, c, s2, v3, v4⟩
    · have hv1 : 1 ≤ v := (nI_leI (a := 1) (by decide) (by omega)).mp v6
      have hv2 : v ≤ 999 := (nI_leI (b := 999) (by omega) (by decide)).mp v7
      have C2 := C1.at7 hp (nI (i + 1 + 1))
      have P2 : f_re_fanItem 17 h = sm_b2 (f_re_needNumber 17 1 30 (sm_up (sm_up h 18 7 (nI (i + 1))) 18 7 (nI (i + 1 + 1)))) fun r11 g12 => f_re_fanItem_L41 sm_N 17 (nI k) (nI v) r11 0 0 g12 := by
        rw [P1]
        exact w_b2 v1 rfl
      have Q2 : n_fR2 (nI (74 + 4 * F)) (nI k) (n_rr g u1 (upd q (74 + 4 * F) (nI k)) w) = n_fR3 (nI (74 + 4 * F)) (nI k) (n_rr g u2 (upd (upd q (74 + 4 * F) (nI k)) (75 + 4 * F) (nI v)) w) := by
        unfold n_fR2
        refine w_b2 v2 ?_
        rw [if_neg n1, show nI (74 + 4 * F) + 1 = nI (74 + 4 * F + 1) from nI_add (74 + 4 * F) 1, sm_gd_t (sm_inb_nI (k := 74 + 4 * F + 1) (n := 1268) (by omega) (by omega)), nI_clamp (n := 74 + 4 * F + 1) (by omega), show (114 + 2 : Nat) = 116 from rfl, n_u116, n_r114, v4, show 74 + 4 * F + 1 = 75 + 4 * F by omega]
        rfl
      rw [P2, Q2]
      rcases n_num (g := g) (q := upd (upd q (74 + 4 * F) (nI k)) (75 + 4 * F) (nI v)) (w := w) B RB vb C2.KA 1 30 with ⟨u3, r, e3, x1, x2, x3, x4, x5, x6, x7, x8, x9, xa, xb⟩ | ⟨h2, u3, x1, x2, c, s2, x3, x4⟩
      · have hr1 : 1 ≤ r := (nI_leI (a := 1) (by decide) (by omega)).mp x6
        have hr2 : r ≤ 30 := (nI_leI (b := 30) (by omega) (by decide)).mp x7
        have C3 := C2.at7 hp (nI (i + 1 + 1 + 1))
        have P3 : (sm_b2 (f_re_needNumber 17 1 30 (sm_up (sm_up h 18 7 (nI (i + 1))) 18 7 (nI (i + 1 + 1)))) fun r11 g12 => f_re_fanItem_L41 sm_N 17 (nI k) (nI v) r11 0 0 g12) = f_re_fanItem_L41 sm_N 17 (nI k) (nI v) (nI r) 0 (nI 0) (sm_up (sm_up (sm_up h 18 7 (nI (i + 1))) 18 7 (nI (i + 1 + 1))) 18 7 (nI (i + 1 + 1 + 1))) := w_b2 x1 rfl
        have Q3 : n_fR3 (nI (74 + 4 * F)) (nI k) (n_rr g u2 (upd (upd q (74 + 4 * F) (nI k)) (75 + 4 * F) (nI v)) w) = f_mo_readFan_L85 sm_N 114 (nI (74 + 4 * F)) (nI k) (n_rr g u3 (upd (upd (upd q (74 + 4 * F) (nI k)) (75 + 4 * F) (nI v)) (76 + 4 * F) (nI r)) w) := by
          unfold n_fR3
          refine w_b2 x2 ?_
          rw [if_neg n1, show nI (74 + 4 * F) + 2 = nI (74 + 4 * F + 2) from nI_add (74 + 4 * F) 2, sm_gd_t (sm_inb_nI (k := 74 + 4 * F + 2) (n := 1268) (by omega) (by omega)), nI_clamp (n := 74 + 4 * F + 2) (by omega), show (114 + 2 : Nat) = 116 from rfl, n_u116, n_r114, x4, show 74 + 4 * F + 2 = 76 + 4 * F by omega]
          refine w_lt ?_
          rfl
        rw [P3, Q3]
        refine n_fanL (i0 := i) (hh := h) (u0 := u) B RB hF k2 hv1 hv2 hr1 hr2 hA 16 0 (i + 1 + 1 + 1) e3 true _ u3 _ 0 rfl xb C3 ⟨?_, ?_, ?_, ?_⟩ (fun j hj => ?_) (fun y y1 y2 => ?_) (p_cn_0 16 (fun k _ => sm_bt0 k)) ((b2.trans v3).trans x3).uc (by omega) (by omega) ?_ sm_N sm_N (by unfold sm_N; omega) (by unfold sm_N; omega)
        · rw [p_ud_off (by omega), p_ud_off (by omega), p_ud_at]
        · rw [p_ud_off (by omega), p_ud_at]
        · rw [p_ud_at]
        · rw [p_ud_off (by omega), p_ud_off (by omega), p_ud_off (by omega)]; exact em
        · rw [p_ud_off (by omega), p_ud_off (by omega), p_ud_off (by omega)]
        · rw [sm_bt0] at y2
          cases y2
        · rw [sm_up_ne _ _ _ _ _ (by decide), sm_up_ne _ _ _ _ _ (by decide), sm_up_ne _ _ _ _ _ (by decide)]
      · have P3 : (sm_b2 (f_re_needNumber 17 1 30 (sm_up (sm_up h 18 7 (nI (i + 1))) 18 7 (nI (i + 1 + 1)))) fun r11 g12 => f_re_fanItem_L41 sm_N 17 (nI k) (nI v) r11 0 0 g12) = some h2 := by
          refine w_b2 x1 ?_
          exact n_F41E x3 19999 _ _ _ _ _
        have Q3 : n_fR3 (nI (74 + 4 * F)) (nI k) (n_rr g u2 (upd (upd q (74 + 4 * F) (nI k)) (75 + 4 * F) (nI v)) w) = some (0, n_rr g u3 (upd (upd q (74 + 4 * F) (nI k)) (75 + 4 * F) (nI v)) w) := by
          unfold n_fR3
          refine w_b2 x2 ?_
          rw [if_pos rfl]
        rw [P3]
        exact n_finE x3 Q3 ((b2.trans v3).ub x4)
    · have P2 : f_re_fanItem 17 h = some h2 := by
        rw [P1]
        refine w_b2 v1 ?_
        refine w_b2 (n_needNumberE v3 1 30) ?_
        exact n_F41E v3 19999 _ _ _ _ _
      have Q2 : n_fR2 (nI (74 + 4 * F)) (nI k) (n_rr g u1 (upd q (74 + 4 * F) (nI k)) w) = some (0, n_rr g u2 (upd q (74 + 4 * F) (nI k)) w) := by
        unfold n_fR2
        refine w_b2 v2 ?_
        rw [if_pos rfl]
      rw [P2]
      exact n_finE v3 Q2 (b2.ub v4)
  · obtain ⟨h1, b1, b2⟩ := a2 (fun k k1 z => hk ⟨k, by omega, z⟩)
    obtain ⟨u1, c1, c2⟩ := r2 (fun k k1 z => hk ⟨k, k1, z⟩)
    rw [if_neg (show ¬ (τ = 1 ∧ W = n_kw 6) from fun z => hk ⟨2, by decide, z⟩)] at w6
    have P1 : f_re_fanItem 17 h = some h1 := by
      unfold f_re_fanItem
      refine w_b2 w6 ?_
      rw [if_pos rfl]
      refine w_b2 b1 ?_
      exact n_F17E b2 _
    rw [P1]
    exact n_finE b2 (by rw [R1 _ _ c1, if_pos rfl]) c2
end n_fn2
