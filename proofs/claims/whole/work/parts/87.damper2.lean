-- LOAD: A DAMPER'S ITEM, both sides
section n_damp2
variable {b : Nat → Nat} {L T p i e s τ j l k z r : Nat} {g h0 h h' : sm_H} {u q w : Nat → Int32} {le : Bool} {W : List Nat} {Z D F R N Kc A K c : Nat} {o v : Int32}
theorem n_G.pl (hp : p = 1 ∨ p = 24) (G : n_G p h0 i h) (e1 : ∀ r, ¬ (p ≤ r ∧ r ≤ p + 15) → h' r = h r) : n_G p h0 i h' := by
  obtain ⟨g1, g2, g3, g4, g5, g6⟩ := G
  have e17 := e1 17 (by omega)
  have e18 := e1 18 (by omega)
  exact ⟨by rw [e17]; exact g1, by rw [e17]; exact g2, by rw [e17]; exact g3, by rw [e18]; exact g4, fun j hj => by rw [e18]; exact g5 j hj, fun r r1 r2 r3 => by rw [e1 r r3]; exact g6 r r1 r2 r3⟩
def n_qd (q : Nat → Int32) (D k z r : Nat) : Nat → Int32 := upd (upd (upd q (10 + 4 * D) (nI k)) (11 + 4 * D) (nI z)) (12 + 4 * D) (nI r)
theorem n_qd_off {j : Nat} (h1 : j ≠ 10 + 4 * D) (h2 : j ≠ 11 + 4 * D) (h3 : j ≠ 12 + 4 * D) : n_qd q D k z r j = q j := by
  unfold n_qd
  rw [p_ud_off h3, p_ud_off h2, p_ud_off h1]
theorem n_qd0 : n_qd q D k z r (10 + 4 * D) = nI k := by
  unfold n_qd
  rw [p_ud_off (by omega), p_ud_off (by omega), p_ud_at]
theorem n_qd1 : n_qd q D k z r (11 + 4 * D) = nI z := by
  unfold n_qd
  rw [p_ud_off (by omega), p_ud_at]
theorem n_qd2 : n_qd q D k z r (12 + 4 * D) = nI r := by
  unfold n_qd
  rw [p_ud_at]
theorem n_dam4 (B : n_B0 b L T p h0) (RB : n_RB b L g) {i3 : Nat} {h3 : sm_H} {u3 : Nat → Int32} (Y : n_SS b L T p h0 i3 e le h3 u3) (C : n_IT Z D F R N K A p h3 q) (hD : D < 16) (hk : k ≤ 1) (hz : z < Z) (hr1 : 1 ≤ r) (hr2 : r ≤ 30) (hu : n_uc u u3) (hi : i ≤ i3) (bud : 3 * K ≤ e) (hA : A ≤ 8 * N) (h17 : h3 17 = h 17) : n_O b L T p h0 g i h u (Option.bind (n_dK4 (nI k) (nI z) (nI r) h3) fun g64 => f_re_item_L216 17 g64) (n_dR4 (nI (10 + 4 * D)) (n_rr g u3 (n_qd q D k z r) w)) := by
  have hp := B.2.2.2.2
  obtain ⟨q1, q2⟩ := p_isPp hp
  have n1 : ¬ (1 : Int32) = 0 := by decide
  have hc := C.1.2.1
  have em := C.1.2.2.2.2.2.1 D (Nat.le_refl _) hD
  obtain ⟨τ, W, s, Y1⟩ := id Y
  obtain ⟨G, Kt, nx, U⟩ := id Y1
  have hes : e ≤ s := Kt.1
  have w4 := n_takeWord B G Kt (a := 4) (by decide)
  obtain ⟨u4, p1, p2, p3, p4, p5, p6, -⟩ := n_peek (g := g) (q := n_qd q D k z r) (w := w) RB Kt U
  have Y4 : n_S b L T p h0 i3 e le τ W s h3 u4 := ⟨G, Kt, nx, p6⟩
  have let1 := n_isLetter RB s (n_rr g u4 (n_qd q D k z r) w)
  have k4 := n_kc_eq.2.2.2.2.1
  have X : ∀ x, sm_b2i (decide (s < L ∧ n_ty (b s) = 1)) = x → n_dR4 (nI (10 + 4 * D)) (n_rr g u3 (n_qd q D k z r) w) = n_dR5 (n_rr g u4 (n_qd q D k z r) w) (nI (10 + 4 * D)) x := by
    intro x hx
    unfold n_dR4
    refine w_b2 p1 ?_
    refine w_b2 let1 ?_
    rw [hx]
  by_cases zo : τ = 1 ∧ W = n_kw 4
  · rw [if_pos zo] at w4
    obtain ⟨z1, z2⟩ := zo
    have hT := (Kt.2.2.2.2.2.2.2.1 (by rw [z1]; decide)).2
    have fs := n_first Kt (Or.inl z1)
    rw [z1] at fs
    obtain ⟨u5, s1, s2, s3, s4, s5, s6⟩ := n_see (g := g) (q := n_qd q D k z r) (w := w) RB Y4 z1
    obtain ⟨u6, x1, x2, x3, x4, x5⟩ := n_psw (g := g) (q := n_qd q D k z r) (w := w) B RB s3 z1 s4
    obtain ⟨h5, y1, y2, y3, y4, y5, y6, y7, y8, y9⟩ := n_cdam (h := sm_up h3 18 7 (nI (i3 + 1))) hp (by rw [sm_up_ne _ _ _ _ _ (by omega)]; exact hc.2.2.1) hD (nI k) (nI z) (nI r) 1
    have C5 : n_IT Z (D + 1) F R N K A p h5 (upd (upd (n_qd q D k z r) (13 + 4 * D) 1) 1 (nI (D + 1))) := by
      refine (C.at7 hp (nI (i3 + 1))).damper (o := true) hD hk hz hr1 hr2 y2 y3 y4 y5 y6 y7 y8 y9 p_ud_at ?_ ?_ ?_ ?_ (fun j j1 j2 => ?_)
      · rw [p_ud_off (by omega), p_ud_off (by omega)]; exact n_qd0
      · rw [p_ud_off (by omega), p_ud_off (by omega)]; exact n_qd1
      · rw [p_ud_off (by omega), p_ud_off (by omega)]; exact n_qd2
      · rw [p_ud_off (by omega), p_ud_at]; rfl
      · rw [p_ud_off j1, p_ud_off (by omega)]; exact n_qd_off (by omega) (by omega) (by omega)
    have F1 : n_dK4 (nI k) (nI z) (nI r) h3 = some h5 := by
      unfold n_dK4
      refine w_b2 w4 ?_
      rw [show sm_up h3 18 7 (nI (i3 + 1)) 17 2 = 0 by rw [sm_up_ne _ _ _ _ _ (by decide)]; exact G.2.1, if_pos rfl, show sm_up h3 18 7 (nI (i3 + 1)) 17 1 = nI p by rw [sm_up_ne _ _ _ _ _ (by decide)]; exact G.1, q1, s_true, q2]
      refine w_lt ?_
      exact w_bd y1 rfl
    have F2 : n_dR4 (nI (10 + 4 * D)) (n_rr g u3 (n_qd q D k z r) w) = some (1, n_rr g u6 (upd (upd (n_qd q D k z r) (13 + 4 * D) 1) 1 (nI (D + 1))) w) := by
      rw [X 1 (by rw [decide_eq_true fs]; rfl)]
      unfold n_dR5
      rw [if_neg n1]
      refine w_b2 (v := 1) (g := n_rr g u6 (n_qd q D k z r) w) ?_ ?_
      · unfold f_mo_readKeyword
        refine w_b2 s1 ?_
        rw [if_neg n1, n_r114, if_pos ((s6 4 (by decide) _ k4).mpr z2)]
        exact w_bd x1 rfl
      · rw [if_neg n1, show nI (10 + 4 * D) + 3 = nI (10 + 4 * D + 3) from nI_add (10 + 4 * D) 3, sm_gd_t (sm_inb_nI (k := 10 + 4 * D + 3) (n := 1268) (by omega) (by omega)), nI_clamp (n := 10 + 4 * D + 3) (by omega), show (114 + 2 : Nat) = 116 from rfl, n_u116, show 10 + 4 * D + 3 = 13 + 4 * D by omega]
        refine w_lt ?_
        exact n_L119 (by rw [p_ud_off (by omega), n_qd_off (by omega) (by omega) (by omega)]; exact hc.2.2.2.1)
    rw [F1]
    exact n_fin (i1 := i3 + 1) B RB (x5.pl' hp (fun r hr => y9 r (by omega) (by omega) (by omega) (by omega))) C5 F2 (((hu.trans p2.uc).trans s2.uc).trans x2.uc) (by omega) (by omega) hA (by rw [y9 17 (by omega) (by omega) (by omega) (by omega), sm_up_ne _ _ _ _ _ (by decide)]; exact h17)
  · rw [if_neg zo] at w4
    obtain ⟨h5, y1, y2, y3, y4, y5, y6, y7, y8, y9⟩ := n_cdam (h := h3) hp hc.2.2.1 hD (nI k) (nI z) (nI r) 0
    have C5 : n_IT Z (D + 1) F R N K A p h5 (upd (n_qd q D k z r) 1 (nI (D + 1))) := by
      refine C.damper (o := false) hD hk hz hr1 hr2 y2 y3 y4 y5 y6 y7 y8 y9 p_ud_at ?_ ?_ ?_ ?_ (fun j j1 j2 => ?_)
      · rw [p_ud_off (by omega)]; exact n_qd0
      · rw [p_ud_off (by omega)]; exact n_qd1
      · rw [p_ud_off (by omega)]; exact n_qd2
      · rw [p_ud_off (by omega), n_qd_off (by omega) (by omega) (by omega), em]; rfl
      · rw [p_ud_off j1]; exact n_qd_off (by omega) (by omega) (by omega)
    have F1 : n_dK4 (nI k) (nI z) (nI r) h3 = some h5 := by
      unfold n_dK4
      refine w_b2 w4 ?_
      rw [G.2.1, if_pos rfl, G.1, q1, s_true, q2]
      refine w_lt ?_
      exact w_bd y1 rfl
    rw [F1]
    by_cases hl : s < L ∧ n_ty (b s) = 1
    · have t3 : ¬ τ = 3 := by
        intro y
        have := (Kt.2.2.2.2.2.2.2.2.2.2.2.1 y).2
        rw [hl.2] at this
        exact absurd this (by decide)
      have F2 : ∃ u6, n_dR4 (nI (10 + 4 * D)) (n_rr g u3 (n_qd q D k z r) w) = some (0, n_rr g u6 (n_qd q D k z r) w) ∧ n_ub 1 s u4 u6 := by
        rw [X 1 (by rw [decide_eq_true hl]; rfl)]
        by_cases ht : τ = 1
        · obtain ⟨u5, s1, s2, s3, s4, s5, s6⟩ := n_see (g := g) (q := n_qd q D k z r) (w := w) RB Y4 ht
          obtain ⟨f1, f2⟩ := n_fails (g := g) (q := n_qd q D k z r) (w := w) (c := 1) s5
          refine ⟨_, ?_, s2.ub f2⟩
          unfold n_dR5
          rw [if_neg n1]
          refine w_b2 (v := 0) (g := n_rr g (upd (upd u5 15 (nI 1)) 16 (nI s)) (n_qd q D k z r) w) ?_ ?_
          · unfold f_mo_readKeyword
            refine w_b2 s1 ?_
            rw [if_neg n1, n_r114, if_neg (fun y => zo ⟨ht, (s6 4 (by decide) _ k4).mp y⟩)]
            exact w_b2 f1 rfl
          · rw [if_pos rfl]
        · obtain ⟨u5, s1, s2⟩ := n_see0 (g := g) (q := n_qd q D k z r) (w := w) RB Y4 ht
          refine ⟨u5, ?_, s2⟩
          unfold n_dR5
          rw [if_neg n1]
          refine w_b2 (v := 0) (g := n_rr g u5 (n_qd q D k z r) w) ?_ ?_
          · unfold f_mo_readKeyword
            refine w_b2 s1 ?_
            rw [if_pos rfl]
          · rw [if_pos rfl]
      obtain ⟨u6, F2, F3⟩ := F2
      exact n_finS B (G.pl hp (fun r hr => y9 r (by omega) (by omega) (by omega) (by omega))) Kt C5.KA t3 F2 ((hu.trans p2.uc).ub F3)
    · have F2 : n_dR4 (nI (10 + 4 * D)) (n_rr g u3 (n_qd q D k z r) w) = some (1, n_rr g u4 (upd (n_qd q D k z r) 1 (nI (D + 1))) w) := by
        rw [X 0 (by rw [decide_eq_false hl]; rfl)]
        unfold n_dR5
        rw [if_pos rfl]
        exact n_L119 (by rw [n_qd_off (by omega) (by omega) (by omega)]; exact hc.2.2.2.1)
      have Y5 : n_SS b L T p h0 i3 e le h3 u4 := ⟨τ, W, s, Y4⟩
      exact n_fin (i1 := i3) B RB (Y5.pl' hp (fun r hr => y9 r (by omega) (by omega) (by omega) (by omega))) C5 F2 (hu.trans p2.uc) hi bud hA (by rw [y9 17 (by omega) (by omega) (by omega) (by omega)]; exact h17)
theorem n_damper (B : n_B0 b L T p h0) (RB : n_RB b L g) (Y : n_SS b L T p h0 i e le h u) (C : n_IT Z D F R N K A p h q) (hD : D < 16) (bud : 3 * K ≤ e) (hA : A ≤ 8 * N) : n_O b L T p h0 g i h u (Option.bind (f_re_damperItem 17 h) fun g64 => f_re_item_L216 17 g64) (f_mo_readDamper 114 (n_rr g u q w)) := by
  have hp := B.2.2.2.2
  obtain ⟨q1, q2⟩ := p_isPp hp
  have n1 : ¬ (1 : Int32) = 0 := by decide
  have hc := C.1.2.1
  have cZ := C.1.1.2.1
  obtain ⟨τ, W, s, Y1⟩ := id Y
  obtain ⟨G, Kt, nx, U⟩ := id Y1
  have hes : e ≤ s := Kt.1
  obtain ⟨a1, a2⟩ := n_air B G Kt C.KA
  obtain ⟨r1, r2⟩ := n_rkind (g := g) (q := q) (w := w) B RB Y1 1 (by decide)
  have R1 : ∀ r g5, f_mo_readKind 114 1 (n_rr g u q w) = some (r, g5) → f_mo_readDamper 114 (n_rr g u q w) = if r = 0 then some (0, g5) else (sm_gd (sm_inb (nI (10 + 4 * D) + 0) 1268) <| sm_let (sm_up g5 (114 + 2) (nI (10 + 4 * D) + 0 : Int32).toNatClampNeg (g5 114 14)) fun g9 => n_dR2 (nI (10 + 4 * D)) g9) := by
    intro r g5 hr
    rw [n_dR1, s_i1, s_c1, show (114 + 2 : Nat) = 116 from rfl, n_r116, hc.2.2.2.1, show (10 : Int32) + 4 * nI D = nI (10 + 4 * D) by rw [show (4 : Int32) = nI 4 from rfl, show (10 : Int32) = nI 10 from rfl, nI_mul, nI_add]]
    refine w_lt ?_
    exact w_b2 hr rfl
  by_cases hk : ∃ k, k ≤ 1 ∧ τ = 1 ∧ W = n_kw (n_kk k)
  · obtain ⟨k, k1, kt, kW⟩ := hk
    obtain ⟨u1, b1, b2, b3, b4, b5⟩ := r1 k k1 ⟨kt, kW⟩
    have C1 := C.at7 hp (nI (i + 1))
    have P1 : f_re_damperItem 17 h = sm_b2 (f_re_needNumber 17 0 (nI Z - 1) (sm_up h 18 7 (nI (i + 1)))) fun r9 g10 => n_dK3 (nI k) r9 g10 := by
      rw [n_dK1]
      refine w_b2 (a1 k k1 ⟨kt, kW⟩) ?_
      unfold n_dK2
      rw [show sm_up h 18 7 (nI (i + 1)) 17 1 = nI p by rw [sm_up_ne _ _ _ _ _ (by decide)]; exact G.1, q1, s_true, q2]
      refine w_lt ?_
      rw [C1.1.2.1.1]
    have Q1 : f_mo_readDamper 114 (n_rr g u q w) = sm_b2 (f_mo_readNumber 114 0 (nI Z - 1) (n_rr g u1 (upd q (10 + 4 * D) (nI k)) w)) fun r12 g13 => if r12 = 0 then (some (0, g13)) else (sm_gd (sm_inb (nI (10 + 4 * D) + 1) 1268) <| sm_let (sm_up g13 (114 + 2) (nI (10 + 4 * D) + 1 : Int32).toNatClampNeg (g13 114 14)) fun g17 => n_dR3 (nI (10 + 4 * D)) g17) := by
      rw [R1 _ _ b1, if_neg n1, show nI (10 + 4 * D) + 0 = nI (10 + 4 * D) from nI_add (10 + 4 * D) 0, sm_gd_t (sm_inb_nI (k := 10 + 4 * D) (n := 1268) (by omega) (by omega)), nI_clamp (n := 10 + 4 * D) (by omega), show (114 + 2 : Nat) = 116 from rfl, n_u116, n_r114, b3]
      refine w_lt ?_
      unfold n_dR2
      rw [s_i0, s_c0, show (114 + 2 : Nat) = 116 from rfl, n_r116, p_ud_off (by omega), hc.2.1]
    rcases n_num (g := g) (q := upd q (10 + 4 * D) (nI k)) (w := w) B RB b5 C1.KA 0 (nI Z - 1) with ⟨u2, z, e2, v1, v2, v3, v4, v5, v6, v7, v8, v9, va, vb⟩ | ⟨h2, u2, v1, v2, c, s2, v3, v4⟩
    · have hz := n_le_pred (by omega) (by omega) v7
      have C2 := C1.at7 hp (nI (i + 1 + 1))
      have P2 : f_re_damperItem 17 h = n_dK3 (nI k) (nI z) (sm_up (sm_up h 18 7 (nI (i + 1))) 18 7 (nI (i + 1 + 1))) := by
        rw [P1]
        exact w_b2 v1 rfl
      have Q2 : f_mo_readDamper 114 (n_rr g u q w) = n_dR3 (nI (10 + 4 * D)) (n_rr g u2 (upd (upd q (10 + 4 * D) (nI k)) (11 + 4 * D) (nI z)) w) := by
        rw [Q1]
        refine w_b2 v2 ?_
        rw [if_neg n1, show nI (10 + 4 * D) + 1 = nI (10 + 4 * D + 1) from nI_add (10 + 4 * D) 1, sm_gd_t (sm_inb_nI (k := 10 + 4 * D + 1) (n := 1268) (by omega) (by omega)), nI_clamp (n := 10 + 4 * D + 1) (by omega), show (114 + 2 : Nat) = 116 from rfl, n_u116, n_r114, v4, show 10 + 4 * D + 1 = 11 + 4 * D by omega]
        rfl
      rw [P2, Q2]
      rcases n_num (g := g) (q := upd (upd q (10 + 4 * D) (nI k)) (11 + 4 * D) (nI z)) (w := w) B RB vb C2.KA 1 30 with ⟨u3, r, e3, x1, x2, x3, x4, x5, x6, x7, x8, x9, xa, xb⟩ | ⟨h2, u3, x1, x2, c, s2, x3, x4⟩
      · have C3 := C2.at7 hp (nI (i + 1 + 1 + 1))
        have P3 : n_dK3 (nI k) (nI z) (sm_up (sm_up h 18 7 (nI (i + 1))) 18 7 (nI (i + 1 + 1))) = n_dK4 (nI k) (nI z) (nI r) (sm_up (sm_up (sm_up h 18 7 (nI (i + 1))) 18 7 (nI (i + 1 + 1))) 18 7 (nI (i + 1 + 1 + 1))) := by
          unfold n_dK3
          exact w_b2 x1 rfl
        have Q3 : n_dR3 (nI (10 + 4 * D)) (n_rr g u2 (upd (upd q (10 + 4 * D) (nI k)) (11 + 4 * D) (nI z)) w) = n_dR4 (nI (10 + 4 * D)) (n_rr g u3 (n_qd q D k z r) w) := by
          unfold n_dR3
          refine w_b2 x2 ?_
          rw [if_neg n1, show nI (10 + 4 * D) + 2 = nI (10 + 4 * D + 2) from nI_add (10 + 4 * D) 2, sm_gd_t (sm_inb_nI (k := 10 + 4 * D + 2) (n := 1268) (by omega) (by omega)), nI_clamp (n := 10 + 4 * D + 2) (by omega), show (114 + 2 : Nat) = 116 from rfl, n_u116, n_r114, x4, show 10 + 4 * D + 2 = 12 + 4 * D by omega]
          rfl
        have hr1 : 1 ≤ r := (nI_leI (a := 1) (by decide) (by omega)).mp x6
        have hr2 : r ≤ 30 := (nI_leI (b := 30) (by omega) (by decide)).mp x7
        rw [P3, Q3]
        exact n_dam4 (w := w) B RB xb C3 hD k1 hz hr1 hr2 (((b2.trans v3).trans x3).uc) (by omega) (by omega) hA (by rw [sm_up_ne _ _ _ _ _ (by decide), sm_up_ne _ _ _ _ _ (by decide), sm_up_ne _ _ _ _ _ (by decide)])
      · have P3 : n_dK3 (nI k) (nI z) (sm_up (sm_up h 18 7 (nI (i + 1))) 18 7 (nI (i + 1 + 1))) = some h2 := by
          unfold n_dK3
          refine w_b2 x1 ?_
          exact n_dK4E x3 _ _ _
        have Q3 : n_dR3 (nI (10 + 4 * D)) (n_rr g u2 (upd (upd q (10 + 4 * D) (nI k)) (11 + 4 * D) (nI z)) w) = some (0, n_rr g u3 (upd (upd q (10 + 4 * D) (nI k)) (11 + 4 * D) (nI z)) w) := by
          unfold n_dR3
          refine w_b2 x2 ?_
          rw [if_pos rfl]
        rw [P3]
        exact n_finE x3 Q3 ((b2.trans v3).ub x4)
    · have P2 : f_re_damperItem 17 h = some h2 := by
        rw [P1]
        refine w_b2 v1 ?_
        exact n_dK3E v3 _ _
      have Q2 : f_mo_readDamper 114 (n_rr g u q w) = some (0, n_rr g u2 (upd q (10 + 4 * D) (nI k)) w) := by
        rw [Q1]
        refine w_b2 v2 ?_
        rw [if_pos rfl]
      rw [P2]
      exact n_finE v3 Q2 (b2.ub v4)
  · obtain ⟨h1, b1, b2⟩ := a2 (fun k k1 z => hk ⟨k, k1, z⟩)
    obtain ⟨u1, c1, c2⟩ := r2 (fun k k1 z => hk ⟨k, k1, z⟩)
    have P1 : f_re_damperItem 17 h = some h1 := by
      rw [n_dK1]
      refine w_b2 b1 ?_
      exact n_dK2E hp b2 _
    rw [P1]
    exact n_finE b2 (by rw [R1 _ _ c1, if_pos rfl]) c2
end n_damp2
