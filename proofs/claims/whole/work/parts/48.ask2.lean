-- FAN; SUPPLY AND EXHAUST; RULES; COMMANDS; THE STAIRCASE
section p_ask2
variable {p Z D F R j : Nat} {h : sm_H}
theorem s_fan : sm_S25 p_RR := by
  intro j h x y hj hR
  obtain ⟨p, Z, D, F, R, G⟩ := hR
  obtain ⟨⟨c1, c2, c3, c4, c5⟩, ⟨z1, z2⟩, ⟨d1, d2⟩, ⟨f1, f2⟩, r1, r2⟩ := p_RR.parts G
  rcases p_idx x F (by omega) with ⟨k, hk, rfl⟩ | hx
  · obtain ⟨h1, h2, h3, a1, a2, a3, a4, a5, a6, CM⟩ := t_dec G
    obtain ⟨t, B⟩ := G.B
    obtain ⟨V, S, K⟩ := B
    obtain ⟨i1, i2⟩ := V.isP
    have hk6 : k < 6 := by omega
    have gi : sm_inb (nI (16 + k)) 23 = true := sm_inb_nI (by omega) (by omega)
    have gk : sm_inb (nI k) 6 = true := sm_inb_nI (by omega) (by omega)
    have ck : (nI k).toNatClampNeg = k := nI_clamp (by omega)
    have ci : (nI (16 + k)).toNatClampNeg = 16 + k := nI_clamp (by omega)
    have e16 : (16 : Int32) + nI k = nI (16 + k) := nI_add 16 k
    have m3 : h3 117 = h 117 := a6 117 (by omega)
    have m5 : h3 115 = h 115 := a6 115 (by omega)
    have G3 : p_R0 (j + 6) p Z D F R h3 := G.qry (fun _ _ => rfl) (fun i hi => a6 i (by omega))
    have G2 : p_R0 (j + 6) p Z D F R h2 := G.qry (fun i hi => a4 i (by omega)) (fun i hi => a5 i (by omega))
    have mo : ∀ g, h 115 2 = g 115 2 → f_mo_isFan 114 (nI k) g = some (1, g) := fun g e => e_isFanI (e ▸ f2) (by omega) hk
    have sc := e_lacksFanI G.1 G.2.1 f1 (by omega) hk
    obtain ⟨kf, v, r, -, -, -, r1, r2, ek1, ek2, ev1, ev2, er1, er2, el, -⟩ := V.2.2.2.2.2.2.1 k hk
    have hlv : h (40 + 3) (16 + k) = h 117 (154 + 6 * k) := S.1 3 (16 + k) _ (q_lev hk)
    unfold f_sc_fan f_mo_fan f_sc_unitAnswer
    by_cases y0 : y = 0
    · subst y0
      refine ⟨h 43 (16 + k), h, h3, ?_, ?_, p, Z, D, F, R, G3⟩
      · rw [sc]
        simp only [sm_b2, Option.bind_some, e16]
        rw [if_pos trivial, if_neg (by decide), if_neg (by decide), if_pos trivial, gi, s_true, ci]
        rfl
      · rw [mo h rfl]
        simp only [sm_b2, Option.bind_some]
        rw [if_neg (by decide), a3]
        simp only [Option.bind_some]
        rw [if_pos trivial, e_fI0 hk6, m3, ← hlv]
        rfl
    by_cases y1 : y = 1
    · subst y1
      refine ⟨if h1 109 (16 + k) = 1 then 1 else 0, h1, h2, ?_, ?_, p, Z, D, F, R, G2⟩
      · rw [sc]
        simp only [sm_b2, Option.bind_some, e16]
        rw [if_pos trivial, if_neg (by decide), if_neg (by decide), if_neg (by decide), if_pos trivial, e_present a1]
        simp only [sm_b2, Option.bind_some, Nat.reduceAdd, decide_true, s_true, gi, ci, f_sc_unitAnswer_L64]
        split <;> rfl
      · rw [mo h1 (by rw [a4 115 (by omega)])]
        simp only [sm_b2, Option.bind_some]
        rw [if_neg (by decide), a2]
        simp only [Option.bind_some]
        rw [if_neg (by decide), if_pos trivial, gk, s_true, ck, p_cmv (CM.2 k hk).1]
    by_cases y2 : y = 2
    · subst y2
      refine ⟨h1 110 (16 + k), h1, h2, ?_, ?_, p, Z, D, F, R, G2⟩
      · rw [sc]
        simp only [sm_b2, Option.bind_some, e16]
        rw [if_pos trivial, if_neg (by decide), if_neg (by decide), if_neg (by decide), if_neg (by decide), if_pos trivial, e_present a1]
        simp only [sm_b2, Option.bind_some, Nat.reduceAdd, decide_true, s_true, gi, ci]
      · rw [mo h1 (by rw [a4 115 (by omega)])]
        simp only [sm_b2, Option.bind_some]
        rw [if_neg (by decide), a2]
        simp only [Option.bind_some]
        rw [if_neg (by decide), if_neg (by decide), if_pos trivial, gk, s_true, ck, (CM.2 k hk).2]
    by_cases y3 : y = 3
    · subst y3
      refine ⟨sm_b2i (sm_bt (h 40 8) (16 + k)), h, h3, ?_, ?_, p, Z, D, F, R, G3⟩
      · rw [sc]
        simp only [sm_b2, Option.bind_some, e16]
        rw [if_pos trivial, if_neg (by decide), if_neg (by decide), if_neg (by decide), if_neg (by decide), if_neg (by decide), if_pos trivial, e_has _ _ _ (by omega)]
        simp only [sm_b2, Option.bind_some, f_sc_unitAnswer_L94]
        cases sm_bt (h 40 8) (16 + k) <;> rfl
      · rw [mo h rfl]
        simp only [sm_b2, Option.bind_some]
        rw [if_neg (by decide), a3]
        simp only [Option.bind_some]
        rw [if_neg (by decide), if_neg (by decide), if_neg (by decide), if_pos trivial, e_fI5 hk6, m3, show h 117 (159 + 6 * k) = sm_b2i (sm_bt (h 40 8) (16 + k)) from S.2.1 0 8 (16 + k) _ (w_ftr hk)]
        rfl
    by_cases y4 : y = 4
    · subst y4
      refine ⟨h 47 (16 + k), h, h3, ?_, ?_, p, Z, D, F, R, G3⟩
      · rw [sc]
        simp only [sm_b2, Option.bind_some, e16]
        rw [if_pos trivial, if_neg (by decide), if_neg (by decide), if_neg (by decide), if_neg (by decide), if_neg (by decide), if_neg (by decide), if_pos trivial, gi, s_true, ci]
        rfl
      · rw [mo h rfl]
        simp only [sm_b2, Option.bind_some]
        rw [if_neg (by decide), a3]
        simp only [Option.bind_some]
        rw [if_neg (by decide), if_neg (by decide), if_neg (by decide), if_neg (by decide), if_pos trivial, e_fI4 hk6, m3, show h 47 (16 + k) = h 117 (158 + 6 * k) from S.1 7 (16 + k) _ (q_ftm hk)]
        rfl
    by_cases y5 : y = 5
    · subst y5
      refine ⟨h (p + 4) k * h (40 + 3) (16 + k) / nI r, h, h3, ?_, ?_, p, Z, D, F, R, G3⟩
      · rw [sc]
        simp only [sm_b2, Option.bind_some]
        rw [if_pos trivial, if_pos trivial, Nat.zero_add, t_fanAir (s := 40) G.1 G.2.1 hk6 r1 r2 er1]
        rfl
      · rw [mo h rfl]
        simp only [sm_b2, Option.bind_some]
        rw [if_neg (by decide), a3]
        simp only [Option.bind_some]
        rw [if_neg (by decide), if_neg (by decide), if_neg (by decide), if_neg (by decide), if_neg (by decide), if_pos trivial, t_airOf hk6 r1 r2 (by rw [m5]; exact er2), m3, m5, ev1, ev2, hlv]
        rfl
    by_cases y6 : y = 6
    · subst y6
      have s1 : h1 40 0 = nI p := by rw [a4 40 (by omega)]; exact G.2.1
      have q115 : h2 115 = h 115 := (a5 115 (by omega)).trans (a4 115 (by omega))
      have q117 : h2 117 = h 117 := (a5 117 (by omega)).trans (a4 117 (by omega))
      have hp : p ≤ 24 := by rcases G.1 with e | e <;> omega
      obtain ⟨m, m1, m2⟩ := t_proven (h := h1) (s := 40) (p := p) (D := D) G.1 s1 c3 (by rw [a4 p (by omega)]; exact d1)
      obtain ⟨b, b1, b2⟩ := t_way (h := h1) (g := h2) (s := 40) (p := p) (D := D) G.1 s1 c3 (by rw [q115]; exact d2) hk6 (by rw [a4 _ (by omega), q115, ek1, ek2]) (by rw [a4 _ (by omega), q115]; exact el) (m := m) (fun d hd => by
        rw [m2 d hd]
        by_cases w : d < D
        · rw [decide_eq_true w, Bool.true_and, Bool.true_and]
          obtain ⟨_, _, r', -, -, -, -, -, -, -, -, es1, es2, -⟩ := V.2.2.2.2.2.1 d w
          unfold p_op
          rw [a4 _ (by omega), a4 _ (by omega), q115, q117, show h (40 + 3) d = h 117 (42 + 7 * d) from S.1 3 d _ (q_pos w), es1, es2]
        · rw [decide_eq_false w]
          rfl)
      have cmd : (h2 127 k = 1) = (h1 109 (16 + k) = 1) := by
        rcases (CM.2 k hk).1 with ⟨u, w⟩ | ⟨u, w⟩ <;> rw [u, w]
        decide
      refine ⟨sm_b2i (decide (h1 109 (16 + k) = 1) && !b), h1, h2, ?_, ?_, p, Z, D, F, R, G2⟩
      · rw [sc]
        simp only [sm_b2, Option.bind_some]
        rw [if_pos trivial, if_neg (by decide), if_pos trivial]
        unfold f_sc_waitsForDamper f_sc_waitsForDamper_L39
        rw [e_present a1, e16]
        simp only [sm_b2, Option.bind_some, Nat.reduceAdd, decide_true, s_true, gi, ci, m1, b1]
        by_cases w : h1 109 (16 + k) = 1
        · rw [if_pos w, decide_eq_true w]
          cases b <;> rfl
        · rw [if_neg w, decide_eq_false w]
          rfl
      · rw [mo h1 (by rw [a4 115 (by omega)])]
        simp only [sm_b2, Option.bind_some]
        rw [if_neg (by decide), a2]
        simp only [Option.bind_some]
        rw [if_neg (by decide), if_neg (by decide), if_neg (by decide), if_neg (by decide), if_neg (by decide), if_neg (by decide), if_pos trivial, gk, s_true, ck, b2]
        by_cases w : h1 109 (16 + k) = 1
        · rw [if_pos (show h2 (114 + 13) k = 1 by rw [cmd]; exact w), decide_eq_true w]
          cases b <;> rfl
        · rw [if_neg (show ¬ h2 (114 + 13) k = 1 by rw [cmd]; exact w), decide_eq_false w]
          rfl
    · refine ⟨-2, h, h3, ?_, ?_, p, Z, D, F, R, G3⟩
      · rw [sc]
        simp only [sm_b2, Option.bind_some]
        rw [if_pos trivial, if_neg y5, if_neg y6, if_neg y0, if_neg y1, if_neg y2, if_neg y3, if_neg y4]
        rfl
      · rw [mo h rfl]
        simp only [sm_b2, Option.bind_some]
        rw [if_neg (by decide), a3]
        simp only [Option.bind_some]
        rw [if_neg y0, if_neg y1, if_neg y2, if_neg y3, if_neg y4, if_neg y5, if_neg y6]
  · refine ⟨-1, h, h, ?_, ?_, p, Z, D, F, R, G.mono⟩
    · unfold f_sc_fan
      rw [e_lacksFanO G.1 G.2.1 f1 hx]
      rfl
    · unfold f_mo_fan
      rw [e_isFanO f2 (by omega) hx]
      rfl
theorem s_supply : sm_S22 p_RR := by
  intro j h x hj hR
  obtain ⟨p, Z, D, F, R, G⟩ := hR
  obtain ⟨⟨c1, c2, c3, c4, c5⟩, ⟨z1, z2⟩, -⟩ := p_RR.parts G
  rcases p_idx x Z (by omega) with ⟨k, hk, rfl⟩ | hx
  · obtain ⟨t, V, S, K⟩ := G.B
    obtain ⟨h1, a1, a2, a3⟩ := t_divide (g := h) V S K
    have q115 : h1 115 = h 115 := a2 115 (by omega)
    have q117 : h1 117 = h 117 := a2 117 (by omega)
    have b := t_airTo (g := h1) (h := h) (p := p) (Z := Z) (D := D) (F := F) (R := R) (by rw [q115]; exact V.2.2.2) (z := k) (by omega) 0
    rw [p_sp_c q115 q117, p_sv_c q115 q117] at b
    refine ⟨h1 111 k, h1, h1, ?_, ?_, p, Z, D, F, R, G.qry (fun i hi => a2 i (by omega)) (fun _ _ => rfl)⟩
    · unfold f_sc_supply
      rw [e_lacksZoneI G.1 G.2.1 z1 (by omega) hk]
      simp only [sm_b2, Option.bind_some, Nat.reduceAdd, a1]
      rw [if_pos trivial, sm_gd_t (sm_inb_nI (by omega) (by omega)), nI_clamp (by omega)]
    · unfold f_mo_supply f_mo_supply_L18
      rw [e_isZoneI (by rw [q115]; exact z2) (by omega) hk]
      simp only [sm_b2, Option.bind_some]
      rw [if_neg (by decide), b, (a3 k (by omega)).1]
      rfl
  · refine ⟨-1, h, h, ?_, ?_, p, Z, D, F, R, G.mono⟩
    · unfold f_sc_supply
      rw [e_lacksZoneO G.1 G.2.1 z1 hx]
      rfl
    · unfold f_mo_supply f_mo_supply_L18
      rw [e_isZoneO z2 (by omega) hx]
      rfl
theorem s_exhaust : sm_S23 p_RR := by
  intro j h x hj hR
  obtain ⟨p, Z, D, F, R, G⟩ := hR
  obtain ⟨⟨c1, c2, c3, c4, c5⟩, ⟨z1, z2⟩, -⟩ := p_RR.parts G
  rcases p_idx x Z (by omega) with ⟨k, hk, rfl⟩ | hx
  · obtain ⟨t, V, S, K⟩ := G.B
    obtain ⟨h1, a1, a2, a3⟩ := t_divide (g := h) V S K
    have q115 : h1 115 = h 115 := a2 115 (by omega)
    have q117 : h1 117 = h 117 := a2 117 (by omega)
    have b := t_airTo (g := h1) (h := h) (p := p) (Z := Z) (D := D) (F := F) (R := R) (by rw [q115]; exact V.2.2.2) (z := k) (by omega) 1
    rw [p_sp_c q115 q117, p_sv_c q115 q117] at b
    refine ⟨h1 112 k, h1, h1, ?_, ?_, p, Z, D, F, R, G.qry (fun i hi => a2 i (by omega)) (fun _ _ => rfl)⟩
    · unfold f_sc_exhaust
      rw [e_lacksZoneI G.1 G.2.1 z1 (by omega) hk]
      simp only [sm_b2, Option.bind_some, Nat.reduceAdd, a1]
      rw [if_pos trivial, sm_gd_t (sm_inb_nI (by omega) (by omega)), nI_clamp (by omega)]
    · unfold f_mo_exhaust f_mo_exhaust_L18
      rw [e_isZoneI (by rw [q115]; exact z2) (by omega) hk]
      simp only [sm_b2, Option.bind_some]
      rw [if_neg (by decide), b, (a3 k (by omega)).2]
      rfl
  · refine ⟨-1, h, h, ?_, ?_, p, Z, D, F, R, G.mono⟩
    · unfold f_sc_exhaust
      rw [e_lacksZoneO G.1 G.2.1 z1 hx]
      rfl
    · unfold f_mo_exhaust f_mo_exhaust_L18
      rw [e_isZoneO z2 (by omega) hx]
      rfl
theorem s_ruleHolds : sm_S26 p_RR := by
  intro j h x hj hR
  obtain ⟨p, Z, D, F, R, G⟩ := hR
  obtain ⟨t, V, S, K⟩ := G.B
  obtain ⟨i1, i2⟩ := V.isP
  obtain ⟨N, KK, A, n1, n2, n3, n4, n5, -⟩ := V.2.2.2.2.2.2.2.2
  rcases p_idx x N (by omega) with ⟨k, hk, rfl⟩ | hx
  · obtain ⟨v, st, v1, v2⟩ := t_holds V S K 107 n4 n1 hk
    refine ⟨sm_b2i v, h, sm_row h 122 st, ?_, ?_, p, Z, D, F, R, G.qry (fun _ _ => rfl) (fun i hi => p_row_off (by omega))⟩
    · unfold f_sc_ruleHolds f_sc_ruleHolds_L46
      rw [if_neg (nI_pos (by omega))]
      simp only [Nat.reduceAdd, i1, i2, s_true, sm_let, n4, v1, sm_b2, Option.bind_some]
      rw [if_pos (nI_lt hk (by omega))]
      cases v <;> rfl
    · unfold f_mo_ruleHolds f_mo_ruleHolds_L31
      rw [s_i4, s_c4, show h (114 + 1) 4 = nI N from n5, e_inI hk (by omega)]
      simp only [sm_b2, Option.bind_some, v2]
      rw [if_neg (by decide)]
      cases v <;> rfl
  · refine ⟨-1, h, h, ?_, ?_, p, Z, D, F, R, G.mono⟩
    · unfold f_sc_ruleHolds
      simp only [Nat.reduceAdd, i1, i2, s_true, sm_let, n4]
      by_cases x0 : x < 0
      · rw [if_pos x0]
      · rw [if_neg x0, if_neg (Int32.not_lt.mpr (hx.resolve_left x0))]
    · unfold f_mo_ruleHolds
      rw [s_i4, s_c4, show h (114 + 1) 4 = nI N from n5, e_inO hx (by omega)]
      rfl
theorem s_stair : sm_S19 p_RR := by
  intro j h x hj hR
  obtain ⟨p, Z, D, F, R, G⟩ := hR
  obtain ⟨t, V, S, K⟩ := G.B
  obtain ⟨i1, i2⟩ := V.isP
  have K0 : ∀ r, f_sc_stair 0 x h = some (r, h) → f_mo_stair 114 x h = some (r, h) → ∃ r h1 h2, f_sc_stair 0 x h = some (r, h1) ∧ f_mo_stair 114 x h1 = some (r, h2) ∧ p_RR (j + 6) h2 := fun r a b => ⟨r, h, h, a, b, p, Z, D, F, R, G.mono⟩
  unfold f_sc_stair f_mo_stair at K0
  unfold f_sc_stair f_mo_stair
  by_cases y0 : x = 0
  · subst y0
    refine K0 (h 40 3) ?_ ?_
    · rw [if_pos rfl]
    · rw [if_pos rfl, s_j3, s_c3, show h 40 3 = h 117 3 from S.1 0 3 3 q_press]
  by_cases y1 : x = 1
  · subst y1
    refine K0 (h 40 4) ?_ ?_
    · rw [if_neg (by decide), if_pos rfl]
    · rw [if_neg (by decide), if_pos rfl, s_j2, s_c2, show h 40 4 = h 117 2 from S.1 0 4 2 q_thr]
  by_cases y2 : x = 2
  · subst y2
    refine K0 (h 40 5) ?_ ?_
    · rw [if_neg (by decide), if_neg (by decide), if_pos rfl]
    · rw [if_neg (by decide), if_neg (by decide), if_pos rfl, s_j4, s_c4, show h 40 5 = h 117 4 from S.1 0 5 4 q_ss]
  by_cases y3 : x = 3
  · subst y3
    obtain ⟨w, w1, w2⟩ := t_openDoors (g := h) V.2.2.2 S
    obtain ⟨c1, c2, c3, c4, c5⟩ := V.2.2.2.1
    refine K0 (nI (p_ar (h 115) (sm_bt (h 40 6)) R)) ?_ ?_
    · rw [if_neg (by decide), if_neg (by decide), if_neg (by decide), if_pos rfl]
      simp only [Nat.reduceAdd, i1, i2, s_true, sm_let, t_areaC V.2.2.2, sm_b2, Option.bind_some]
    · rw [if_neg (by decide), if_neg (by decide), if_neg (by decide), if_pos rfl, w1]
      simp only [sm_b2, Option.bind_some]
      rw [t_areaR V.2.2.2, p_ar_ext (Q := sm_bt (h 40 6)) R (fun d hd => by rw [w2 d (by omega), decide_eq_true hd, Bool.true_and])]
      rfl
  by_cases y4 : x = 4
  · subst y4
    obtain ⟨Q, hQ, q1, q2⟩ := t_stairAir (g := h) V S K
    refine K0 (nI Q) ?_ ?_
    · rw [if_neg (by decide), if_neg (by decide), if_neg (by decide), if_neg (by decide), if_pos rfl]
      simp only [Nat.reduceAdd, q1, sm_b2, Option.bind_some]
    · rw [if_neg (by decide), if_neg (by decide), if_neg (by decide), if_neg (by decide), if_pos rfl]
      simp only [q2, sm_b2, Option.bind_some]
  by_cases y5 : x = 5
  · subst y5
    refine K0 (sm_b2i (sm_bt (h 40 8) 22)) ?_ ?_
    · rw [if_neg (by decide), if_neg (by decide), if_neg (by decide), if_neg (by decide), if_neg (by decide), if_pos rfl, show (22 : Int32) = nI 22 from rfl, e_has _ _ _ (by omega)]
      simp only [sm_b2, Option.bind_some, f_sc_stair_L110, Nat.reduceAdd]
      cases sm_bt (h 40 8) 22 <;> rfl
    · rw [if_neg (by decide), if_neg (by decide), if_neg (by decide), if_neg (by decide), if_neg (by decide), if_pos rfl, s_j6, s_c6, show h (114 + 3) 6 = sm_b2i (sm_bt (h 40 8) 22) from S.2.1 0 8 22 6 w_pt]
  · refine K0 (-2) ?_ ?_
    · rw [if_neg y0, if_neg y1, if_neg y2, if_neg y3, if_neg y4, if_neg y5]
    · rw [if_neg y0, if_neg y1, if_neg y2, if_neg y3, if_neg y4, if_neg y5]
theorem s_commandsBy : sm_S27 p_RR := by
  intro j h x hj hR
  obtain ⟨p, Z, D, F, R, G⟩ := hR
  obtain ⟨⟨c1, c2, c3, c4, c5⟩, ⟨z1, z2⟩, ⟨d1, d2⟩, ⟨f1, f2⟩, r1, r2⟩ := p_RR.parts G
  have a0 : ∀ g, f_mo_in x 0 3 g = some (sm_b2i (decide (0 ≤ x ∧ x ≤ 3)), g) := fun g => e_in x 0 3 g
  by_cases hx : 0 ≤ x ∧ x ≤ 3
  · obtain ⟨h1, h2, h3, a1, a2, a3, a4, a5, a6, CM⟩ := t_dec G
    have hp : p ≤ 24 := by rcases G.1 with e | e <;> omega
    have G2 : p_R0 (j + 6) p Z D F R h2 := G.qry (fun i hi => a4 i (by omega)) (fun i hi => a5 i (by omega))
    obtain ⟨i1, i2⟩ := p_isPp G.1
    have s1 : h1 40 0 = nI p := by rw [a4 40 (by omega)]; exact G.2.1
    have q115 : h2 115 = h 115 := (a5 115 (by omega)).trans (a4 115 (by omega))
    have FF : ∀ n i a, F - i < n → i ≤ F → ∃ r, f_sc_commandsBy_L65 n 0 x 110 a (nI i) h1 = some (r, h1) ∧ f_mo_commandsBy_L56 n 114 x a (nI i) h2 = some (r, h2) := by
      intro n
      induction n with
      | zero => intro i a y; omega
      | succ n ih =>
        intro i a y1 y2
        unfold f_sc_commandsBy_L65 f_mo_commandsBy_L56
        simp only [Nat.reduceAdd, s1, i1, i2, s_true, sm_let, show h1 p 2 = nI F by rw [a4 p (by omega)]; exact f1]
        rw [s_i2, s_c2, show h2 115 2 = nI F by rw [q115]; exact f2]
        by_cases y : i = F
        · rw [if_pos (nI_le (by omega) (by omega)), if_pos (nI_le (by omega) (by omega))]
          exact ⟨a, rfl, rfl⟩
        · have gi : sm_inb (nI (16 + i)) 23 = true := sm_inb_nI (by omega) (by omega)
          have ci : (nI (16 + i)).toNatClampNeg = 16 + i := nI_clamp (by omega)
          have gf : sm_inb (nI i) 6 = true := sm_inb_nI (by omega) (by omega)
          have cf : (nI i).toNatClampNeg = i := nI_clamp (by omega)
          rw [if_neg (nI_ge (by omega) (by omega)), if_neg (nI_ge (by omega) (by omega)), show (16 : Int32) + nI i = nI (16 + i) from nI_add 16 i]
          simp only [gi, ci, gf, cf, s_true, (CM.2 i (by omega)).2, f_sc_commandsBy_L97, f_mo_commandsBy_L83, sm_let, nI_1]
          by_cases w : h2 128 i = x
          · rw [if_pos w, if_pos w]
            exact ih (i + 1) _ (by omega) (by omega)
          · rw [if_neg w, if_neg w, Int32.add_zero]
            exact ih (i + 1) _ (by omega) (by omega)
    have DD : ∀ n i a, D - i < n → i ≤ D → ∃ r, f_sc_commandsBy_L25 n 0 x 110 a (nI i) h1 = some (r, h1) ∧ f_mo_commandsBy_L20 n 114 x a (nI i) h2 = some (r, h2) := by
      intro n
      induction n with
      | zero => intro i a y; omega
      | succ n ih =>
        intro i a y1 y2
        unfold f_sc_commandsBy_L25 f_mo_commandsBy_L20
        simp only [Nat.reduceAdd, s1, i1, i2, s_true, sm_let, show h1 p 1 = nI D by rw [a4 p (by omega)]; exact d1]
        rw [s_i1, s_c1, show h2 115 1 = nI D by rw [q115]; exact d2]
        by_cases y : i = D
        · rw [if_pos (nI_le (by omega) (by omega)), if_pos (nI_le (by omega) (by omega))]
          unfold f_sc_commandsBy_L62 f_mo_commandsBy_L54
          exact FF sm_N 0 a (by unfold sm_N; omega) (by omega)
        · have gi : sm_inb (nI i) 23 = true := sm_inb_nI (by omega) (by omega)
          have gk : sm_inb (nI i) 16 = true := sm_inb_nI (by omega) (by omega)
          have ci : (nI i).toNatClampNeg = i := nI_clamp (by omega)
          rw [if_neg (nI_ge (by omega) (by omega)), if_neg (nI_ge (by omega) (by omega))]
          simp only [gi, ci, gk, s_true, (CM.1 i (by omega)).2, f_sc_commandsBy_L54, f_mo_commandsBy_L47, sm_let, nI_1]
          by_cases w : h2 126 i = x
          · rw [if_pos w, if_pos w]
            exact ih (i + 1) _ (by omega) (by omega)
          · rw [if_neg w, if_neg w, Int32.add_zero]
            exact ih (i + 1) _ (by omega) (by omega)
    obtain ⟨r, u1, u2⟩ := DD sm_N 0 0 (by unfold sm_N; omega) (by omega)
    refine ⟨r, h1, h2, ?_, ?_, p, Z, D, F, R, G2⟩
    · unfold f_sc_commandsBy
      rw [if_neg (Int32.not_lt.mpr hx.1), if_pos hx.2, e_present a1]
      refine w_b2 rfl ?_
      exact u1
    · unfold f_mo_commandsBy
      rw [a0, decide_eq_true hx]
      refine w_b2 rfl ?_
      rw [if_neg (by decide), a2]
      exact u2
  · refine ⟨-2, h, h, ?_, ?_, p, Z, D, F, R, G.mono⟩
    · unfold f_sc_commandsBy f_sc_commandsBy_L9
      by_cases x1 : x < 0
      · rw [if_pos x1]
      · rw [if_neg x1, if_neg (fun z => hx ⟨Int32.not_lt.mp x1, z⟩)]
    · unfold f_mo_commandsBy
      rw [a0, decide_eq_false hx]
      rfl
end p_ask2
