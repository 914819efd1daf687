-- TICK; WHAT ASKS FOR COMMANDS
section p_ask
variable {p Z D F R j : Nat} {h : sm_H}
theorem p_R0.B (G : p_R0 j p Z D F R h) : ∃ t, p_B Z 40 p Z D F R t h (h 117) (h 115) := by
  obtain ⟨t, S, RG⟩ := G.2.2.2.2.1
  exact ⟨t, ⟨G.1, Or.inl rfl, G.2.1, G.2.2.2.1⟩, S, RG.rk⟩
theorem p_R0.V (G : p_R0 j p Z D F R h) : p_V 40 p Z D F R h (h 115) := ⟨G.1, Or.inl rfl, G.2.1, G.2.2.2.1⟩
theorem p_R0.qry (G : p_R0 j p Z D F R h) {h1 h2 : sm_H} (a : ∀ i, i < 108 ∨ 113 < i → h1 i = h i) (b : ∀ i, i < 122 ∨ 131 < i → h2 i = h1 i) : p_R0 (j + 6) p Z D F R h2 := by
  have e : ∀ i, (i < 108 ∨ 113 < i) → (i < 122 ∨ 131 < i) → h2 i = h i := fun i x y => (b i y).trans (a i x)
  refine G.step ⟨fun i hi => e i (by omega) (by omega), fun k hk => by rw [e 114 (by omega) (by omega)]⟩ (by rw [e 40 (by omega) (by omega)]; exact G.2.1) ?_
  rw [e 117 (by omega) (by omega)]
  exact (G.2.2.2.2.1.rows (fun o ho => e _ (by omega) (by omega))).mono
theorem p_R0.fin (G : p_R0 j p Z D F R h) {h1 g' : sm_H} {q' : Nat → Int32} (hf : p_hf 40 h h1) (gf : p_gf h1 g') (V : p_V 40 p Z D F R h1 (h 115)) (SO : p_SO Z D F R 40 h1 q' (h 115) j) : p_R0 (j + 6) p Z D F R (sm_row g' 117 q') := by
  refine G.step ⟨fun i hi => ?_, fun k hk => ?_⟩ ?_ ?_
  · rw [p_row_off (by omega), gf.1 i (by omega) (by omega) (by omega), hf i (by omega) (by omega)]
  · rw [p_row_off (by omega), gf.2 k (by omega), hf 114 (by omega) (by omega)]
  · rw [p_row_off (by omega), gf.1 40 (by omega) (by omega) (by omega)]
    exact V.2.2.1
  · rw [p_row_at]
    refine (SO.rows (fun o ho => ?_)).mono
    rw [p_row_off (by omega), gf.1 _ (by omega) (by omega) (by omega)]
-- ticks on the class and, behind them, on the reference
theorem t_run (G : p_R0 j p Z D F R h) (hj : j ≤ 3072) (k : Nat) (hk : k ≤ 200) : ∃ r h1 g' q', f_en_pass 106 40 (nI k) h = some (nI r, h1) ∧ f_mo_passTicks 114 (nI k) h1 = some (nI r, sm_row g' 117 q') ∧ p_V 40 p Z D F R h1 (h 115) ∧ p_SO Z D F R 40 h1 q' (h 115) j ∧ p_hf 40 h h1 ∧ p_gf h1 g' := by
  obtain ⟨r, h1, q', g', e1, -, -, -, -, -, f1, -⟩ := t_ticks (g := h) G.V hj k hk sm_N 0 h h (h 117) (by unfold sm_N; omega) (by omega) rfl G.V G.2.2.2.2.1
  have r117 : h1 117 = h 117 := f1 117 (by omega) (by omega)
  have r115 : h1 115 = h 115 := f1 115 (by omega) (by omega)
  obtain ⟨r', h1', q'', g'', u1, u2, -, -, u3, u4, u5, u6, -⟩ := t_ticks (g := h) G.V hj k hk sm_N 0 h h1 (h 117) (by unfold sm_N; omega) (by omega) r115 G.V G.2.2.2.2.1
  rw [e1] at u1
  have e := Option.some.inj u1
  have er : nI r = nI r' := congrArg Prod.fst e
  have eh : h1 = h1' := congrArg Prod.snd e
  subst eh
  refine ⟨r, h1, g'', q'', e1, ?_, u3, u4, u5, u6⟩
  rw [er]
  unfold f_mo_passTicks
  rw [← r117, p_row_self] at u2
  exact u2
theorem s_tick : sm_S15 p_RR := by
  intro j h x hj hR
  obtain ⟨p, Z, D, F, R, G⟩ := hR
  have a1 : ∀ g, f_mo_in x 1 200 g = some (sm_b2i (decide (1 ≤ x ∧ x ≤ 200)), g) := fun g => e_in x 1 200 g
  by_cases hx : 1 ≤ x ∧ x ≤ 200
  · obtain ⟨k, hk, rfl⟩ : ∃ k, k ≤ 200 ∧ x = nI k := nI_of2 (M := 200) (n := 200) (by decide) (fun z => by
      have := Int32.lt_of_le_of_lt hx.1 z
      revert this
      decide) hx.2
    obtain ⟨r, h1, g', q', e1, e2, e3, e4, e5, e6⟩ := t_run G hj k hk
    refine ⟨nI r, h1, sm_row g' 117 q', ?_, ?_, p, Z, D, F, R, G.fin e5 e6 e3 e4⟩
    · unfold f_sc_tick
      rw [if_neg (Int32.not_lt.mpr hx.1), if_pos hx.2]
      simp only [Nat.reduceAdd, e1, sm_b2, Option.bind_some]
    · unfold f_mo_tick f_mo_tick_L21
      rw [a1, decide_eq_true hx]
      simp only [sm_b2, Option.bind_some]
      rw [if_neg (by decide), e2]
      rfl
  · refine ⟨-2, h, h, ?_, ?_, p, Z, D, F, R, G.mono⟩
    · unfold f_sc_tick f_sc_tick_L12
      by_cases x1 : x < 1
      · rw [if_pos x1]
      · rw [if_neg x1, if_neg (fun z => hx ⟨Int32.not_lt.mp x1, z⟩)]
    · unfold f_mo_tick f_mo_tick_L21
      rw [a1, decide_eq_false hx]
      rfl
-- the commands of the present state
theorem t_dec (G : p_R0 j p Z D F R h) : ∃ h1 h2 h3, f_co_determine 107 40 h = some h1 ∧ f_mo_decide 114 h1 = some h2 ∧ f_mo_decide 114 h = some h3 ∧ (∀ i, i < 108 ∨ 110 < i → h1 i = h i) ∧ (∀ i, i < 122 ∨ 128 < i → h2 i = h1 i) ∧ (∀ i, i < 122 ∨ 128 < i → h3 i = h i) ∧ p_CM D F h1 h2 := by
  obtain ⟨t, B⟩ := G.B
  obtain ⟨h1, h3, a1, a2, a3, a4, -⟩ := t_decide (g := h) B
  obtain ⟨h1', h2, b1, b2, b3, b4, b5⟩ := t_decide (h := h) (g := h1) (s := 40) (p := p) (Y := Z) (Z := Z) (D := D) (F := F) (R := R) (t := t) (by rw [a3 117 (by omega), a3 115 (by omega)]; exact B)
  rw [a1] at b1
  have e : h1 = h1' := Option.some.inj b1
  subst e
  exact ⟨h1, h2, h3, a1, b2, a2, a3, b4, a4, b5⟩
theorem e_present {h1 : sm_H} (e : f_co_determine 107 40 h = some h1) : f_sc_presentCommands 0 h = some (107, h1) := by
  unfold f_sc_presentCommands
  simp only [Nat.reduceAdd, e, Option.bind_some]
theorem p_cmv {x y : Int32} (e : p_cm x y) : (if x = 1 then (1 : Int32) else 0) = y := by
  rcases e with ⟨a, b⟩ | ⟨a, b⟩ <;> rw [a, b] <;> decide
theorem s_damper : sm_S24 p_RR := by
  intro j h x y hj hR
  obtain ⟨p, Z, D, F, R, G⟩ := hR
  obtain ⟨⟨c1, c2, c3, c4, c5⟩, ⟨z1, z2⟩, ⟨d1, d2⟩, ⟨f1, f2⟩, r1, r2⟩ := p_RR.parts G
  rcases p_idx x D (by omega) with ⟨k, hk, rfl⟩ | hx
  · obtain ⟨h1, h2, h3, a1, a2, a3, a4, a5, a6, CM⟩ := t_dec G
    obtain ⟨t, B⟩ := G.B
    obtain ⟨V, S, K⟩ := B
    obtain ⟨i1, i2⟩ := V.isP
    have hk16 : k < 16 := by omega
    have gi : sm_inb (nI k) 23 = true := sm_inb_nI (by omega) (by omega)
    have gk : sm_inb (nI k) 16 = true := sm_inb_nI (by omega) (by omega)
    have ci : (nI k).toNatClampNeg = k := nI_clamp (by omega)
    have m3 : h3 117 = h 117 := a6 117 (by omega)
    have m5 : h3 115 = h 115 := a6 115 (by omega)
    have G3 : p_R0 (j + 6) p Z D F R h3 := G.qry (fun _ _ => rfl) (fun i hi => a6 i (by omega))
    have G2 : p_R0 (j + 6) p Z D F R h2 := G.qry (fun i hi => a4 i (by omega)) (fun i hi => a5 i (by omega))
    have mo : ∀ g, h 115 1 = g 115 1 → f_mo_isDamper 114 (nI k) g = some (1, g) := fun g e => e_isDamperI (e ▸ d2) (by omega) hk
    have sc := e_lacksDamperI G.1 G.2.1 d1 (by omega) hk
    obtain ⟨kd, zz, r, -, -, -, -, -, -, ez1, ez2, er1, er2, -⟩ := V.2.2.2.2.2.1 k hk
    unfold f_sc_damper f_mo_damper f_sc_unitAnswer
    by_cases y0 : y = 0
    · subst y0
      refine ⟨h 43 k, h, h3, ?_, ?_, p, Z, D, F, R, G3⟩
      · rw [sc]
        simp only [sm_b2, Option.bind_some]
        rw [if_pos trivial, if_neg (by decide), if_neg (by decide), if_pos trivial, gi, s_true, ci]
        rfl
      · rw [mo h rfl]
        simp only [sm_b2, Option.bind_some]
        rw [if_neg (by decide), a3]
        simp only [Option.bind_some]
        rw [if_pos trivial, e_dI0 hk16, m3, show h 43 k = h 117 (42 + 7 * k) from S.1 3 k _ (q_pos hk)]
        rfl
    by_cases y1 : y = 1
    · subst y1
      refine ⟨if h1 109 k = 1 then 1 else 0, h1, h2, ?_, ?_, p, Z, D, F, R, G2⟩
      · rw [sc]
        simp only [sm_b2, Option.bind_some]
        rw [if_pos trivial, if_neg (by decide), if_neg (by decide), if_neg (by decide), if_pos trivial, e_present a1]
        simp only [sm_b2, Option.bind_some, Nat.reduceAdd, decide_true, s_true, gi, ci, f_sc_unitAnswer_L64]
        split <;> rfl
      · rw [mo h1 (by rw [a4 115 (by omega)])]
        simp only [sm_b2, Option.bind_some]
        rw [if_neg (by decide), a2]
        simp only [Option.bind_some]
        rw [if_neg (by decide), if_pos trivial, gk, s_true, ci, p_cmv (CM.1 k hk).1]
    by_cases y2 : y = 2
    · subst y2
      refine ⟨h1 110 k, h1, h2, ?_, ?_, p, Z, D, F, R, G2⟩
      · rw [sc]
        simp only [sm_b2, Option.bind_some]
        rw [if_pos trivial, if_neg (by decide), if_neg (by decide), if_neg (by decide), if_neg (by decide), if_pos trivial, e_present a1]
        simp only [sm_b2, Option.bind_some, Nat.reduceAdd, decide_true, s_true, gi, ci]
      · rw [mo h1 (by rw [a4 115 (by omega)])]
        simp only [sm_b2, Option.bind_some]
        rw [if_neg (by decide), a2]
        simp only [Option.bind_some]
        rw [if_neg (by decide), if_neg (by decide), if_pos trivial, gk, s_true, ci, (CM.1 k hk).2]
    by_cases y3 : y = 3
    · subst y3
      refine ⟨sm_b2i (sm_bt (h 40 8) k), h, h3, ?_, ?_, p, Z, D, F, R, G3⟩
      · rw [sc]
        simp only [sm_b2, Option.bind_some]
        rw [if_pos trivial, if_neg (by decide), if_neg (by decide), if_neg (by decide), if_neg (by decide), if_neg (by decide), if_pos trivial, e_has _ _ _ (by omega)]
        simp only [sm_b2, Option.bind_some, f_sc_unitAnswer_L94]
        cases sm_bt (h 40 8) k <;> rfl
      · rw [mo h rfl]
        simp only [sm_b2, Option.bind_some]
        rw [if_neg (by decide), a3]
        simp only [Option.bind_some]
        rw [if_neg (by decide), if_neg (by decide), if_neg (by decide), if_pos trivial, e_dI6 hk16, m3, show h 117 (48 + 7 * k) = sm_b2i (sm_bt (h 40 8) k) from S.2.1 0 8 k _ (w_tr hk)]
        rfl
    by_cases y4 : y = 4
    · subst y4
      refine ⟨h 47 k, h, h3, ?_, ?_, p, Z, D, F, R, G3⟩
      · rw [sc]
        simp only [sm_b2, Option.bind_some]
        rw [if_pos trivial, if_neg (by decide), if_neg (by decide), if_neg (by decide), if_neg (by decide), if_neg (by decide), if_neg (by decide), if_pos trivial, gi, s_true, ci]
        rfl
      · rw [mo h rfl]
        simp only [sm_b2, Option.bind_some]
        rw [if_neg (by decide), a3]
        simp only [Option.bind_some]
        rw [if_neg (by decide), if_neg (by decide), if_neg (by decide), if_neg (by decide), if_pos trivial, e_dI5 hk16, m3, show h 47 k = h 117 (47 + 7 * k) from S.1 7 k _ (q_tm hk)]
        rfl
    by_cases y5 : y = 5
    · subst y5
      refine ⟨nI zz, h, h3, ?_, ?_, p, Z, D, F, R, G3⟩
      · rw [sc]
        simp only [sm_b2, Option.bind_some]
        rw [if_pos trivial, if_pos trivial]
        simp only [Nat.reduceAdd, i1, i2, s_true, sm_let, gk, ci, ez1]
      · rw [mo h rfl]
        simp only [sm_b2, Option.bind_some]
        rw [if_neg (by decide), a3]
        simp only [Option.bind_some]
        rw [if_neg (by decide), if_neg (by decide), if_neg (by decide), if_neg (by decide), if_neg (by decide), if_pos trivial, e_dO1 hk16, m5, ez2]
        rfl
    by_cases y6 : y = 6
    · subst y6
      refine ⟨nI r, h, h3, ?_, ?_, p, Z, D, F, R, G3⟩
      · rw [sc]
        simp only [sm_b2, Option.bind_some]
        rw [if_pos trivial, if_neg (by decide), if_pos trivial]
        simp only [Nat.reduceAdd, i1, i2, s_true, sm_let, gi, ci, er1]
      · rw [mo h rfl]
        simp only [sm_b2, Option.bind_some]
        rw [if_neg (by decide), a3]
        simp only [Option.bind_some]
        rw [if_neg (by decide), if_neg (by decide), if_neg (by decide), if_neg (by decide), if_neg (by decide), if_neg (by decide), if_pos trivial, e_dO2 hk16, m5, er2]
        rfl
    · refine ⟨-2, h, h3, ?_, ?_, p, Z, D, F, R, G3⟩
      · rw [sc]
        simp only [sm_b2, Option.bind_some]
        rw [if_pos trivial, if_neg y5, if_neg y6, if_neg y0, if_neg y1, if_neg y2, if_neg y3, if_neg y4]
        rfl
      · rw [mo h rfl]
        simp only [sm_b2, Option.bind_some]
        rw [if_neg (by decide), a3]
        simp only [Option.bind_some]
        rw [if_neg y0, if_neg y1, if_neg y2, if_neg y3, if_neg y4, if_neg y5, if_neg y6]
  · refine ⟨-1, h, h, ?_, ?_, p, Z, D, F, R, G.mono⟩
    · unfold f_sc_damper
      rw [e_lacksDamperO G.1 G.2.1 d1 hx]
      rfl
    · unfold f_mo_damper
      rw [e_isDamperO d2 (by omega) hx]
      rfl
end p_ask
