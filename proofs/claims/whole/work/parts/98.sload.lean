-- LOAD: the pair of calls
theorem s_load : sm_S1 p_RR := by
  intro j h x0 hj hR
  obtain ⟨p, Z, D, F, R, G⟩ := hR
  obtain ⟨g1, g2, g3, g4, g5, g6, g7, g8, g9⟩ := id G
  obtain ⟨Bn, f, hB, T1, T2, hf⟩ := g7.fn
  have n1 : ¬ (1 : Int32) = 0 := by decide
  obtain ⟨p', hp'⟩ : ∃ p', p' = 25 - p := ⟨_, rfl⟩
  rw [← hp'] at g3
  have hpp : p' = 1 ∨ p' = 24 := by omega
  rcases p_idx x0 (Bn + 1) (by omega) with ⟨L, hL, rfl⟩ | out
  · have CU : n_CU f L h := fun i hi => ⟨hf i (by omega), T1.2 i (by omega)⟩
    obtain ⟨h0, T, m, a1, B0, G0, TA, f4, f5, fr, fr18, pl⟩ := n_cbeg hpp g3 CU (by omega)
    have cls : ∀ H M, f_sc_load_L31 sm_N 0 0 h0 = f_sc_load_L70 0 (nI M) H → f_sc_load 0 (nI L) h = f_sc_load_L70 0 (nI M) H := by
      intro H M e
      obtain ⟨Rr, hRr⟩ : ∃ Rr, Rr = f_sc_load_L70 0 (nI M) H := ⟨_, rfl⟩
      rw [← hRr] at e ⊢
      unfold f_sc_load
      rw [if_neg (nI_pos (by omega)), show (0 + 17 + 1 : Nat) = 18 from rfl, T1.1, if_pos (nI_le (by omega) (by omega))]
      exact w_bd a1 e
    have h40 : h0 40 0 = nI p := by rw [fr 40 (by omega) (by omega) (by omega) (by omega)]; exact g2
    -- the class comes to its end
    have End : ∃ r H1, f_sc_load 0 (nI L) h = some (r, H1) ∧ H1 114 = h 114 ∧ H1 120 = h 120 := by
      obtain ⟨H, M, c1, c2⟩ := n_run (g := h) (w := h 121) (u := n_u8 (h 114) L) (q := fun k => if k = 0 then 1 else if k = 5 then 50 else if k = 6 then 10 else 0) B0 ⟨by omega, fun i hi => ⟨hf i (by omega), T2.2 i (by omega)⟩⟩ G0 TA f4 f5 pl n_u8_ok.1 rfl rfl rfl (fun k _ k2 k3 k4 => by
        show (if k = 0 then (1 : Int32) else if k = 5 then 50 else if k = 6 then 10 else 0) = 0
        rw [if_neg k2, if_neg k3, if_neg k4])
      rcases c2 with ⟨u', q', w', i', Z', D', F', R', N', K', A', d1, d2, d3, d4, d5⟩ | ⟨u', q', w', d1, c, s, d2, d3⟩
      · obtain ⟨H1, e1, e2, -⟩ := n_clG (M := M) (p2 := p) hpp g1 d4 d5 (by rw [d4.2.2.2.2.2 40 (by omega) (by omega) (by omega)]; exact h40)
        refine ⟨_, H1, (cls H M c1).trans e1, ?_, ?_⟩
        · rw [e2 114 (by omega) (by omega) (by omega) (by omega), d4.2.2.2.2.2 114 (by omega) (by omega) (by omega), fr 114 (by omega) (by omega) (by omega) (by omega)]
        · rw [e2 120 (by omega) (by omega) (by omega) (by omega), d4.2.2.2.2.2 120 (by omega) (by omega) (by omega), fr 120 (by omega) (by omega) (by omega) (by omega)]
      · refine ⟨_, _, (cls H M c1).trans (n_clB d2), ?_, ?_⟩
        · rw [sm_up_ne _ _ _ _ _ (by decide), d2.2.2.2.2.2.1 114 (by omega) (by omega) (by omega) (by omega), fr 114 (by omega) (by omega) (by omega) (by omega)]
        · rw [sm_up_ne _ _ _ _ _ (by decide), d2.2.2.2.2.2.1 120 (by omega) (by omega) (by omega) (by omega), fr 120 (by omega) (by omega) (by omega) (by omega)]
    obtain ⟨r0, H1, E1, E2, E3⟩ := End
    -- the reference from there
    obtain ⟨q0, ⟨b0, b5, b6, bq⟩, ml⟩ := n_mload (h := H1) (L := L) (B := Bn) (by rw [E2]; exact T2.1) (by omega) hB
    obtain ⟨H, M, c1, c2⟩ := n_run (g := H1) (w := H1 121) (u := n_u8 (H1 114) L) (q := q0) B0 ⟨by omega, fun i hi => ⟨hf i (by omega), by rw [E3]; exact T2.2 i (by omega)⟩⟩ G0 TA f4 f5 pl n_u8_ok.1 b0 b5 b6 bq
    obtain ⟨-, o15, o16, o9⟩ := n_u8_ok (u := H1 114) (L := L)
    rcases c2 with ⟨u', q', w', i', Z', D', F', R', N', K', A', d1, d2, d3, d4, d5⟩ | ⟨u', q', w', d1, c, s, d2, d3, d3', d4⟩
    · obtain ⟨H1', e1, e2, e3, e4, e5, e6, e7⟩ := n_clG (M := M) (p2 := p) hpp g1 d4 d5 (by rw [d4.2.2.2.2.2 40 (by omega) (by omega) (by omega)]; exact h40)
      have E4 := ((cls H M c1).trans e1).symm.trans E1
      have E5 := Option.some.inj E4
      have hr : nI M = r0 := congrArg Prod.fst E5
      have hH : H1' = H1 := congrArg Prod.snd E5
      rw [hH] at e2 e3 e4 e5 e6 e7
      have m1 := ml _ _ _ _ d1
      rw [if_neg n1] at m1
      obtain ⟨X, x1, x2, x3, -⟩ := n_cpy sm_N 0 (n_rr H1 (upd u' 9 0) q' w') (by unfold sm_N; omega) (Nat.zero_le _)
      have cD := d5.1.1.2.2.1
      have x116 : ∀ k, k < 1268 → X 115 k = q' k := fun k hk => by rw [x3 k (Nat.zero_le _) hk, n_r116]
      have x114 : X 114 = upd u' 9 0 := by rw [x2 114 (by decide), n_r114]
      obtain ⟨H2, y1, y2, y3, y4, y5⟩ := n_mob (g := X) (D := D') (by rw [x116 1 (by omega)]; exact d5.1.2.1.2.2.2.1) cD
      have off : ∀ r, r ≠ 0 → r ≠ 17 → r ≠ 18 → ¬ (40 ≤ r ∧ r ≤ 49) → r ≠ 114 → r ≠ 115 → r ≠ 116 → r ≠ 117 → r ≠ 121 → H2 r = H r := fun r r0 r1 r2 r3 r4 r5 r6 r7 r8 => by rw [y2 r r7 r4, x2 r r5, n_roff ⟨r4, r6, r8⟩, e2 r r0 r1 r2 (by omega)]
      have lo : ∀ r, r ≤ 49 → H2 r = H1 r := fun r hr => by rw [y2 r (by omega) (by omega), x2 r (by omega), n_roff ⟨by omega, by omega, by omega⟩]
      have gh : ∀ r, r ≠ 17 → r ≠ 18 → ¬ (20 ≤ r ∧ r ≤ 23) → ¬ (p' ≤ r ∧ r ≤ p' + 15) → H r = h r := fun r r1 r2 r3 r4 => by rw [d4.2.2.2.2.2 r r1 r2 r4, fr r r1 r2 r3 r4]
      have r115 : H2 115 = X 115 := y2 115 (by decide) (by decide)
      have PLn := d5.PL (q2 := H2 115) (fun k hk => by rw [r115]; exact x116 k hk)
      have S2 : n_S0 p' D' H H2 := e7.rows rfl rfl (fun r r1 r2 => lo r r2)
      refine ⟨nI M, H1, H2, by rw [hr]; exact E1, ?_, p', Z', D', F', R', hpp, S2.1.1, ?_, PLn.rows (fun o ho => off _ (by omega) (by omega) (by omega) (by omega) (by omega) (by omega) (by omega) (by omega) (by omega)), n_SOn PLn.1 PLn.2.2.1 PLn.2.2.2.1 S2 (by rw [r115]; exact y5) (j + 6), fun k hk => ⟨?_, ?_, fun hb => ?_⟩, ⟨0, Nat.zero_le _, ?_, ?_, fun i hi => absurd hi (Nat.not_lt_zero _)⟩, ?_, ?_⟩
      · rw [m1]
        refine x1.trans ?_
        unfold f_mo_load_L74
        refine w_bd y1 ?_
        rw [y4 23 (by decide) (by decide) (by decide), x114, p_ud_off (by decide), d2]
      · rw [lo 17 (by omega), e3, show 25 - p' = p by omega]
      · rw [off 66 (by omega) (by omega) (by omega) (by omega) (by omega) (by omega) (by omega) (by omega) (by omega), gh 66 (by omega) (by omega) (by omega) (by omega)]
        exact (g6 k hk).1
      · rw [lo 0 (by omega), e6, sm_bt0]
        match k, hk with
        | 0, _ => exact y3.1
        | 1, _ => exact y3.2.1
        | 2, _ => exact y3.2.2
        | k + 3, z => omega
      · rw [lo 0 (by omega), e6, sm_bt0] at hb
        cases hb
      · rw [lo 18 (by omega)]
        exact e5
      · rw [y4 9 (by decide) (by decide) (by decide), x114, p_ud_at]
        rfl
      · rw [lo 17 (by omega), e4 2 (by decide), d4.2.1, y4 15 (by decide) (by decide) (by decide), x114, p_ud_off (by decide), d3 15 (by omega), o15]
      · rw [lo 17 (by omega), e4 3 (by decide), d4.2.2.1, y4 16 (by decide) (by decide) (by decide), x114, p_ud_off (by decide), d3 16 (by omega), o16]
    · have E4 := ((cls H M c1).trans (n_clB d2)).symm.trans E1
      have E5 := Option.some.inj E4
      have hr : -4 = r0 := congrArg Prod.fst E5
      have hH : sm_up H 18 1 0 = H1 := congrArg Prod.snd E5
      have m1 := ml _ _ _ _ d1
      rw [if_pos rfl] at m1
      obtain ⟨-, X1, ⟨X2, X3, X4⟩, X5, X6, X7, -⟩ := d2
      obtain ⟨H2, hH2⟩ : ∃ H2, H2 = n_rr H1 (upd u' 9 0) q' w' := ⟨_, rfl⟩
      have off : ∀ r, r ≠ 17 → r ≠ 18 → ¬ (20 ≤ r ∧ r ≤ 23) → ¬ (p' ≤ r ∧ r ≤ p' + 15) → r ≠ 114 → r ≠ 116 → r ≠ 121 → H2 r = h r := fun r r1 r2 r3 r4 r5 r6 r7 => by rw [hH2, n_roff ⟨r5, r6, r7⟩, ← hH, sm_up_ne _ _ _ _ _ r2, X7 r r1 r2 (by omega) r4, fr r r1 r2 r3 r4]
      have e17 : H2 17 = H 17 := by rw [hH2, n_roff ⟨by decide, by decide, by decide⟩, ← hH, sm_up_ne _ _ _ _ _ (by decide)]
      have e18 : H2 18 1 = 0 := by rw [hH2, n_roff ⟨by decide, by decide, by decide⟩, ← hH, p_up_at]
      have e114 : H2 114 = upd u' 9 0 := by rw [hH2, n_r114]
      have r115 : H2 115 = h 115 := off 115 (by omega) (by omega) (by omega) (by omega) (by omega) (by omega) (by omega)
      have r119 : H2 119 = h 119 := off 119 (by omega) (by omega) (by omega) (by omega) (by omega) (by omega) (by omega)
      have r117 : H2 117 = h 117 := off 117 (by omega) (by omega) (by omega) (by omega) (by omega) (by omega) (by omega)
      rw [← hH2] at m1
      refine ⟨-4, H1, H2, by rw [hr]; exact E1, m1, p, Z, D, F, R, g1, ?_, ?_, ?_, ?_, fun k hk => ?_, ⟨0, Nat.zero_le _, e18, ?_, fun i hi => absurd hi (Nat.not_lt_zero _)⟩, ?_, ?_⟩
      · rw [off 40 (by omega) (by omega) (by omega) (by omega) (by omega) (by omega) (by omega)]
        exact g2
      · rw [e17, X1, hp']
      · rw [r115]
        exact g4.rows (fun o ho => off _ (by omega) (by omega) (by omega) (by omega) (by omega) (by omega) (by omega))
      · rw [r115, r117]
        exact (g5.rows (fun o ho => off _ (by omega) (by omega) (by omega) (by omega) (by omega) (by omega) (by omega))).mono
      · obtain ⟨u1, u2, u3⟩ := g6 k hk
        have e114k : H2 114 (5 + k) = h 114 (5 + k) := by rw [e114, p_ud_off (by omega), d4 (5 + k) (by omega), o9 (5 + k) (by omega), E2]
        rw [off 66 (by omega) (by omega) (by omega) (by omega) (by omega) (by omega) (by omega), e114k, off 0 (by omega) (by omega) (by omega) (by omega) (by omega) (by omega) (by omega), off (67 + 13 * k) (by omega) (by omega) (by omega) (by omega) (by omega) (by omega) (by omega), r119, r115]
        exact ⟨u1, u2, fun hb => ⟨(u3 hb).1, ((u3 hb).2.rows (fun o ho => off _ (by omega) (by omega) (by omega) (by omega) (by omega) (by omega) (by omega))).mono⟩⟩
      · rw [e114, p_ud_at]
        rfl
      · rw [e17, X4, e114, p_ud_off (by decide), d3]
      · rw [e17, X5, e114, p_ud_off (by decide), d3']
  · have ne : ¬ (0 ≤ x0 ∧ x0 ≤ nI Bn) := by
      rintro ⟨y1, y2⟩
      rcases out with y | y
      · exact absurd y (Int32.not_lt.mpr y1)
      · have z1 := Int32.le_iff_toInt_le.mp y
        have z2 := Int32.le_iff_toInt_le.mp y2
        rw [nI_toInt (by omega)] at z1 z2
        omega
    refine ⟨-2, h, h, ?_, ?_, p, Z, D, F, R, G.mono⟩
    · unfold f_sc_load f_sc_load_L18
      by_cases y : x0 < 0
      · rw [if_pos y]
      · rw [if_neg y, show (0 + 17 + 1 : Nat) = 18 from rfl, T1.1, if_neg (fun z => ne ⟨Int32.not_lt.mp y, z⟩)]
    · unfold f_mo_load
      refine w_b2 (v := 0) (g := h) ?_ ?_
      · rw [e_in, T2.1, decide_eq_false ne]
        rfl
      · rw [if_pos rfl]
