-- TRIALS: with the key on and switches set
section p_best
variable {p Z D F R j s : Nat} {h g : sm_H} {q w : Nat → Int32}
theorem p_SO.key (C : p_CT Z D F R) (S : p_SO Z D F R s h q w j) : p_SO Z D F R s (sm_up h s 2 1) (upd q 1 1) w j := by
  obtain ⟨c1, c2, c3, c4, c5⟩ := id C
  obtain ⟨t, S1, a1, ⟨x, x1, x2, x3⟩, a3, a4, a5, a6, a7⟩ := S
  refine ⟨t, S1.cell C (Nat.le_refl _) 1 q_key, ⟨Or.inr p_ud_at, by rw [p_ud_off (by omega)]; exact a1.2⟩, ⟨x, x1, by rw [p_ud_off (by omega)]; exact x2, x3⟩, fun d hd => ?_, fun f hf => ?_, by rw [sm_up_off (by omega)]; exact a5, by rw [sm_up_off (by omega)]; exact a6, by rw [sm_up_off (by omega), p_ud_off (by omega)]; exact a7⟩
  · rw [p_ud_off (by omega), p_ud_off (by omega), p_ud_off (by omega)]
    exact a3 d hd
  · rw [p_ud_off (by omega), p_ud_off (by omega), p_ud_off (by omega)]
    exact a4 f hf
theorem p_SO.swd (C : p_CT Z D F R) (S : p_SO Z D F R s h q w j) {k v : Nat} (hk : k < D) (hv : v ≤ 2) : p_SO Z D F R s (sm_up h (s + 4) k (nI v)) (upd q (44 + 7 * k) (nI v)) w j := by
  obtain ⟨c1, c2, c3, c4, c5⟩ := id C
  obtain ⟨t, S1, a1, ⟨x, x1, x2, x3⟩, a3, a4, a5, a6, a7⟩ := S
  refine ⟨t, S1.cell C (Nat.le_refl _) (nI v) (q_sw hk), ⟨by rw [p_ud_off (by omega)]; exact a1.1, by rw [p_ud_off (by omega)]; exact a1.2⟩, ⟨x, x1, by rw [p_ud_off (by omega)]; exact x2, x3⟩, fun d hd => ?_, fun f hf => ?_, by rw [sm_up_off (by omega)]; exact a5, by rw [sm_up_off (by omega)]; exact a6, by rw [sm_up_off (by omega), p_ud_off (by omega)]; exact a7⟩
  · rw [p_ud_off (k := 44 + 7 * k) (j := 42 + 7 * d) (by omega), p_ud_off (k := 44 + 7 * k) (j := 45 + 7 * d) (by omega)]
    by_cases z : d = k
    · subst z
      rw [p_ud_at]
      exact ⟨(a3 d hd).1, ⟨v, hv, rfl⟩, (a3 d hd).2.2⟩
    · rw [p_ud_off (by omega)]
      exact a3 d hd
  · rw [p_ud_off (by omega), p_ud_off (by omega), p_ud_off (by omega)]
    exact a4 f hf
theorem p_SO.swf (C : p_CT Z D F R) (S : p_SO Z D F R s h q w j) {k v : Nat} (hk : k < F) (hv : v ≤ 2) : p_SO Z D F R s (sm_up h (s + 4) (16 + k) (nI v)) (upd q (156 + 6 * k) (nI v)) w j := by
  obtain ⟨c1, c2, c3, c4, c5⟩ := id C
  obtain ⟨t, S1, a1, ⟨x, x1, x2, x3⟩, a3, a4, a5, a6, a7⟩ := S
  refine ⟨t, S1.cell C (Nat.le_refl _) (nI v) (q_fsw hk), ⟨by rw [p_ud_off (by omega)]; exact a1.1, by rw [p_ud_off (by omega)]; exact a1.2⟩, ⟨x, x1, by rw [p_ud_off (by omega)]; exact x2, x3⟩, fun d hd => ?_, fun f hf => ?_, by rw [sm_up_off (by omega)]; exact a5, by rw [sm_up_off (by omega)]; exact a6, by rw [sm_up_off (by omega), p_ud_off (by omega)]; exact a7⟩
  · rw [p_ud_off (by omega), p_ud_off (by omega), p_ud_off (by omega)]
    exact a3 d hd
  · rw [p_ud_off (k := 156 + 6 * k) (j := 154 + 6 * f) (by omega), p_ud_off (k := 156 + 6 * k) (j := 157 + 6 * f) (by omega)]
    by_cases z : f = k
    · subst z
      rw [p_ud_at]
      exact ⟨(a4 f hf).1, ⟨v, hv, rfl⟩, (a4 f hf).2.2⟩
    · rw [p_ud_off (by omega)]
      exact a4 f hf
-- all switches of a zone
theorem t_open (V : p_V 53 p Z D F R h (g 115)) (SO : p_SO Z D F R 53 h q (g 115) j) {z : Nat} (hz : z < Z) : ∃ h' q', f_sc_switchZoneOn 0 (nI z) h = some h' ∧ f_mo_openAll_L11 sm_N 114 (nI z) 0 (nI 0) (sm_row g 117 q) = some (sm_row g 117 q') ∧ (∀ i, i ≠ 57 → h' i = h i) ∧ p_SO Z D F R 53 h' q' (g 115) j := by
  obtain ⟨⟨c1, c2, c3, c4, c5⟩, ⟨z1, z2⟩, ⟨d1, d2⟩, ⟨f1, f2⟩, -⟩ := V.cnt
  obtain ⟨i1, i2⟩ := V.isP
  have hp : p ≤ 24 := by rcases V.1 with e | e <;> omega
  have C : p_CT Z D F R := V.2.2.2.1
  have r115 : ∀ q', sm_row g 117 q' 115 = g 115 := fun q' => p_row_off (by omega)
  have FF : ∀ (mk : Int32) n i h1 q1, F - i < n → i ≤ F → (∀ i, i ≠ 57 → h1 i = h i) → p_SO Z D F R 53 h1 q1 (g 115) j → ∃ h' q', f_sc_switchZoneOn_L61 n 0 p mk (nI i) h1 = some h' ∧ f_mo_openAll_L52 n 114 mk (nI i) (sm_row g 117 q1) = some (sm_row g 117 q') ∧ (∀ i, i ≠ 57 → h' i = h i) ∧ p_SO Z D F R 53 h' q' (g 115) j := by
    intro mk n
    induction n with
    | zero => intro i h1 q1 y; omega
    | succ n ih =>
      intro i h1 q1 y1 y2 y3 SO1
      unfold f_sc_switchZoneOn_L61 f_mo_openAll_L52
      rw [show h1 p 2 = nI F by rw [y3 p (by omega)]; exact f1, s_i2, s_c2, show sm_row g 117 q1 (114 + 1) 2 = nI F by rw [r115]; exact f2]
      by_cases y : i = F
      · rw [if_pos (nI_le (by omega) (by omega)), if_pos (nI_le (by omega) (by omega))]
        exact ⟨h1, q1, rfl, rfl, y3, SO1⟩
      · have hi : i < F := by omega
        have hi6 : i < 6 := by omega
        have gf : sm_inb (nI i) 6 = true := sm_inb_nI (by omega) (by omega)
        have cf : (nI i).toNatClampNeg = i := nI_clamp (by omega)
        have gi : sm_inb (nI (16 + i)) 23 = true := sm_inb_nI (by omega) (by omega)
        have ci : (nI (16 + i)).toNatClampNeg = 16 + i := nI_clamp (by omega)
        obtain ⟨_, _, _, -, -, -, -, -, -, -, -, -, -, -, el, -⟩ := V.2.2.2.2.2.2.1 i hi
        rw [if_neg (nI_ge (by omega) (by omega)), if_neg (nI_ge (by omega) (by omega)), e_fO3 hi6, r115, show (16 : Int32) + nI i = nI (16 + i) from nI_add 16 i]
        simp only [sm_b2, Option.bind_some, gf, cf, gi, ci, s_true, show h1 (p + 5) i = g 115 (77 + 4 * i) by rw [y3 _ (by omega)]; exact el, f_sc_switchZoneOn_L96, f_mo_openAll_L80, sm_let, nI_1, Nat.reduceAdd]
        by_cases x : g 115 (77 + 4 * i) &&& mk = 0
        · rw [if_pos x, if_pos x]
          exact ih (i + 1) h1 q1 (by omega) (by omega) y3 SO1
        · rw [if_neg x, if_neg x, e_pF2 hi6]
          simp only [Option.bind_some]
          exact ih (i + 1) _ _ (by omega) (by omega) (fun k hk => (sm_up_ne _ _ _ _ _ hk).trans (y3 k hk)) (SO1.swf (s := 53) C hi (v := 1) (by omega))
  have DD : ∀ n i (mk : Int32) h1 q1, D - i < n → i ≤ D → (∀ i, i ≠ 57 → h1 i = h i) → p_SO Z D F R 53 h1 q1 (g 115) j → ∃ h' q', f_sc_switchZoneOn_L13 n 0 (nI z) p mk (nI i) h1 = some h' ∧ f_mo_openAll_L11 n 114 (nI z) mk (nI i) (sm_row g 117 q1) = some (sm_row g 117 q') ∧ (∀ i, i ≠ 57 → h' i = h i) ∧ p_SO Z D F R 53 h' q' (g 115) j := by
    intro n
    induction n with
    | zero => intro i mk h1 q1 y; omega
    | succ n ih =>
      intro i mk h1 q1 y1 y2 y3 SO1
      unfold f_sc_switchZoneOn_L13 f_mo_openAll_L11
      rw [show h1 p 1 = nI D by rw [y3 p (by omega)]; exact d1, s_i1, s_c1, show sm_row g 117 q1 (114 + 1) 1 = nI D by rw [r115]; exact d2]
      by_cases y : i = D
      · rw [if_pos (nI_le (by omega) (by omega)), if_pos (nI_le (by omega) (by omega))]
        exact FF mk sm_N 0 h1 q1 (by unfold sm_N; omega) (by omega) y3 SO1
      · have hi : i < D := by omega
        have hi16 : i < 16 := by omega
        have gk : sm_inb (nI i) 16 = true := sm_inb_nI (by omega) (by omega)
        have gi : sm_inb (nI i) 23 = true := sm_inb_nI (by omega) (by omega)
        have ci : (nI i).toNatClampNeg = i := nI_clamp (by omega)
        obtain ⟨_, zz, _, -, hzz, -, -, -, -, e1, e2, -⟩ := V.2.2.2.2.2.1 i hi
        rw [if_neg (nI_ge (by omega) (by omega)), if_neg (nI_ge (by omega) (by omega)), e_dO1 hi16, r115, e2]
        simp only [sm_b2, Option.bind_some, gk, gi, ci, s_true, show h1 (p + 3) i = nI zz by rw [y3 _ (by omega)]; exact e1, f_sc_switchZoneOn_L52, f_mo_openAll_L44, sm_let, nI_1, Nat.reduceAdd]
        by_cases x : nI zz = nI z
        · rw [if_pos x, if_pos x, e_with, e_pD2 hi16]
          simp only [Option.bind_some]
          exact ih (i + 1) _ _ _ (by omega) (by omega) (fun k hk => (sm_up_ne _ _ _ _ _ hk).trans (y3 k hk)) (SO1.swd (s := 53) C hi (v := 1) (by omega))
        · rw [if_neg x, if_neg x]
          exact ih (i + 1) mk h1 q1 (by omega) (by omega) y3 SO1
  obtain ⟨h', q', e1, e2⟩ := DD sm_N 0 0 h q (by unfold sm_N; omega) (by omega) (fun _ _ => rfl) SO
  refine ⟨h', q', ?_, e2⟩
  unfold f_sc_switchZoneOn
  rw [Nat.zero_add, i1, s_true, i2]
  exact e1
theorem s_purgeTime : sm_S35 p_RR := by
  intro j h x hj hR
  obtain ⟨p, Z, D, F, R, G⟩ := hR
  obtain ⟨⟨c1, c2, c3, c4, c5⟩, ⟨z1, z2⟩, -⟩ := p_RR.parts G
  refine p_tri G (fun g T => ?_)
  have zz : g 115 0 = nI Z := T.1.2.2.2.2.1.2.1
  unfold f_sc_purgeTime f_mo_purgeTime
  rcases p_idx x Z (by omega) with ⟨z, hz, rfl⟩ | hx
  · have C : p_CT Z D F R := T.1.2.2.2.1
    obtain ⟨h0, e1, e2, V1, SO1⟩ := t_copy T
    obtain ⟨G0, hG0⟩ : ∃ G0, G0 = sm_row g 118 (fun m => if m < 350 then g 117 m else g 118 m) := ⟨_, rfl⟩
    have g115 : G0 115 = g 115 := by rw [hG0, p_row_off (by omega)]
    have g117 : G0 117 = g 117 := by rw [hG0, p_row_off (by omega)]
    rw [← g115] at V1 SO1
    have V2 : p_V 53 p Z D F R (sm_up h0 53 2 1) (G0 115) := V1.rows (fun i hi => sm_up_ne _ _ _ _ _ (by omega)) (sm_up_off (by omega))
    obtain ⟨h3, q3, o1, o2, o3, SO3⟩ := t_open (g := G0) V2 (SO1.key C) hz
    have V3 : p_V 53 p Z D F R h3 (G0 115) := V2.rows (fun i hi => o3 i (by omega)) (by rw [o3 53 (by omega)])
    obtain ⟨r, h4, G1, q4, u1, u2, u3, u4⟩ := t_purge hj hz (by omega) sm_N 0 h3 G0 q3 (by unfold sm_N; omega) (by omega) V3 SO3
    refine ⟨r, h4, _, ?_, ?_, fun i x y => ?_, p_rf.back (q' := q4) hG0 u4⟩
    · rw [e_lacksZoneI G.1 G.2.1 z1 (by omega) hz]
      refine w_b2 rfl ?_
      rw [if_pos rfl, Nat.zero_add, Nat.zero_add, e1]
      refine w_bd rfl ?_
      refine w_lt ?_
      refine w_bd o1 ?_
      exact u1
    · rw [e_isZoneI zz (by omega) hz]
      refine w_b2 rfl ?_
      rw [if_neg (by decide), e_aside, ← hG0]
      refine w_bd rfl ?_
      refine w_bd (v := sm_row G0 117 q3) ?_ ?_
      · unfold f_mo_openAll
        rw [s_j1]
        refine w_lt ?_
        rw [s_c1, show (114 + 3 : Nat) = 117 from rfl, show sm_up G0 117 1 1 = sm_row G0 117 (upd (g 117) 1 1) by rw [← p_row_up, ← g117, p_row_self]]
        exact o2
      · refine w_b2 (show f_mo_ticksUntil 114 (nI z) (nI z) 100 (sm_row G0 117 q3) = _ from u2) ?_
        exact w_bd (e_back q4) rfl
    · rw [u3 i x y, o3 i (by omega), sm_up_ne _ _ _ _ _ (by omega), e2 i x y]
  · rw [e_lacksZoneO G.1 G.2.1 z1 hx, e_isZoneO zz (by omega) hx]
    exact ⟨-1, h, g, rfl, rfl, p_cf.refl h, p_rf.refl g⟩
-- one trial with a switch
theorem t_withE (hj : j ≤ 3072) {n : Nat} (hn : n ≤ 200) (V : p_V 53 p Z D F R h (g 115)) (SO : p_SO Z D F R 53 h q (g 115) j) : ∃ (v : Int32) (h' g' : sm_H) (q' : Nat → Int32), f_sc_smokeWithSwitch_L33 0 (nI n) h = some (v, h') ∧ f_mo_smokeWith_L53 114 (nI n) (sm_row g 117 q) = some (v, sm_row g' 117 (fun m => if m < 350 then g' 118 m else q' m)) ∧ p_hf 53 h h' ∧ p_gf g g' := by
  obtain ⟨r, h', q', g', a1, a2, a3, a4, a5, a6, a7, a8⟩ := t_tt V SO hj n hn
  obtain ⟨t, S, -⟩ := a5
  obtain ⟨v, v1, v2⟩ := t_sum (h1 := h') (g1 := sm_row g' 117 q') (s := 53) (p := p) (Z := Z) (D := D) (F := F) (R := R) (t := t) (by rw [p_row_off (by omega)]; exact a4) (by rw [p_row_at]; exact S)
  refine ⟨v, h', g', q', ?_, ?_, a6, a7⟩
  · unfold f_sc_smokeWithSwitch_L33
    rw [Nat.zero_add, Nat.zero_add, a1]
    refine w_b2 rfl ?_
    rw [v1]
    rfl
  · unfold f_mo_smokeWith_L53
    rw [a2]
    refine w_b2 rfl ?_
    rw [v2]
    refine w_b2 rfl ?_
    exact w_bd (e_back q') rfl
theorem t_with (hj : j ≤ 3072) (T : p_TB p Z D F R j h g) {n : Nat} (hn : n ≤ 200) {u v : Nat} {th pos : Int32} (hc : (u = 0 ∧ v = 0 ∧ th = -1) ∨ (u < D ∧ 1 ≤ v ∧ v ≤ 2 ∧ th = nI u) ∨ (∃ f, f < F ∧ u = 16 + f ∧ 1 ≤ v ∧ v ≤ 2 ∧ th = nI (D + f))) : ∃ r h' g', f_sc_smokeWithSwitch 0 (nI u) (nI v) (nI n) h = some (r, h') ∧ f_mo_smokeWith 114 th (nI v) (nI n) g = some (r, g') ∧ p_cf h h' ∧ p_rf g g' := by
  have C : p_CT Z D F R := T.1.2.2.2.1
  obtain ⟨c1, c2, c3, c4, c5⟩ := id C
  obtain ⟨h0, e1, e2, V1, SO1⟩ := t_copy T
  obtain ⟨G0, hG0⟩ : ∃ G0, G0 = sm_row g 118 (fun m => if m < 350 then g 117 m else g 118 m) := ⟨_, rfl⟩
  have g115 : G0 115 = g 115 := by rw [hG0, p_row_off (by omega)]
  have g117 : G0 117 = g 117 := by rw [hG0, p_row_off (by omega)]
  have d2 : G0 115 1 = nI D := by rw [g115]; exact T.1.2.2.2.2.1.2.2.2.1
  rw [← g115] at V1 SO1
  have V2 : p_V 53 p Z D F R (sm_up h0 53 2 1) (G0 115) := V1.rows (fun i hi => sm_up_ne _ _ _ _ _ (by omega)) (sm_up_off (by omega))
  have SO2 := SO1.key C
  have rowk : sm_up G0 117 1 1 = sm_row G0 117 (upd (g 117) 1 1) := by rw [← p_row_up, ← g117, p_row_self]
  have r115 : ∀ q', sm_row G0 117 q' 115 = G0 115 := fun q' => p_row_off (by omega)
  -- both starts
  have cls : ∀ h1 r, (if nI v = 0 then f_sc_smokeWithSwitch_L33 0 (nI n) (sm_up h0 53 2 1) else sm_gd (sm_inb (nI u) 23) <| f_sc_smokeWithSwitch_L33 0 (nI n) (sm_up (sm_up h0 53 2 1) 57 (nI u).toNatClampNeg (nI v))) = some (r, h1) → f_sc_smokeWithSwitch 0 (nI u) (nI v) (nI n) h = some (r, h1) := by
    intro h1 r e
    unfold f_sc_smokeWithSwitch
    rw [Nat.zero_add, Nat.zero_add, e1]
    refine w_bd rfl ?_
    refine w_lt ?_
    exact e
  have ref : ∀ X, (if th < 0 then f_mo_smokeWith_L35 114 th (nI v) (nI n) (sm_row G0 117 (upd (g 117) 1 1)) else (if nI D ≤ th then f_mo_smokeWith_L35 114 th (nI v) (nI n) (sm_row G0 117 (upd (g 117) 1 1)) else Option.bind (f_mo_put 114 th 2 (nI v) (sm_row G0 117 (upd (g 117) 1 1))) fun g9 => f_mo_smokeWith_L53 114 (nI n) g9)) = X → f_mo_smokeWith 114 th (nI v) (nI n) g = X := by
    intro X e
    unfold f_mo_smokeWith
    rw [e_aside, ← hG0]
    refine w_bd rfl ?_
    rw [s_j1]
    refine w_lt ?_
    rw [s_i1, s_c1, show (114 + 3 : Nat) = 117 from rfl, rowk, show sm_row G0 117 (upd (g 117) 1 1) (114 + 1) 1 = nI D by rw [r115]; exact d2]
    exact e
  have fr : ∀ h3 : sm_H, (∀ i, i ≠ 57 → h3 i = sm_up h0 53 2 1 i) → ∀ h4, p_hf 53 h3 h4 → p_cf h h4 := fun h3 a h4 b i x y => by
    rw [b i x y, a i (by omega), sm_up_ne _ _ _ _ _ (by omega), e2 i x y]
  rcases hc with ⟨rfl, rfl, rfl⟩ | ⟨hu, v1, v2, rfl⟩ | ⟨f, hf, rfl, v1, v2, rfl⟩
  · obtain ⟨r, h4, G1, q4, a1, a2, a3, a4⟩ := t_withE hj hn V2 SO2
    refine ⟨r, h4, _, cls h4 r (by rw [if_pos (show nI 0 = (0 : Int32) from rfl)]; exact a1), ref _ ?_, fr _ (fun _ _ => rfl) h4 a3, p_rf.back (q' := q4) hG0 a4⟩
    rw [if_pos (by decide)]
    unfold f_mo_smokeWith_L35
    rw [if_pos (by decide)]
    exact a2
  · have hu16 : u < 16 := by omega
    have gi : sm_inb (nI u) 23 = true := sm_inb_nI (by omega) (by omega)
    have ci : (nI u).toNatClampNeg = u := nI_clamp (by omega)
    obtain ⟨r, h4, G1, q4, a1, a2, a3, a4⟩ := t_withE hj hn (h := sm_up (sm_up h0 53 2 1) 57 u (nI v)) (g := G0) (V2.rows (fun i hi => sm_up_ne _ _ _ _ _ (by omega)) (sm_up_off (by omega))) (SO2.swd (s := 53) C hu v2)
    refine ⟨r, h4, _, cls h4 r (by rw [if_neg (nI_ne0 (by omega) (by omega)), gi, s_true, ci]; exact a1), ref _ ?_, fr _ (fun i hi => sm_up_ne _ _ _ _ _ hi) h4 a3, p_rf.back (q' := q4) hG0 a4⟩
    rw [if_neg (nI_pos (by omega)), if_neg (nI_ge hu (by omega)), e_pD2 hu16]
    exact a2
  · have hf6 : f < 6 := by omega
    have gi : sm_inb (nI (16 + f)) 23 = true := sm_inb_nI (by omega) (by omega)
    have ci : (nI (16 + f)).toNatClampNeg = 16 + f := nI_clamp (by omega)
    obtain ⟨r, h4, G1, q4, a1, a2, a3, a4⟩ := t_withE hj hn (h := sm_up (sm_up h0 53 2 1) 57 (16 + f) (nI v)) (g := G0) (V2.rows (fun i hi => sm_up_ne _ _ _ _ _ (by omega)) (sm_up_off (by omega))) (SO2.swf (s := 53) C hf v2)
    refine ⟨r, h4, _, cls h4 r (by rw [if_neg (nI_ne0 (by omega) (by omega)), gi, s_true, ci]; exact a1), ref _ ?_, fr _ (fun i hi => sm_up_ne _ _ _ _ _ hi) h4 a3, p_rf.back (q' := q4) hG0 a4⟩
    rw [if_neg (nI_pos (by omega)), if_pos (nI_le (by omega) (by omega))]
    unfold f_mo_smokeWith_L35
    rw [if_neg (nI_pos (by omega)), s_i1, s_c1, show sm_row G0 117 (upd (g 117) 1 1) (114 + 1) 1 = nI D by rw [r115]; exact d2, show nI (D + f) - nI D = nI f by rw [nI_sub (by omega)]; congr 1; omega, e_pF2 hf6]
    exact a2
theorem t_bestL (hj : j ≤ 3072) {n : Nat} (hn : n ≤ 200) : ∀ m i (b l : Int32) hc gr, D + F - i < m → i ≤ D + F → p_TB p Z D F R j hc gr → ∃ r hc' gr', f_sc_bestSwitch_L39 m 0 (nI n) b l (nI D) (nI i) hc = some (r, hc') ∧ f_mo_bestSwitch_L26 m 114 (nI n) b l (nI i) gr = some (r, gr') ∧ p_cf hc hc' ∧ p_rf gr gr' := by
  intro m
  induction m with
  | zero => intro i b l hc gr y; omega
  | succ m ih =>
    intro i b l hc gr y1 y2 T
    obtain ⟨V, SO⟩ := id T
    obtain ⟨⟨c1, c2, c3, c4, c5⟩, -, ⟨d1, d2⟩, ⟨f1, f2⟩, -⟩ := V.cnt
    obtain ⟨i1, i2⟩ := V.isP
    unfold f_sc_bestSwitch_L39 f_mo_bestSwitch_L26
    rw [Nat.zero_add, i1, s_true, i2, s_i1, s_i2, s_c1, s_c2, show gr (114 + 1) 1 = nI D from d2, show gr (114 + 1) 2 = nI F from f2]
    simp only [sm_let, f1, nI_add]
    by_cases y : i = D + F
    · rw [if_pos (nI_le (by omega) (by omega)), if_pos (nI_le (by omega) (by omega))]
      exact ⟨b, hc, gr, rfl, rfl, p_cf.refl hc, p_rf.refl gr⟩
    · have hlt : D + F - (i + 1) < m ∧ i + 1 ≤ D + F := by omega
      rw [if_neg (nI_ge (a := i) (b := D + F) (by omega) (by omega)), if_neg (nI_ge (a := i) (b := D + F) (by omega) (by omega))]
      -- the unit
      obtain ⟨u, hu⟩ : ∃ u, (u < D ∧ nI i = nI u ∧ i < D ∧ u = i) ∨ (∃ f, f < F ∧ u = 16 + f ∧ i = D + f) := by
        by_cases x : i < D
        · exact ⟨i, Or.inl ⟨x, rfl, x, rfl⟩⟩
        · exact ⟨16 + (i - D), Or.inr ⟨i - D, by omega, rfl, by omega⟩⟩
      have inner : ∀ mm v (b l : Int32) hc gr, 3 - v < mm → 1 ≤ v → v ≤ 3 → p_TB p Z D F R j hc gr → ∃ r hc' gr', f_sc_bestSwitch_L82 (f_sc_bestSwitch_L39 m) mm 0 (nI n) b l (nI D) (nI i) (nI u) (nI v) hc = some (r, hc') ∧ f_mo_bestSwitch_L47 (f_mo_bestSwitch_L26 m) mm 114 (nI n) b l (nI i) (nI v) gr = some (r, gr') ∧ p_cf hc hc' ∧ p_rf gr gr' := by
        intro mm
        induction mm with
        | zero => intro v b l hc gr y; omega
        | succ mm ihm =>
          intro v b l hc gr w1 w2 w3 T1
          unfold f_sc_bestSwitch_L82 f_mo_bestSwitch_L47
          by_cases w : v = 3
          · rw [if_pos (show (2 : Int32) < nI v from nI_lt (a := 2) (by omega) (by omega)), if_pos (show (2 : Int32) < nI v from nI_lt (a := 2) (by omega) (by omega))]
            unfold f_sc_bestSwitch_L125 f_mo_bestSwitch_L90
            simp only [sm_let, nI_1]
            exact ih (i + 1) b l hc gr hlt.1 hlt.2 T1
          · rw [if_neg (show ¬ (2 : Int32) < nI v from nI_nlt (a := 2) (by omega) (by omega)), if_neg (show ¬ (2 : Int32) < nI v from nI_nlt (a := 2) (by omega) (by omega))]
            obtain ⟨r, h2, g2, a1, a2, a3, a4⟩ := t_with (pos := 0) hj T1 hn (u := u) (v := v) (th := nI i) (by
              rcases hu with ⟨x1, x2, x3, x4⟩ | ⟨f, x1, x2, x3⟩
              · exact Or.inr (Or.inl ⟨x1, w2, by omega, x2⟩)
              · exact Or.inr (Or.inr ⟨f, x1, x2, w2, by omega, by rw [x3]⟩))
            rw [a1, a2]
            simp only [sm_b2, Option.bind_some, f_sc_bestSwitch_L119, f_mo_bestSwitch_L84, sm_let, nI_1]
            have T2 := T1.fr a3 a4
            by_cases x : l ≤ r
            · rw [if_pos x, if_pos x]
              obtain ⟨r', h3, g3, b1, b2, b3, b4⟩ := ihm (v + 1) b l h2 g2 (by omega) (by omega) (by omega) T2
              exact ⟨r', h3, g3, b1, b2, a3.trans b3, a4.trans b4⟩
            · rw [if_neg x, if_neg x]
              obtain ⟨r', h3, g3, b1, b2, b3, b4⟩ := ihm (v + 1) _ r h2 g2 (by omega) (by omega) (by omega) T2
              exact ⟨r', h3, g3, b1, b2, a3.trans b3, a4.trans b4⟩
      have st := inner sm_N 1 b l hc gr (by unfold sm_N; omega) (by omega) (by omega) T
      unfold f_sc_bestSwitch_L77
      rcases hu with ⟨x1, x2, x3, x4⟩ | ⟨f, x1, x2, x3⟩
      · rw [if_neg (nI_ge x3 (by omega)), x2]
        rw [x2] at st
        exact st
      · rw [if_pos (nI_le (by omega) (by omega)), show (16 : Int32) + nI i - nI D = nI u by rw [show (16 : Int32) + nI i = nI (16 + i) from nI_add 16 i, nI_sub (by omega), x2, x3]; congr 1; omega]
        exact st
theorem s_bestSwitch : sm_S34 p_RR := by
  intro j h y hj hR
  obtain ⟨p, Z, D, F, R, G⟩ := hR
  have a0 : ∀ g, f_mo_in y 1 60 g = some (sm_b2i (decide (1 ≤ y ∧ y ≤ 60)), g) := fun g => e_in y 1 60 g
  refine p_tri G (fun g T => ?_)
  unfold f_sc_bestSwitch f_mo_bestSwitch f_sc_bestSwitch_L11
  rw [a0]
  by_cases hy : 1 ≤ y ∧ y ≤ 60
  · obtain ⟨n, hn, rfl⟩ : ∃ k, k ≤ 60 ∧ y = nI k := nI_of2 (M := 60) (n := 60) (by decide) (fun z => by
      have := Int32.lt_of_le_of_lt hy.1 z
      revert this
      decide) hy.2
    obtain ⟨r, h2, g2, a1, a2, a3, a4⟩ := t_with (pos := 0) hj T (n := n) (by omega) (u := 0) (v := 0) (th := -1) (Or.inl ⟨rfl, rfl, rfl⟩)
    have T2 := T.fr a3 a4
    obtain ⟨i1, i2⟩ := T2.1.isP
    have d1 : h2 p 1 = nI D := T2.1.2.2.2.2.1.2.2.1
    obtain ⟨v, h3, g3, b1, b2, b3, b4⟩ := t_bestL hj (n := n) (by omega) sm_N 0 0 r h2 g2 (by
      have := T.1.2.2.2.1
      obtain ⟨c1, c2, c3, c4, c5⟩ := this
      unfold sm_N
      omega) (by omega) T2
    refine ⟨v, h3, g3, ?_, ?_, a3.trans b3, a4.trans b4⟩
    · rw [if_neg (Int32.not_lt.mpr hy.1), if_pos hy.2]
      refine w_b2 (show f_sc_smokeWithSwitch 0 0 0 (nI n) h = _ from a1) ?_
      rw [Nat.zero_add, i1, s_true, i2]
      refine w_lt ?_
      refine w_lt ?_
      rw [d1]
      exact b1
    · rw [decide_eq_true hy]
      refine w_b2 rfl ?_
      rw [if_neg (by decide)]
      refine w_b2 (show f_mo_smokeWith 114 (-1) 0 (nI n) g = _ from a2) ?_
      exact b2
  · refine ⟨-2, h, g, ?_, ?_, p_cf.refl h, p_rf.refl g⟩
    · by_cases x1 : y < 1
      · rw [if_pos x1]
      · rw [if_neg x1, if_neg (fun z => hy ⟨Int32.not_lt.mp x1, z⟩)]
    · rw [decide_eq_false hy]
      rfl
end p_best
