-- A TICK, and ticks
section p_pass
variable {s p Z D F R t : Nat} {h g : sm_H} {q : Nat → Int32}
theorem t_dampers (B : p_B Z s p Z D F R t h q (g 115)) (ht : t + 64 < 2 ^ 30) (cm : ∀ d, d < D → p_cm (h 109 d) (g 125 d)) : ∃ h' q' t', f_en_moveDampers 106 s h = some h' ∧ f_mo_pass_L20 sm_N 114 (nI 0) (sm_row g 117 q) = f_mo_pass_L41 114 (sm_row g 117 q') ∧ t' ≤ t + D ∧ p_B Z s p Z D F R t' h' q' (g 115) ∧ p_fh s h h' ∧ q' 0 = q 0 := by
  obtain ⟨V, S, K⟩ := id B
  obtain ⟨i1, i2⟩ := V.isP
  have hs := V.2.1
  obtain ⟨c1, c2, c3, c4, c5⟩ := V.2.2.2.1
  have d1 : h p 1 = nI D := V.2.2.2.2.1.2.2.1
  have d2 : g 115 1 = nI D := V.2.2.2.2.1.2.2.2.1
  have L : ∀ n i h1 q1 t1, D - i < n → i ≤ D → p_B Z s p Z D F R t1 h1 q1 (g 115) → t1 ≤ t + i → p_fh s h h1 → q1 0 = q 0 → ∃ h' q' t', f_en_moveDampers_L7 n 106 s p (nI i) h1 = some h' ∧ f_mo_pass_L20 n 114 (nI i) (sm_row g 117 q1) = f_mo_pass_L41 114 (sm_row g 117 q') ∧ t' ≤ t + D ∧ p_B Z s p Z D F R t' h' q' (g 115) ∧ p_fh s h h' ∧ q' 0 = q 0 := by
    intro n
    induction n with
    | zero => intro i h1 q1 t1 y; omega
    | succ n ih =>
      intro i h1 q1 t1 y1 y2 B1 t2 f1 q0
      unfold f_mo_pass_L20
      rw [s_i1, s_c1, show sm_row g 117 q1 (114 + 1) 1 = nI D by rw [p_row_off (by omega)]; exact d2]
      by_cases y : i = D
      · refine ⟨h1, q1, t1, ?_, if_pos (nI_le (by omega) (by omega)), by omega, B1, f1, q0⟩
        show (if h1 p 1 ≤ nI i then some h1 else _) = _
        rw [B1.1.2.2.2.2.1.2.2.1, if_pos (nI_le (by omega) (by omega))]
      · obtain ⟨h2, q2, t3, e1, e2, e3, e4, e5, e6⟩ := t_damper (Nat.le_refl _) B1 (by omega) (d := i) (by omega) (by rw [f1 109 (by omega)]; exact cm i (by omega)) n
        rw [e1, if_neg (nI_ge (by omega) (by omega)), e2]
        simp only [Option.bind_some, sm_let, nI_1]
        exact ih (i + 1) h2 q2 t3 (by omega) (by omega) e4 (by omega) (f1.trans e5) (e6.trans q0)
  obtain ⟨h', q', t', e1, e2⟩ := L sm_N 0 h q t (by unfold sm_N; omega) (by omega) B (by omega) (fun _ _ => rfl) rfl
  refine ⟨h', q', t', ?_, e2⟩
  unfold f_en_moveDampers
  rw [i1, s_true, i2]
  exact e1
theorem t_fans (B : p_B Z s p Z D F R t h q (g 115)) (ht : t + 16 < 2 ^ 30) (cm : ∀ f, f < F → p_cm (h 109 (16 + f)) (g 127 f)) : ∃ h' q' t', f_en_runFans 106 s h = some h' ∧ f_mo_pass_L43 sm_N 114 (nI 0) (sm_row g 117 q) = f_mo_pass_L64 114 (sm_row g 117 q') ∧ t' ≤ t + 2 * F ∧ p_B Z s p Z D F R t' h' q' (g 115) ∧ p_fh s h h' ∧ q' 0 = q 0 := by
  obtain ⟨V, S, K⟩ := id B
  obtain ⟨i1, i2⟩ := V.isP
  have hs := V.2.1
  obtain ⟨c1, c2, c3, c4, c5⟩ := V.2.2.2.1
  have d1 : h p 1 = nI D := V.2.2.2.2.1.2.2.1
  have f2 : g 115 2 = nI F := V.2.2.2.2.1.2.2.2.2.2.1
  obtain ⟨m, m1, m2⟩ := t_proven (h := h) (s := s) V.1 V.2.2.1 c3 d1
  have m3 : ∀ j, j < 32 → sm_bt m j = (decide (j < D) && decide (q (42 + 7 * j) = g 115 (12 + 4 * j))) := by
    intro d hd
    rw [m2 d hd]
    by_cases y : d < D
    · rw [decide_eq_true y, Bool.true_and, Bool.true_and]
      obtain ⟨_, _, r, -, -, -, -, -, -, -, -, er1, er2, -⟩ := V.2.2.2.2.2.1 d y
      rw [show h (s + 3) d = q (42 + 7 * d) from S.1 3 d _ (q_pos y), er1, er2]
    · rw [decide_eq_false y]
      rfl
  have L : ∀ n i h1 q1 t1, F - i < n → i ≤ F → p_B Z s p Z D F R t1 h1 q1 (g 115) → t1 ≤ t + 2 * i → p_fh s h h1 → q1 0 = q 0 → (∀ d, d < D → q1 (42 + 7 * d) = q (42 + 7 * d)) → ∃ h' q' t', f_en_runFans_L13 n 106 s p m (nI i) h1 = some h' ∧ f_mo_pass_L43 n 114 (nI i) (sm_row g 117 q1) = f_mo_pass_L64 114 (sm_row g 117 q') ∧ t' ≤ t + 2 * F ∧ p_B Z s p Z D F R t' h' q' (g 115) ∧ p_fh s h h' ∧ q' 0 = q 0 := by
    intro n
    induction n with
    | zero => intro i h1 q1 t1 y; omega
    | succ n ih =>
      intro i h1 q1 t1 y1 y2 B1 t2 f1 q0 qd
      unfold f_mo_pass_L43
      rw [s_i2, s_c2, show sm_row g 117 q1 (114 + 1) 2 = nI F by rw [p_row_off (by omega)]; exact f2]
      by_cases y : i = F
      · refine ⟨h1, q1, t1, ?_, if_pos (nI_le (by omega) (by omega)), by omega, B1, f1, q0⟩
        show (if h1 p 2 ≤ nI i then some h1 else _) = _
        rw [B1.1.2.2.2.2.1.2.2.2.2.1, if_pos (nI_le (by omega) (by omega))]
      · obtain ⟨h2, q2, t3, e1, e2, e3, e4, e5, e6, e7⟩ := t_fan (Nat.le_refl _) B1 (by omega) (f := i) (by omega) (by rw [f1 109 (by omega)]; exact cm i (by omega)) (m := m) (fun j hj => by
          rw [m3 j hj]
          by_cases x : j < D
          · rw [qd j x]
          · rw [decide_eq_false x]
            rfl) n
        rw [e1, if_neg (nI_ge (by omega) (by omega)), e2]
        simp only [Option.bind_some, sm_let, nI_1]
        exact ih (i + 1) h2 q2 t3 (by omega) (by omega) e4 (by omega) (f1.trans e5) (e6.trans q0) (fun d hd => (e7 d hd).trans (qd d hd))
  obtain ⟨h', q', t', e1, e2⟩ := L sm_N 0 h q t (by unfold sm_N; omega) (by omega) B (by omega) (fun _ _ => rfl) rfl (fun _ _ => rfl)
  refine ⟨h', q', t', ?_, e2⟩
  unfold f_en_runFans
  rw [i1, s_true, i2]
  refine w_lt ?_
  refine w_b2 m1 ?_
  exact e1
-- what a tick leaves alone
def p_hf (s : Nat) (h h' : sm_H) : Prop := ∀ i, (i < s ∨ s + 12 < i) → (i < 108 ∨ 113 < i) → h' i = h i
def p_gf (g g' : sm_H) : Prop := (∀ i, i ≠ 117 → i ≠ 114 → (i < 122 ∨ 131 < i) → g' i = g i) ∧ ∀ k, k ≠ 31 → g' 114 k = g 114 k
theorem p_hf.trans {h' h'' : sm_H} (a : p_hf s h h') (b : p_hf s h' h'') : p_hf s h h'' := fun i x y => (b i x y).trans (a i x y)
theorem p_gf.trans {g' g'' : sm_H} (a : p_gf g g') (b : p_gf g' g'') : p_gf g g'' := ⟨fun i x y z => (b.1 i x y z).trans (a.1 i x y z), fun k z => (b.2 k z).trans (a.2 k z)⟩
theorem t_pass (B : p_B Z s p Z D F R t h q (g 115)) (ht : t + 64 < 2 ^ 30) :
    ∃ h' q' g' t', (∀ n k i, (nI k ≤ nI i) = False → h s 1 = q 0 → ¬ 9999 ≤ q 0 → f_en_pass_L2 (n + 1) 106 s (nI k) (nI i) h = f_en_pass_L2 n 106 s (nI k) (nI (i + 1)) h') ∧ f_mo_pass 114 (sm_row g 117 q) = some (sm_row g' 117 q') ∧ t' ≤ t + 64 ∧ p_B Z s p Z D F R t' h' q' (g 115) ∧ p_hf s h h' ∧ p_gf g g' ∧ q' 0 = q 0 + 1 := by
  obtain ⟨V, S, K⟩ := id B
  have hs := V.2.1
  have hp := V.1
  have C : p_CT Z D F R := V.2.2.2.1
  obtain ⟨c1, c2, c3, c4, c5⟩ := id C
  have r115 : ∀ (g : sm_H) q', sm_row g 117 q' 115 = g 115 := fun g q' => p_row_off (by omega)
  have r117 : ∀ (g : sm_H) q', sm_row g 117 q' 117 = q' := fun g q' => p_row_at
  have ru : ∀ (g : sm_H) (q : Nat → Int32) k v, sm_up (sm_row g 117 q) 117 k v = sm_row g 117 (upd q k v) := fun g q k v => p_row_up
  -- (a) the commands
  obtain ⟨h1, G1, a1, a2, a3, a4, a5⟩ := t_decide (h := h) (g := sm_row g 117 q) (s := s) (p := p) (Y := Z) (Z := Z) (D := D) (F := F) (R := R) (t := t) (by rw [r117, r115]; exact B)
  have G117 : G1 117 = q := (a4 117 (by omega)).trans (r117 g q)
  have G115 : G1 115 = g 115 := (a4 115 (by omega)).trans (r115 g q)
  have G114 : G1 114 = g 114 := (a4 114 (by omega)).trans (p_row_off (by omega))
  have eG : G1 = sm_row G1 117 q := by rw [← G117]; exact (p_row_self _ _).symm
  have B1 : p_B Z s p Z D F R t h1 q (G1 115) := by rw [G115]; exact B.rows (fun i hi => a3 i (by omega))
  obtain ⟨V1, S1, K1⟩ := id B1
  -- the time
  have B2 : p_B Z s p Z D F R t (sm_up h1 s 1 (q 0 + 1)) (upd q 0 (q 0 + 1)) (G1 115) := ⟨V1.rows (fun i hi => sm_up_ne _ _ _ _ _ (by omega)) (sm_up_off (by omega)), S1.cell C (Nat.le_refl _) _ q_time, K1.cong C (fun m hm => p_ud_off (by omega)) (sm_up_off (by omega)) (sm_up_off (by omega))⟩
  have f2 : p_fh s h1 (sm_up h1 s 1 (q 0 + 1)) := fun i hi => sm_up_ne _ _ _ _ _ (by omega)
  -- (b) dampers
  obtain ⟨h3, q3, t3, b1, b2, b3, B3, b5, b6⟩ := t_dampers (g := G1) B2 ht (fun d hd => by rw [f2 109 (by omega)]; exact (a5.1 d hd).1)
  -- (c) fans
  obtain ⟨h4, q4, t4, d1, d2, d3, B4, d5, d6⟩ := t_fans (g := G1) B3 (by omega) (fun f hf => by rw [b5 109 (by omega), f2 109 (by omega)]; exact (a5.2 f hf).1)
  -- (d) pressure
  obtain ⟨Q, h5, q5, t5, P, e1, e2, e3, e4, B5, e6, e7, e8, e9⟩ := t_pressure (g := G1) (Nat.le_refl _) B4 (by omega) (fun f hf => by rw [d5 109 (by omega), b5 109 (by omega), f2 109 (by omega)]; exact (a5.2 f hf).1)
  obtain ⟨air, hair⟩ : ∃ air, air = nI Q * h4 s 4 / 100 := ⟨_, rfl⟩
  rw [← hair] at e2 e3
  obtain ⟨G2, hG2⟩ : ∃ G2, G2 = sm_up G1 114 31 air := ⟨_, rfl⟩
  rw [← hG2] at e3
  have G215 : G2 115 = G1 115 := by rw [hG2, sm_up_ne _ _ _ _ _ (by omega)]
  rw [← G215] at B5
  -- (e) air and smoke
  obtain ⟨V5, S5, K5⟩ := id B5
  obtain ⟨h6, i1, i2, i3⟩ := t_divide (h := h5) (g := sm_row G2 117 q5) (s := s) (p := p) (Y := Z) (Z := Z) (D := D) (F := F) (R := R) (t := t5) (by rw [r115]; exact V5) (by rw [r117]; exact S5) (by rw [r117, r115]; exact K5)
  have B6 : p_B Z s p Z D F R t5 h6 q5 (G2 115) := B5.rows (fun i hi => i2 i (by omega))
  obtain ⟨h7, q7, G3, j1, j2, B7, j4, j5, j6⟩ := t_smoke (g := G2) B6 e8 e9 (air := air) (by rw [hG2, p_up_at]) i3
  have G315 : G3 115 = G2 115 := j5 115 (by omega) (by omega)
  rw [← G315] at B7
  -- (f) alarms
  obtain ⟨h8, q8, t8, k1, k2, k3, B8, k5, k6⟩ := t_raise (g := G3) B7 (by omega)
  refine ⟨h8, q8, G3, t8, fun n k i hk h0 h9 => ?_, ?_, by omega, by rw [G315, G215, G115] at B8; exact B8, fun i x y => ?_, ⟨fun i x y z => ?_, fun k hk => ?_⟩, ?_⟩
  · show (if nI k ≤ nI i then _ else (if 9999 ≤ h s 1 then _ else _)) = _
    rw [if_neg (by rw [hk]; exact id), h0, if_neg h9]
    have h1s : h1 s 1 = q 0 := by rw [a3 s (by omega)]; exact h0
    refine w_bd a1 ?_
    refine w_lt ?_
    rw [h1s]
    refine w_bd b1 ?_
    refine w_bd d1 ?_
    refine w_b2 e1 ?_
    refine w_lt ?_
    rw [← hair]
    refine w_bd e2 ?_
    refine w_bd i1 ?_
    refine w_bd j1 ?_
    refine w_bd k1 ?_
    refine w_lt ?_
    rw [nI_1]
  · unfold f_mo_pass
    rw [a2]
    simp only [Option.bind_some, s_j0, s_c0, Nat.reduceAdd, G117, sm_let]
    rw [show sm_up G1 117 0 (q 0 + 1) = sm_row G1 117 (upd q 0 (q 0 + 1)) by rw [← ru, ← eG]]
    rw [show f_mo_pass_L20 sm_N 114 0 (sm_row G1 117 (upd q 0 (q 0 + 1))) = f_mo_pass_L20 sm_N 114 (nI 0) (sm_row G1 117 (upd q 0 (q 0 + 1))) from rfl, b2]
    unfold f_mo_pass_L41
    rw [show f_mo_pass_L43 sm_N 114 0 (sm_row G1 117 q3) = f_mo_pass_L43 sm_N 114 (nI 0) (sm_row G1 117 q3) from rfl, d2]
    unfold f_mo_pass_L64
    rw [e3]
    simp only [Option.bind_some]
    rw [j2]
    simp only [Option.bind_some]
    rw [k2]
    rfl
  · rw [k5 i x, j4 i x (by omega), i2 i (by omega), e6 i x, d5 i x, b5 i x, f2 i x, a3 i (by omega)]
  · rw [j5 i x (by omega), hG2, sm_up_ne _ _ _ _ _ y, a4 i (by omega), p_row_off x]
  · rw [j5 114 (by omega) (by omega), hG2, sm_up_off (by omega), G114]
  · rw [k6, j6, e7, d6, b6, p_ud_at]
-- ticks
theorem t_ticks (V0 : p_V s p Z D F R h (g 115)) {j : Nat} (hj : j ≤ 3072) (k : Nat) (hk : k ≤ 200) :
    ∀ n i h1 g1 q1, k - i < n → i ≤ k → g1 115 = g 115 → p_V s p Z D F R h1 (g 115) → p_SO Z D F R s h1 q1 (g 115) j → ∃ r h' q' g', f_en_pass_L2 n 106 s (nI k) (nI i) h1 = some (nI r, h') ∧ f_mo_passTicks_L2 n 114 (nI k) (nI i) (sm_row g1 117 q1) = some (nI r, sm_row g' 117 q') ∧ i ≤ r ∧ r ≤ k ∧ p_V s p Z D F R h' (g 115) ∧ p_SO Z D F R s h' q' (g 115) j ∧ p_hf s h1 h' ∧ p_gf g1 g' ∧ (r = i → h' = h1 ∧ g' = g1 ∧ q' = q1 ∧ (i < k → 9999 ≤ q1 0)) := by
  intro n
  induction n with
  | zero => intro i h1 g1 q1 y; omega
  | succ n ih =>
    intro i h1 g1 q1 y1 y2 eg V1 SO
    obtain ⟨t, S, RG⟩ := id SO
    obtain ⟨ra, ⟨x, x1, x2, x3⟩, rb⟩ := id RG
    have e0 : h1 s 1 = q1 0 := S.1 0 1 0 q_time
    have r117 : sm_row g1 117 q1 117 = q1 := p_row_at
    by_cases y : i = k
    · refine ⟨i, h1, q1, g1, ?_, ?_, Nat.le_refl _, by omega, V1, SO, fun _ _ _ => rfl, ⟨fun _ _ _ _ => rfl, fun _ _ => rfl⟩, fun _ => ⟨rfl, rfl, rfl, fun z => by omega⟩⟩
      · show (if nI k ≤ nI i then _ else _) = _
        rw [if_pos (nI_le (by omega) (by omega))]
        rfl
      · unfold f_mo_passTicks_L2
        rw [if_pos (nI_le (by omega) (by omega))]
        rfl
    · by_cases z : x = 9999
      · have big : (9999 : Int32) ≤ q1 0 := by
          rw [x2, z]
          exact Int32.le_refl _
        refine ⟨i, h1, q1, g1, ?_, ?_, Nat.le_refl _, by omega, V1, SO, fun _ _ _ => rfl, ⟨fun _ _ _ _ => rfl, fun _ _ => rfl⟩, fun _ => ⟨rfl, rfl, rfl, fun _ => big⟩⟩
        · show (if nI k ≤ nI i then _ else (if 9999 ≤ h1 s 1 then _ else _)) = _
          rw [if_neg (nI_ge (by omega) (by omega)), e0, if_pos big]
          rfl
        · unfold f_mo_passTicks_L2
          rw [if_neg (nI_ge (by omega) (by omega)), s_j0, s_c0, show sm_row g1 117 q1 (114 + 3) 0 = q1 0 from congrFun r117 0, if_pos big]
          rfl
      · have small : ¬ (9999 : Int32) ≤ q1 0 := by
          rw [x2]
          exact nI_ge (b := 9999) (by omega) (by omega)
        obtain ⟨h2, q2, g2, t2, e1, e2, e3, e4, e5, e6, e7⟩ := t_pass (g := g1) (h := h1) (q := q1) (s := s) (p := p) (Z := Z) (D := D) (F := F) (R := R) (t := t) (by rw [eg]; exact ⟨V1, S, RG.rk⟩) (by omega)
        have eg2 : g2 115 = g 115 := (e6.1 115 (by omega) (by omega) (by omega)).trans eg
        rw [eg] at e4
        obtain ⟨V2, S2, K2⟩ := e4
        have SO2 : p_SO Z D F R s h2 q2 (g 115) j := ⟨t2, S2, K2.1, ⟨x + 1, by omega, by rw [e7, x2]; exact nI_1 x, by omega⟩, K2.2⟩
        obtain ⟨r, h', q', g', w1, w2, l1, l2, w3, w4, w5, w6, w7⟩ := ih (i + 1) h2 g2 q2 (by omega) (by omega) eg2 V2 SO2
        refine ⟨r, h', q', g', ?_, ?_, by omega, l2, w3, w4, e5.trans w5, e6.trans w6, fun e => absurd e (by omega)⟩
        · rw [e1 n k i (eq_false (nI_ge (by omega) (by omega))) e0 small]
          exact w1
        · unfold f_mo_passTicks_L2
          rw [if_neg (nI_ge (by omega) (by omega)), s_j0, s_c0, show sm_row g1 117 q1 (114 + 3) 0 = q1 0 from congrFun r117 0, if_neg small, e2]
          simp only [Option.bind_some, sm_let, nI_1]
          exact w2
end p_pass
