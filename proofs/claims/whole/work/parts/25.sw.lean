section p_sw
variable {p Z D F R j : Nat} {h : sm_H}
theorem p_SO.rng {o k m v : Nat} {q w : Nat → Int32} (C : p_CT Z D F R) (S : p_SO Z D F R 40 h q w j) (hv : v ≤ 2) (e : p_eq Z Z D F o k m) (ho : ¬ (o = 8 ∧ k = 0) ∧ ¬ (o = 0 ∧ k = 8)) (hm : m ≠ 0 ∧ (m ≠ 1 ∧ m ≠ 2) ∧ m ≠ 7 ∧ (∀ d, d < D → 42 + 7 * d ≠ m) ∧ ∀ f, f < F → 154 + 6 * f ≠ m) : p_SO Z D F R 40 (sm_up h (40 + o) k (nI v)) (upd q m (nI v)) w (j + 6) := by
  obtain ⟨t, S1, ⟨a1, ⟨x, x1, x2, x3⟩, a3, a4, a5, a6, a7⟩⟩ := S
  obtain ⟨m1, m2, m3, m4, m5⟩ := hm
  have r8 : sm_up h (40 + o) k (nI v) (40 + 8) 0 = h (40 + 8) 0 := sm_up_off (by omega)
  have r0 : sm_up h (40 + o) k (nI v) 40 8 = h 40 8 := sm_up_off (by omega)
  have K : ∀ i, (∃ u, u ≤ 2 ∧ q i = nI u) → ∃ u, u ≤ 2 ∧ upd q m (nI v) i = nI u := by
    intro i hi
    by_cases z : i = m
    · rw [z, p_ud_at]
      exact ⟨v, hv, rfl⟩
    · rw [p_ud_off z]
      exact hi
  refine ⟨t, S1.cell C (Nat.le_refl _) _ e, ⟨by rw [p_ud_off (by omega)]; exact a1.1, by rw [p_ud_off (by omega)]; exact a1.2⟩, ⟨x, x1, by rw [p_ud_off (by omega)]; exact x2, by omega⟩, fun d hd => ?_, fun f hf => ?_, by rw [r8]; exact a5, by rw [r0]; exact a6, by rw [r8, p_ud_off (by omega)]; exact a7⟩
  · obtain ⟨b1, b2, b3⟩ := a3 d hd
    rw [p_ud_off (m4 d hd)]
    exact ⟨b1, K _ b2, K _ b3⟩
  · obtain ⟨b1, b2, b3⟩ := a4 f hf
    rw [p_ud_off (m5 f hf)]
    exact ⟨b1, K _ b2, K _ b3⟩
theorem e_setCommand {r u v : Nat} (hr : sm_len r = 23) (hu : u < 23) (hv : v ≤ 2) (h : sm_H) : f_sc_setCommand r (nI u) (nI v) h = some (h r u, sm_up h r u (nI v)) := by
  unfold f_sc_setCommand f_sc_exchange
  simp only [sm_b2, sm_let]
  have e2 : (2 : Int32) = nI 2 := rfl
  rw [if_neg (nI_pos (by omega)), e2, if_pos (nI_le hv (by omega)), if_neg (nI_pos (by omega)), hr, if_pos (nI_lt hu (by omega)), sm_gd_t (sm_inb_nI hu (by omega)), sm_gd_t (sm_inb_nI hu (by omega)), nI_clamp (by omega)]
  rfl
theorem p_out2 {y : Int32} (hy : y < 0 ∨ nI 3 ≤ y) : ¬ y < 0 → ¬ y ≤ 2 := fun h0 z => absurd (Int32.le_trans (hy.resolve_left h0) z) (by decide)
theorem e_setCommandO {r : Nat} {u y : Int32} (hy : y < 0 ∨ nI 3 ≤ y) (h : sm_H) : f_sc_setCommand r u y h = some (-2, h) := by
  unfold f_sc_setCommand f_sc_setCommand_L9
  by_cases y0 : y < 0
  · rw [if_pos y0]
  · rw [if_neg y0, if_neg (p_out2 hy y0)]
theorem e_set {m v : Nat} (hm : m < 350) (hv : v ≤ 2) (g : sm_H) (q : Nat → Int32) : f_mo_set 114 1 (nI m) (nI v) (sm_row g 117 q) = some (q m, sm_row g 117 (upd q m (nI v))) := by
  unfold f_mo_set
  have r : sm_row g 117 q 117 = q := p_row_at
  simp only [sm_b2, sm_let, Nat.reduceAdd]
  rw [if_neg (by decide), show (2 : Int32) = nI 3 - 1 from by decide, e_inI (by omega) (by omega)]
  simp only [Option.bind_some]
  rw [if_neg (by decide), sm_gd_t (sm_inb_nI hm (by omega)), sm_gd_t (sm_inb_nI hm (by omega)), nI_clamp (by omega), r]
  exact congrArg (fun z => some (q m, z)) (p_row_up (i := 117))
theorem e_setO {m : Nat} {y : Int32} (hy : y < 0 ∨ nI 3 ≤ y) (g : sm_H) : f_mo_set 114 1 (nI m) y g = some (-2, g) := by
  unfold f_mo_set
  simp only [sm_b2, sm_let]
  rw [if_neg (by decide), show (2 : Int32) = nI 3 - 1 from by decide, e_inO hy (by omega)]
  simp only [Option.bind_some]
  rw [if_pos (by decide)]
theorem e_set0 {m y : Int32} (g : sm_H) : f_mo_set 114 0 m y g = some (-1, g) := by
  unfold f_mo_set
  rw [if_pos (by decide)]
theorem p_ixD (k : Nat) (w : Nat) : (42 : Int32) + 7 * nI k + nI w = nI (42 + w + 7 * k) := by
  have e1 : (7 : Int32) * nI k = nI (7 * k) := nI_mul 7 k
  have e2 : (42 : Int32) + nI (7 * k) = nI (42 + 7 * k) := nI_add 42 _
  rw [e1, e2, nI_add]
  congr 1
  omega
theorem p_ixF (k : Nat) (w : Nat) : (154 : Int32) + 6 * nI k + nI w = nI (154 + w + 6 * k) := by
  have e1 : (6 : Int32) * nI k = nI (6 * k) := nI_mul 6 k
  have e2 : (154 : Int32) + nI (6 * k) = nI (154 + 6 * k) := nI_add 154 _
  rw [e1, e2, nI_add]
  congr 1
  omega
theorem s_switchDamper : sm_S11 p_RR := by
  intro j h x y _ hR
  obtain ⟨p, Z, D, F, R, G⟩ := hR
  obtain ⟨⟨c1, c2, c3, c4, c5⟩, ⟨z1, z2⟩, ⟨d1, d2⟩, ⟨f1, f2⟩, r1, r2⟩ := p_RR.parts G
  have same : ∀ r, f_sc_switchDamper 0 x y h = some (r, h) → f_mo_switchDamper 114 x y h = some (r, h) → ∃ r h1 h2, f_sc_switchDamper 0 x y h = some (r, h1) ∧ f_mo_switchDamper 114 x y h1 = some (r, h2) ∧ p_RR (j + 6) h2 := fun r a b => ⟨r, h, h, a, b, p, Z, D, F, R, G.mono⟩
  rcases p_idx x D (by omega) with ⟨k, hk, rfl⟩ | hx
  · rcases p_idx y 3 (by omega) with ⟨v, hv, rfl⟩ | hy
    · have e : h 44 k = h 117 (44 + 7 * k) := G.2.2.2.2.1.eq (q_sw hk)
      refine ⟨h 44 k, sm_up h 44 k (nI v), sm_row (sm_up h 44 k (nI v)) 117 (upd (h 117) (44 + 7 * k) (nI v)), ?_, ?_, p, Z, D, F, R, G.now (fun i hi => sm_up_ne _ _ _ _ _ (by omega)) (sm_up_off (by omega)) (G.2.2.2.2.1.rng ⟨c1, c2, c3, c4, c5⟩ (by omega) (q_sw hk) (by omega) ⟨by omega, by omega, by omega, fun d hd => by omega, fun f hf => by omega⟩)⟩
      · unfold f_sc_switchDamper f_sc_switchDamper_L24
        rw [e_lacksDamperI G.1 G.2.1 d1 (by omega) hk]
        simp only [sm_b2, Option.bind_some, Nat.reduceAdd]
        rw [if_pos trivial, e_setCommand (by decide +kernel) (by omega) (by omega)]
        rfl
      · rw [p_self h 44 k _ (by omega)]
        have z3 : sm_row (sm_up h 44 k (nI v)) 117 (h 117) 115 1 = nI D := by
          rw [p_row_off (by omega), sm_up_off (by omega)]
          exact d2
        unfold f_mo_switchDamper
        rw [e_isDamperI z3 (by omega) hk]
        simp only [sm_b2, Option.bind_some]
        rw [show (2 : Int32) = nI 2 from rfl, p_ixD, e_set (by omega) (by omega)]
        simp only [Option.bind_some]
        rw [p_row_row, e]
    · refine same (-2) ?_ ?_
      · unfold f_sc_switchDamper f_sc_switchDamper_L24
        rw [e_lacksDamperI G.1 G.2.1 d1 (by omega) hk]
        simp only [sm_b2, Option.bind_some, Nat.reduceAdd]
        rw [if_pos trivial, e_setCommandO hy]
        rfl
      · unfold f_mo_switchDamper
        rw [e_isDamperI d2 (by omega) hk]
        simp only [sm_b2, Option.bind_some]
        rw [show (2 : Int32) = nI 2 from rfl, p_ixD, e_setO hy]
        rfl
  · refine same (-1) ?_ ?_
    · unfold f_sc_switchDamper f_sc_switchDamper_L24
      rw [e_lacksDamperO G.1 G.2.1 d1 hx]
      simp only [sm_b2, Option.bind_some]
      rw [if_neg (by decide)]
    · unfold f_mo_switchDamper
      rw [e_isDamperO d2 (by omega) hx]
      simp only [sm_b2, Option.bind_some]
      rw [e_set0]
      rfl
theorem s_switchFan : sm_S12 p_RR := by
  intro j h x y _ hR
  obtain ⟨p, Z, D, F, R, G⟩ := hR
  obtain ⟨⟨c1, c2, c3, c4, c5⟩, ⟨z1, z2⟩, ⟨d1, d2⟩, ⟨f1, f2⟩, r1, r2⟩ := p_RR.parts G
  have same : ∀ r, f_sc_switchFan 0 x y h = some (r, h) → f_mo_switchFan 114 x y h = some (r, h) → ∃ r h1 h2, f_sc_switchFan 0 x y h = some (r, h1) ∧ f_mo_switchFan 114 x y h1 = some (r, h2) ∧ p_RR (j + 6) h2 := fun r a b => ⟨r, h, h, a, b, p, Z, D, F, R, G.mono⟩
  rcases p_idx x F (by omega) with ⟨k, hk, rfl⟩ | hx
  · rcases p_idx y 3 (by omega) with ⟨v, hv, rfl⟩ | hy
    · have e : h 44 (16 + k) = h 117 (156 + 6 * k) := G.2.2.2.2.1.eq (q_fsw hk)
      refine ⟨h 44 (16 + k), sm_up h 44 (16 + k) (nI v), sm_row (sm_up h 44 (16 + k) (nI v)) 117 (upd (h 117) (156 + 6 * k) (nI v)), ?_, ?_, p, Z, D, F, R, G.now (fun i hi => sm_up_ne _ _ _ _ _ (by omega)) (sm_up_off (by omega)) (G.2.2.2.2.1.rng ⟨c1, c2, c3, c4, c5⟩ (by omega) (q_fsw hk) (by omega) ⟨by omega, by omega, by omega, fun d hd => by omega, fun f hf => by omega⟩)⟩
      · unfold f_sc_switchFan f_sc_switchFan_L27
        rw [e_lacksFanI G.1 G.2.1 f1 (by omega) hk]
        simp only [sm_b2, Option.bind_some, Nat.reduceAdd]
        rw [if_pos trivial, show (16 : Int32) + nI k = nI (16 + k) from nI_add 16 k, e_setCommand (by decide +kernel) (by omega) (by omega)]
        rfl
      · rw [p_self h 44 (16 + k) _ (by omega)]
        have z3 : sm_row (sm_up h 44 (16 + k) (nI v)) 117 (h 117) 115 2 = nI F := by
          rw [p_row_off (by omega), sm_up_off (by omega)]
          exact f2
        unfold f_mo_switchFan
        rw [e_isFanI z3 (by omega) hk]
        simp only [sm_b2, Option.bind_some]
        rw [show (2 : Int32) = nI 2 from rfl, p_ixF, e_set (by omega) (by omega)]
        simp only [Option.bind_some]
        rw [p_row_row, e]
    · refine same (-2) ?_ ?_
      · unfold f_sc_switchFan f_sc_switchFan_L27
        rw [e_lacksFanI G.1 G.2.1 f1 (by omega) hk]
        simp only [sm_b2, Option.bind_some, Nat.reduceAdd]
        rw [if_pos trivial, show (16 : Int32) + nI k = nI (16 + k) from nI_add 16 k, e_setCommandO hy]
        rfl
      · unfold f_mo_switchFan
        rw [e_isFanI f2 (by omega) hk]
        simp only [sm_b2, Option.bind_some]
        rw [show (2 : Int32) = nI 2 from rfl, p_ixF, e_setO hy]
        rfl
  · refine same (-1) ?_ ?_
    · unfold f_sc_switchFan f_sc_switchFan_L27
      rw [e_lacksFanO G.1 G.2.1 f1 hx]
      simp only [sm_b2, Option.bind_some]
      rw [if_neg (by decide)]
    · unfold f_mo_switchFan
      rw [e_isFanO f2 (by omega) hx]
      simp only [sm_b2, Option.bind_some]
      rw [e_set0]
      rfl
theorem s_operateDamper : sm_S13 p_RR := by
  intro j h x y _ hR
  obtain ⟨p, Z, D, F, R, G⟩ := hR
  obtain ⟨⟨c1, c2, c3, c4, c5⟩, ⟨z1, z2⟩, ⟨d1, d2⟩, ⟨f1, f2⟩, r1, r2⟩ := p_RR.parts G
  have same : ∀ r, f_sc_operateDamper 0 x y h = some (r, h) → f_mo_operateDamper 114 x y h = some (r, h) → ∃ r h1 h2, f_sc_operateDamper 0 x y h = some (r, h1) ∧ f_mo_operateDamper 114 x y h1 = some (r, h2) ∧ p_RR (j + 6) h2 := fun r a b => ⟨r, h, h, a, b, p, Z, D, F, R, G.mono⟩
  rcases p_idx x D (by omega) with ⟨k, hk, rfl⟩ | hx
  · rcases p_idx y 3 (by omega) with ⟨v, hv, rfl⟩ | hy
    · have e : h 45 k = h 117 (45 + 7 * k) := G.2.2.2.2.1.eq (q_op hk)
      refine ⟨h 45 k, sm_up h 45 k (nI v), sm_row (sm_up h 45 k (nI v)) 117 (upd (h 117) (45 + 7 * k) (nI v)), ?_, ?_, p, Z, D, F, R, G.now (fun i hi => sm_up_ne _ _ _ _ _ (by omega)) (sm_up_off (by omega)) (G.2.2.2.2.1.rng ⟨c1, c2, c3, c4, c5⟩ (by omega) (q_op hk) (by omega) ⟨by omega, by omega, by omega, fun d hd => by omega, fun f hf => by omega⟩)⟩
      · unfold f_sc_operateDamper f_sc_operateDamper_L24
        rw [e_lacksDamperI G.1 G.2.1 d1 (by omega) hk]
        simp only [sm_b2, Option.bind_some, Nat.reduceAdd]
        rw [if_pos trivial, e_setCommand (by decide +kernel) (by omega) (by omega)]
        rfl
      · rw [p_self h 45 k _ (by omega)]
        have z3 : sm_row (sm_up h 45 k (nI v)) 117 (h 117) 115 1 = nI D := by
          rw [p_row_off (by omega), sm_up_off (by omega)]
          exact d2
        unfold f_mo_operateDamper
        rw [e_isDamperI z3 (by omega) hk]
        simp only [sm_b2, Option.bind_some]
        rw [show (3 : Int32) = nI 3 from rfl, p_ixD, e_set (by omega) (by omega)]
        simp only [Option.bind_some]
        rw [p_row_row, e]
    · refine same (-2) ?_ ?_
      · unfold f_sc_operateDamper f_sc_operateDamper_L24
        rw [e_lacksDamperI G.1 G.2.1 d1 (by omega) hk]
        simp only [sm_b2, Option.bind_some, Nat.reduceAdd]
        rw [if_pos trivial, e_setCommandO hy]
        rfl
      · unfold f_mo_operateDamper
        rw [e_isDamperI d2 (by omega) hk]
        simp only [sm_b2, Option.bind_some]
        rw [show (3 : Int32) = nI 3 from rfl, p_ixD, e_setO hy]
        rfl
  · refine same (-1) ?_ ?_
    · unfold f_sc_operateDamper f_sc_operateDamper_L24
      rw [e_lacksDamperO G.1 G.2.1 d1 hx]
      simp only [sm_b2, Option.bind_some]
      rw [if_neg (by decide)]
    · unfold f_mo_operateDamper
      rw [e_isDamperO d2 (by omega) hx]
      simp only [sm_b2, Option.bind_some]
      rw [e_set0]
      rfl
theorem s_operateFan : sm_S14 p_RR := by
  intro j h x y _ hR
  obtain ⟨p, Z, D, F, R, G⟩ := hR
  obtain ⟨⟨c1, c2, c3, c4, c5⟩, ⟨z1, z2⟩, ⟨d1, d2⟩, ⟨f1, f2⟩, r1, r2⟩ := p_RR.parts G
  have same : ∀ r, f_sc_operateFan 0 x y h = some (r, h) → f_mo_operateFan 114 x y h = some (r, h) → ∃ r h1 h2, f_sc_operateFan 0 x y h = some (r, h1) ∧ f_mo_operateFan 114 x y h1 = some (r, h2) ∧ p_RR (j + 6) h2 := fun r a b => ⟨r, h, h, a, b, p, Z, D, F, R, G.mono⟩
  rcases p_idx x F (by omega) with ⟨k, hk, rfl⟩ | hx
  · rcases p_idx y 3 (by omega) with ⟨v, hv, rfl⟩ | hy
    · have e : h 45 (16 + k) = h 117 (157 + 6 * k) := G.2.2.2.2.1.eq (q_fop hk)
      refine ⟨h 45 (16 + k), sm_up h 45 (16 + k) (nI v), sm_row (sm_up h 45 (16 + k) (nI v)) 117 (upd (h 117) (157 + 6 * k) (nI v)), ?_, ?_, p, Z, D, F, R, G.now (fun i hi => sm_up_ne _ _ _ _ _ (by omega)) (sm_up_off (by omega)) (G.2.2.2.2.1.rng ⟨c1, c2, c3, c4, c5⟩ (by omega) (q_fop hk) (by omega) ⟨by omega, by omega, by omega, fun d hd => by omega, fun f hf => by omega⟩)⟩
      · unfold f_sc_operateFan f_sc_operateFan_L27
        rw [e_lacksFanI G.1 G.2.1 f1 (by omega) hk]
        simp only [sm_b2, Option.bind_some, Nat.reduceAdd]
        rw [if_pos trivial, show (16 : Int32) + nI k = nI (16 + k) from nI_add 16 k, e_setCommand (by decide +kernel) (by omega) (by omega)]
        rfl
      · rw [p_self h 45 (16 + k) _ (by omega)]
        have z3 : sm_row (sm_up h 45 (16 + k) (nI v)) 117 (h 117) 115 2 = nI F := by
          rw [p_row_off (by omega), sm_up_off (by omega)]
          exact f2
        unfold f_mo_operateFan
        rw [e_isFanI z3 (by omega) hk]
        simp only [sm_b2, Option.bind_some]
        rw [show (3 : Int32) = nI 3 from rfl, p_ixF, e_set (by omega) (by omega)]
        simp only [Option.bind_some]
        rw [p_row_row, e]
    · refine same (-2) ?_ ?_
      · unfold f_sc_operateFan f_sc_operateFan_L27
        rw [e_lacksFanI G.1 G.2.1 f1 (by omega) hk]
        simp only [sm_b2, Option.bind_some, Nat.reduceAdd]
        rw [if_pos trivial, show (16 : Int32) + nI k = nI (16 + k) from nI_add 16 k, e_setCommandO hy]
        rfl
      · unfold f_mo_operateFan
        rw [e_isFanI f2 (by omega) hk]
        simp only [sm_b2, Option.bind_some]
        rw [show (3 : Int32) = nI 3 from rfl, p_ixF, e_setO hy]
        rfl
  · refine same (-1) ?_ ?_
    · unfold f_sc_operateFan f_sc_operateFan_L27
      rw [e_lacksFanO G.1 G.2.1 f1 hx]
      simp only [sm_b2, Option.bind_some]
      rw [if_neg (by decide)]
    · unfold f_mo_operateFan
      rw [e_isFanO f2 (by omega) hx]
      simp only [sm_b2, Option.bind_some]
      rw [e_set0]
      rfl
theorem s_count : sm_S4 p_RR := by
  intro j h x _ hR
  obtain ⟨p, Z, D, F, R, G⟩ := hR
  obtain ⟨⟨c1, c2, c3, c4, c5⟩, ⟨z1, z2⟩, ⟨d1, d2⟩, ⟨f1, f2⟩, r1, r2⟩ := p_RR.parts G
  have same : ∀ r, f_sc_count 0 x h = some (r, h) → f_mo_count 114 x h = some (r, h) → ∃ r h1 h2, f_sc_count 0 x h = some (r, h1) ∧ f_mo_count 114 x h1 = some (r, h2) ∧ p_RR (j + 6) h2 := fun r a b => ⟨r, h, h, a, b, p, Z, D, F, R, G.mono⟩
  obtain ⟨i1, i2⟩ := p_isPp G.1
  obtain ⟨-, ⟨-, -, -, -, -, -, -, -, g, w, -, -, -, t1, t2, t3, t4⟩, -, -, -, ⟨N, K, B, -, -, -, u1, u2, -, -, u3, u4, -⟩⟩ := G.2.2.2.1
  rcases p_idx x 8 (by omega) with ⟨k, hk, rfl⟩ | hx
  · have key : ∀ r, h 115 k = r → f_mo_count 114 (nI k) h = some (r, h) := by
      intro r hr
      unfold f_mo_count f_mo_count_L21
      simp only [sm_b2, Nat.reduceAdd]
      rw [show (7 : Int32) = nI 8 - 1 from by decide, e_inI hk (by omega)]
      simp only [Option.bind_some]
      rw [if_neg (by decide), sm_gd_t (sm_inb_nI (by omega) (by omega)), nI_clamp (by omega), hr]
    match k, hk with
    | 0, _ =>
      refine same _ ?_ (key _ z2)
      unfold f_sc_count
      simp only [Nat.reduceAdd, sm_let]
      rw [G.2.1, sm_gd_t i1, if_pos (by decide), i2, z1]
    | 1, _ =>
      refine same _ ?_ (key _ d2)
      unfold f_sc_count
      simp only [Nat.reduceAdd, sm_let]
      rw [G.2.1, sm_gd_t i1, if_neg (by decide), if_pos (by decide), i2, d1]
    | 2, _ =>
      refine same _ ?_ (key _ f2)
      unfold f_sc_count
      simp only [Nat.reduceAdd, sm_let]
      rw [G.2.1, sm_gd_t i1, if_neg (by decide), if_neg (by decide), if_pos (by decide), i2, f1]
    | 3, _ =>
      refine same _ ?_ (key _ r2)
      unfold f_sc_count
      simp only [Nat.reduceAdd, sm_let]
      rw [G.2.1, sm_gd_t i1, if_neg (by decide), if_neg (by decide), if_neg (by decide), if_pos (by decide), i2, r1]
    | 4, _ =>
      refine same _ ?_ (key _ u2)
      unfold f_sc_count
      simp only [Nat.reduceAdd, sm_let]
      rw [G.2.1, sm_gd_t i1, if_neg (by decide), if_neg (by decide), if_neg (by decide), if_neg (by decide), if_pos (by decide), i2, u1]
    | 5, _ =>
      refine same _ ?_ (key _ t2)
      unfold f_sc_count
      simp only [Nat.reduceAdd, sm_let]
      rw [G.2.1, sm_gd_t i1, if_neg (by decide), if_neg (by decide), if_neg (by decide), if_neg (by decide), if_neg (by decide), if_pos (by decide), i2, t1]
    | 6, _ =>
      refine same _ ?_ (key _ t4)
      unfold f_sc_count
      simp only [Nat.reduceAdd, sm_let]
      rw [G.2.1, sm_gd_t i1, if_neg (by decide), if_neg (by decide), if_neg (by decide), if_neg (by decide), if_neg (by decide), if_neg (by decide), if_pos (by decide), i2, t3]
    | 7, _ =>
      refine same _ ?_ (key _ u4)
      unfold f_sc_count
      simp only [Nat.reduceAdd, sm_let]
      rw [G.2.1, sm_gd_t i1, if_neg (by decide), if_neg (by decide), if_neg (by decide), if_neg (by decide), if_neg (by decide), if_neg (by decide), if_neg (by decide), if_pos (by decide), i2, u3]
    | k + 8, z => omega
  · refine same (-2) ?_ ?_
    · unfold f_sc_count
      simp only [Nat.reduceAdd, sm_let]
      have ne : ∀ k, k < 8 → ¬ x = nI k := fun k hk e => by
        rw [e] at hx
        rcases hx with hx | hx
        · exact nI_pos (by omega) hx
        · exact nI_ge hk (by omega) hx
      rw [G.2.1, sm_gd_t i1, if_neg (show ¬ x = 0 from ne 0 (by omega)), if_neg (show ¬ x = 1 from ne 1 (by omega)), if_neg (show ¬ x = 2 from ne 2 (by omega)), if_neg (show ¬ x = 3 from ne 3 (by omega)), if_neg (show ¬ x = 4 from ne 4 (by omega)), if_neg (show ¬ x = 5 from ne 5 (by omega)), if_neg (show ¬ x = 6 from ne 6 (by omega)), if_neg (show ¬ x = 7 from ne 7 (by omega))]
    · unfold f_mo_count f_mo_count_L21
      simp only [sm_b2]
      rw [show (7 : Int32) = nI 8 - 1 from by decide, e_inO hx (by omega)]
      simp only [Option.bind_some]
      rw [if_pos (by decide)]
theorem p_tb {t x j : Nat} (h1 : x ≤ 9999) (h2 : t ≤ 64 * x + j) (h3 : j ≤ 3072) : t < 2 ^ 30 := by omega
theorem e_jmin {a b : Nat} (ha : a < 2 ^ 31) (hb : b < 2 ^ 31) (g : sm_H) : f_jm_min (nI a) (nI b) g = some (nI (min a b), g) := by
  unfold f_jm_min f_jm_min_L10
  by_cases z : b < a
  · rw [if_pos (nI_lt z ha), show min a b = b by omega]
  · rw [if_neg (nI_nlt (by omega) hb), show min a b = a by omega]
theorem e_kept {t : Nat} (ht : t < 2 ^ 30) (g : sm_H) (e : g 49 0 = nI t) : f_lo_kept 49 g = some (nI (min t 50), g) := by
  unfold f_lo_kept sm_b2
  rw [e, show (50 : Int32) = nI 50 from rfl, e_jmin (by omega) (by omega)]
  rfl
theorem s_events : sm_S28 p_RR := by
  intro j h hj hR
  obtain ⟨p, Z, D, F, R, G⟩ := hR
  obtain ⟨t, ⟨S1, S2, S3, n, l1, l2, l3, l4⟩, ⟨-, ⟨x, x1, x2, x3⟩, -⟩⟩ := G.2.2.2.2.1
  have ht := p_tb x1 x3 hj
  refine ⟨nI n, h, h, ?_, ?_, p, Z, D, F, R, G.mono⟩
  · unfold f_sc_events
    simp only [Nat.reduceAdd, sm_b2]
    rw [e_kept ht h l1, l3]
    rfl
  · unfold f_mo_events
    have c : (9 : Int32).toNatClampNeg = 9 := by decide
    simp only [Nat.reduceAdd]
    rw [sm_gd_t (by decide), c, l2]
theorem s_event : sm_S29 p_RR := by
  intro j h x y hj hR
  obtain ⟨p, Z, D, F, R, G⟩ := hR
  obtain ⟨t, ⟨S1, S2, S3, n, l1, l2, l3, l4⟩, ⟨-, ⟨x', x1, x2, x3⟩, -⟩⟩ := G.2.2.2.2.1
  have ht := p_tb x1 x3 hj
  have c : (9 : Int32).toNatClampNeg = 9 := by decide
  have same : ∀ r, f_sc_event 0 x y h = some (r, h) → f_mo_event 114 x y h = some (r, h) → ∃ r h1 h2, f_sc_event 0 x y h = some (r, h1) ∧ f_mo_event 114 x y h1 = some (r, h2) ∧ p_RR (j + 6) h2 := fun r a b => ⟨r, h, h, a, b, p, Z, D, F, R, G.mono⟩
  have l1' : h 49 0 = nI t := l1
  rcases p_idx x n (by omega) with ⟨k, hk, rfl⟩ | hx
  · have pl : f_lo_place 49 (nI k) h = some (nI ((t - 1 - k) % 50), h) := by
      unfold f_lo_place sm_b2
      have e : h 49 0 - 1 - nI k = nI (t - 1 - k) := by
        rw [l1', show nI t - 1 = nI (t - 1) from nI_sub (b := 1) (by omega), nI_sub (by omega)]
      rw [e, e_floorMod (by omega)]
      rfl
    have hp : (t - 1 - k) % 50 < 50 := Nat.mod_lt _ (by omega)
    have g := l4 (n - 1 - k) (by omega)
    rw [show t - n + (n - 1 - k) = t - 1 - k by omega] at g
    have cls0 : ∀ r, (∀ g6 : Int32, g6 = nI ((t - 1 - k) % 50) → (if y = 0 then (sm_gd (sm_inb g6 50) <| some (h 50 (g6 : Int32).toNatClampNeg, h)) else (if y = 1 then (sm_gd (sm_inb g6 50) <| some (h 51 (g6 : Int32).toNatClampNeg, h)) else (if y = 2 then (sm_gd (sm_inb g6 50) <| some (h 52 (g6 : Int32).toNatClampNeg, h)) else (some ((-2), h))))) = some (r, h)) → f_sc_event 0 (nI k) y h = some (r, h) := by
      intro r hr
      unfold f_sc_event
      simp only [Nat.reduceAdd, sm_b2]
      rw [if_neg (nI_pos (by omega)), e_kept ht h l1]
      simp only [Option.bind_some]
      rw [if_pos (nI_lt (by omega) (by omega)), pl]
      simp only [Option.bind_some]
      exact hr _ rfl
    have mod0 : ∀ v, v < 3 → y = nI v → f_mo_event 114 (nI k) y h = some (h 117 (200 + 3 * (n - 1 - k) + v), h) := by
      intro v hv hy
      unfold f_mo_event f_mo_event_L57
      simp only [Nat.reduceAdd, sm_b2]
      rw [sm_gd_t (by decide), c, l2, e_inI hk (by omega)]
      simp only [Option.bind_some]
      rw [if_neg (by decide), hy, show (2 : Int32) = nI 3 - 1 from by decide, e_inI hv (by omega)]
      simp only [Option.bind_some]
      have e : (200 : Int32) + 3 * (nI n - 1 - nI k) + nI v = nI (200 + 3 * (n - 1 - k) + v) := by
        rw [show nI n - 1 = nI (n - 1) from nI_sub (b := 1) (by omega), nI_sub (by omega), show (3 : Int32) * nI (n - 1 - k) = nI (3 * (n - 1 - k)) from nI_mul 3 _, show (200 : Int32) + nI (3 * (n - 1 - k)) = nI (200 + 3 * (n - 1 - k)) from nI_add 200 _, nI_add]
      rw [if_neg (by decide), l2, e, sm_gd_t (by decide), sm_gd_t (sm_inb_nI (by omega) (by omega)), nI_clamp (by omega)]
    rcases p_idx y 3 (by omega) with ⟨v, hv, rfl⟩ | hy
    · match v, hv with
      | 0, hv =>
        refine same _ (cls0 _ (fun g6 e6 => ?_)) (mod0 0 hv rfl)
        rw [e6, if_pos (by decide), sm_gd_t (sm_inb_nI hp (by omega)), nI_clamp (by omega)]
        exact congrArg (fun z => some (z, h)) g.1
      | 1, hv =>
        refine same _ (cls0 _ (fun g6 e6 => ?_)) (mod0 1 hv rfl)
        rw [e6, if_neg (by decide), if_pos (by decide), sm_gd_t (sm_inb_nI hp (by omega)), nI_clamp (by omega), show 200 + 3 * (n - 1 - k) + 1 = 201 + 3 * (n - 1 - k) by omega]
        exact congrArg (fun z => some (z, h)) g.2.1
      | 2, hv =>
        refine same _ (cls0 _ (fun g6 e6 => ?_)) (mod0 2 hv rfl)
        rw [e6, if_neg (by decide), if_neg (by decide), if_pos (by decide), sm_gd_t (sm_inb_nI hp (by omega)), nI_clamp (by omega), show 200 + 3 * (n - 1 - k) + 2 = 202 + 3 * (n - 1 - k) by omega]
        exact congrArg (fun z => some (z, h)) g.2.2
    · have ne : ∀ k, k < 3 → ¬ y = nI k := fun k hk e => by
        rw [e] at hy
        rcases hy with hy | hy
        · exact nI_pos (by omega) hy
        · exact nI_ge hk (by omega) hy
      refine same (-2) (cls0 _ (fun g6 e6 => ?_)) ?_
      · rw [if_neg (show ¬ y = 0 from ne 0 (by omega)), if_neg (show ¬ y = 1 from ne 1 (by omega)), if_neg (show ¬ y = 2 from ne 2 (by omega))]
      · unfold f_mo_event f_mo_event_L57
        simp only [Nat.reduceAdd, sm_b2]
        rw [sm_gd_t (by decide), c, l2, e_inI hk (by omega)]
        simp only [Option.bind_some]
        rw [if_neg (by decide), show (2 : Int32) = nI 3 - 1 from by decide, e_inO hy (by omega)]
        simp only [Option.bind_some]
        rw [if_pos (by decide)]
  · refine same (-1) ?_ ?_
    · unfold f_sc_event
      simp only [Nat.reduceAdd, sm_b2]
      by_cases x0 : x < 0
      · rw [if_pos x0]
      · rw [if_neg x0, e_kept ht h l1]
        simp only [Option.bind_some]
        rw [← l3, if_neg (Int32.not_lt.mpr (hx.resolve_left x0))]
    · unfold f_mo_event
      simp only [Nat.reduceAdd, sm_b2]
      rw [sm_gd_t (by decide), c, l2, e_inO hx (by omega)]
      simp only [Option.bind_some]
      rw [if_pos (by decide)]
end p_sw
