-- RESET: put together
theorem p_lw_ext {P Q : Nat → Bool} {Z : Nat} : ∀ k, k ≤ Z → (∀ z, z < Z → P z = Q z) → p_lw P Z k = p_lw Q Z k := by
  intro k
  induction k with
  | zero => intro _ _; rfl
  | succ k ih =>
    intro h1 h2
    show (if P (Z - 1 - k) = true then nI (Z - 1 - k) else p_lw P Z k) = (if Q (Z - 1 - k) = true then nI (Z - 1 - k) else p_lw Q Z k)
    rw [ih (by omega) h2, h2 _ (by omega)]
section p_reset2
variable {p Z D F R t j : Nat} {h g : sm_H} {q : Nat → Int32}
theorem t_rsd (d2 : g 115 1 = nI D) (c3 : D ≤ 16) : ∀ n i q1, D - i < n → i ≤ D → (∀ d, d < i → q1 (47 + 7 * d) = 0 ∧ q1 (48 + 7 * d) = 0) → (∀ m, (∀ d, d < i → m ≠ 47 + 7 * d ∧ m ≠ 48 + 7 * d) → q1 m = q m) → ∃ q', f_mo_reset_L2 n 114 (nI i) (sm_row g 117 q1) = f_mo_reset_L33 114 (sm_row g 117 q') ∧ (∀ d, d < D → q' (47 + 7 * d) = 0 ∧ q' (48 + 7 * d) = 0) ∧ ∀ m, (∀ d, d < D → m ≠ 47 + 7 * d ∧ m ≠ 48 + 7 * d) → q' m = q m := by
  intro n
  induction n with
  | zero => intro i q1 y; omega
  | succ n ih =>
    intro i q1 y1 y2 y3 y4
    unfold f_mo_reset_L2
    rw [s_i1, s_c1, show sm_row g 117 q1 (114 + 1) 1 = nI D by rw [p_row_off (by omega)]; exact d2]
    by_cases y : i = D
    · rw [if_pos (nI_le (by omega) (by omega))]
      exact ⟨q1, rfl, by rw [← y]; exact y3, by rw [← y]; exact y4⟩
    · have hi : i < 16 := by omega
      rw [if_neg (nI_ge (by omega) (by omega))]
      simp only [e_pD5 hi, e_pD6 hi, Option.bind_some, sm_let, nI_1]
      refine ih (i + 1) _ (by omega) (by omega) (fun d hd => ?_) (fun m hm => ?_)
      · by_cases x : d = i
        · rw [x, p_ud_at, p_ud_off (by omega), p_ud_at]
          exact ⟨rfl, rfl⟩
        · rw [p_ud_off (by omega), p_ud_off (by omega), p_ud_off (by omega), p_ud_off (by omega)]
          exact y3 d (by omega)
      · have := hm i (by omega)
        rw [p_ud_off this.2, p_ud_off this.1]
        exact y4 m (fun d hd => hm d (by omega))
theorem t_rsf (f2 : g 115 2 = nI F) (c4 : F ≤ 6) : ∀ n i q1, F - i < n → i ≤ F → (∀ d, d < i → q1 (158 + 6 * d) = 0 ∧ q1 (159 + 6 * d) = 0) → (∀ m, (∀ d, d < i → m ≠ 158 + 6 * d ∧ m ≠ 159 + 6 * d) → q1 m = q m) → ∃ q', f_mo_reset_L35 n 114 (nI i) (sm_row g 117 q1) = f_mo_reset_L65 114 (sm_row g 117 q') ∧ (∀ d, d < F → q' (158 + 6 * d) = 0 ∧ q' (159 + 6 * d) = 0) ∧ ∀ m, (∀ d, d < F → m ≠ 158 + 6 * d ∧ m ≠ 159 + 6 * d) → q' m = q m := by
  intro n
  induction n with
  | zero => intro i q1 y; omega
  | succ n ih =>
    intro i q1 y1 y2 y3 y4
    unfold f_mo_reset_L35
    rw [s_i2, s_c2, show sm_row g 117 q1 (114 + 1) 2 = nI F by rw [p_row_off (by omega)]; exact f2]
    by_cases y : i = F
    · rw [if_pos (nI_le (by omega) (by omega))]
      exact ⟨q1, rfl, by rw [← y]; exact y3, by rw [← y]; exact y4⟩
    · have hi : i < 6 := by omega
      rw [if_neg (nI_ge (by omega) (by omega))]
      simp only [e_pF4 hi, e_pF5 hi, Option.bind_some, sm_let, nI_1]
      refine ih (i + 1) _ (by omega) (by omega) (fun d hd => ?_) (fun m hm => ?_)
      · by_cases x : d = i
        · rw [x, p_ud_at, p_ud_off (by omega), p_ud_at]
          exact ⟨rfl, rfl⟩
        · rw [p_ud_off (by omega), p_ud_off (by omega), p_ud_off (by omega), p_ud_off (by omega)]
          exact y3 d (by omega)
      · have := hm i (by omega)
        rw [p_ud_off this.2, p_ud_off this.1]
        exact y4 m (fun d hd => hm d (by omega))
theorem s_reset : sm_S16 p_RR := by
  intro j h hj hR
  obtain ⟨p, Z, D, F, R, G⟩ := hR
  obtain ⟨t, S, RG⟩ := id G.2.2.2.2.1
  have K := RG.rk
  obtain ⟨ra, ⟨x, x1, x2, x3⟩, rb⟩ := id RG
  have V := G.V
  have C : p_CT Z D F R := V.2.2.2.1
  obtain ⟨c1, c2, c3, c4, c5⟩ := id C
  have hp : p ≤ 24 := by rcases G.1 with e | e <;> omega
  have z2 : h 115 0 = nI Z := V.2.2.2.2.1.2.1
  have d2 : h 115 1 = nI D := V.2.2.2.2.1.2.2.2.1
  have f2 : h 115 2 = nI F := V.2.2.2.2.1.2.2.2.2.2.1
  have len : sm_len 47 = 23 := by decide +kernel
  -- the class: timers, troubles
  obtain ⟨hA, hhA⟩ : ∃ hA, hA = sm_row (sm_up h 40 8 0) 47 (fun k => if k < sm_len 47 then 0 else (sm_up h 40 8 0) 47 k) := ⟨_, rfl⟩
  have fA : ∀ i, i ≠ 40 → i ≠ 47 → hA i = h i := fun i a b => by rw [hhA, p_row_off b, sm_up_ne _ _ _ _ _ a]
  have fA0 : ∀ k, k ≠ 8 → hA 40 k = h 40 k := fun k hk => by rw [hhA, p_row_off (by omega), sm_up_off (by omega)]
  have fA8 : hA 40 8 = 0 := by rw [hhA, p_row_off (by omega), p_up_at]
  have fA7 : ∀ k, k < 23 → hA 47 k = 0 := fun k hk => by rw [hhA, p_row_at, len, if_pos hk]
  -- the function P: alarms that stay
  obtain ⟨P, hP⟩ : ∃ P : Nat → Bool, P = fun z => sm_bt (h 48 0) z && decide (100 ≤ h 41 z) := ⟨_, rfl⟩
  have PP : ∀ z, P z = (sm_bt (h 48 0) z && decide (100 ≤ h 41 z)) := fun z => by rw [hP]
  have VA : p_V 40 p Z D F R hA (h 115) := V.rows (fun i hi => fA i (by omega) (by omega)) (fA0 0 (by omega))
  obtain ⟨w, w1, w2⟩ := t_cz (g := h) (h := hA) (P := P) VA (fun z _ => by rw [PP, fA 48 (by omega) (by omega), fA 41 (by omega) (by omega)]) sm_N 0 (hA 48 0) (by unfold sm_N; omega) (by omega) (fun z hz => by rw [if_neg (by omega)])
  have e48 : sm_up hA 48 0 (hA 48 0) = hA := by
    funext a b
    unfold sm_up
    split
    · rename_i v
      rw [v.1, v.2]
    · rfl
  rw [e48] at w1
  have wb : ∀ z, z < 32 → sm_bt w z = if z < Z then P z else sm_bt (h 48 0) z := fun z hz => by rw [w2 z hz, fA 48 (by omega) (by omega)]
  have wz : ∀ z, z < 32 → Z ≤ z → sm_bt w z = false := by
    intro z hz hZ
    rw [wb z hz, if_neg (by omega)]
    cases v : sm_bt (h 48 0) z
    · rfl
    · have := K.2.2.2.1 z hz v
      omega
  have cnt : p_cn (sm_bt w) 16 = p_ck P Z Z := by
    rw [p_cn_up (P := sm_bt w) (d := Z) (fun k hk => by
      by_cases v : k < 32
      · exact wz k v hk
      · exact BitVec.getLsbD_of_ge _ k (by omega)) 16 (by omega), p_cn_ext (Q := P) (fun k hk => by rw [wb k (by omega), if_pos hk]), p_ck_cn P Z Z (Nat.le_refl _), Nat.sub_self]
    exact Nat.zero_add _
  have low : p_lw (sm_bt w) Z Z = p_lw P Z Z := p_lw_ext Z (Nat.le_refl _) (fun z hz => by rw [wb z (by omega), if_pos hz])
  have bc : ∀ g, f_ji_bitCount w g = some (nI (p_ck P Z Z), g) := fun g => by
    rw [t_bits (fun z a b => wz z b (by omega)), cnt]
  -- the class from there on
  have cls : ∀ hC, f_al_silence_L43 48 40 (sm_up hA 48 0 w) = some hC → hC 48 0 = w → f_sc_reset 0 h = some (nI (p_ck P Z Z), hC) := by
    intro hC e1 e2
    unfold f_sc_reset
    refine w_lt ?_
    refine w_bd (e_fill 47 0 _ (by rw [len]; omega)) ?_
    refine w_bd (v := hC) ?_ ?_
    · rw [Nat.zero_add, ← hhA, ← e1, ← w1]
      rfl
    · show sm_b2 (f_ji_bitCount (hC 48 0) hC) _ = _
      rw [e2, bc]
      rfl
  -- the reference
  have ref : ∀ g : sm_H, g 117 = h 117 → g 115 = h 115 → ∃ qA qB : Nat → Int32, f_mo_reset 114 g = f_mo_reset_L137 114 (nI (p_ck P Z Z)) (p_lw P Z Z) (sm_row g 117 qB) ∧ (qA 5 = 0 ∧ qA 6 = 0) ∧ (∀ d, d < D → qA (47 + 7 * d) = 0 ∧ qA (48 + 7 * d) = 0) ∧ (∀ f, f < F → qA (158 + 6 * f) = 0 ∧ qA (159 + 6 * f) = 0) ∧ (∀ m, m ≠ 5 → m ≠ 6 → (∀ d, d < D → m ≠ 47 + 7 * d ∧ m ≠ 48 + 7 * d) → (∀ f, f < F → m ≠ 158 + 6 * f ∧ m ≠ 159 + 6 * f) → qA m = h 117 m) ∧ (∀ z, z < Z → qB (12 + 4 * z) = sm_b2i (P z)) ∧ ∀ m, (∀ z, z < Z → m ≠ 12 + 4 * z) → qB m = qA m := by
    intro g g7 g5
    obtain ⟨qD, u1, u2, u3⟩ := t_rsd (g := g) (q := h 117) (by rw [g5]; exact d2) c3 sm_N 0 (h 117) (by unfold sm_N; omega) (by omega) (fun d hd => by omega) (fun _ _ => rfl)
    obtain ⟨qF, v1, v2, v3⟩ := t_rsf (g := g) (q := qD) (by rw [g5]; exact f2) c4 sm_N 0 qD (by unfold sm_N; omega) (by omega) (fun d hd => by omega) (fun _ _ => rfl)
    have ru : ∀ (q : Nat → Int32) k v, sm_up (sm_row g 117 q) 117 k v = sm_row g 117 (upd q k v) := fun q k v => p_row_up
    have Q4 : ∀ m, m ≠ 5 → m ≠ 6 → (∀ d, d < D → m ≠ 47 + 7 * d ∧ m ≠ 48 + 7 * d) → (∀ f, f < F → m ≠ 158 + 6 * f ∧ m ≠ 159 + 6 * f) → upd (upd qF 5 0) 6 0 m = h 117 m := fun m m1 m2 m3 m4 => by
      rw [p_ud_off m2, p_ud_off m1, v3 m m4, u3 m m3]
    obtain ⟨qB, k1, k2, k3⟩ := t_rz (g := g) (q := upd (upd qF 5 0) 6 0) c2 P (al := sm_bt (h 48 0)) (fun z hz => by
      rw [Q4 _ (by omega) (by omega) (fun d hd => by omega) (fun f hf => by omega)]
      exact S.2.1 8 0 z _ (w_al hz)) (fun z hz => by
      rw [PP, Q4 (10 + 4 * z) (by omega) (by omega) (fun d hd => by omega) (fun f hf => by omega), show h 41 z = h 117 (10 + 4 * z) from S.1 1 z _ (q_smoke hz)]) sm_N Z (upd (upd qF 5 0) 6 0) (by unfold sm_N; omega) (by omega) (fun z a b => by omega) (fun _ _ => rfl)
    rw [Nat.sub_self] at k1
    refine ⟨upd (upd qF 5 0) 6 0, qB, ?_, ⟨by rw [p_ud_off (by omega), p_ud_at], p_ud_at⟩, fun d hd => ?_, fun f hf => ?_, Q4, k2, k3⟩
    · rw [← k1]
      unfold f_mo_reset
      have eg : g = sm_row g 117 (h 117) := by rw [← g7]; exact (p_row_self _ _).symm
      refine Eq.trans (show f_mo_reset_L2 sm_N 114 0 g = f_mo_reset_L2 sm_N 114 (nI 0) (sm_row g 117 (h 117)) by rw [← eg]; rfl) (u1.trans ?_)
      unfold f_mo_reset_L33
      refine Eq.trans (show f_mo_reset_L35 sm_N 114 0 (sm_row g 117 qD) = f_mo_reset_L35 sm_N 114 (nI 0) (sm_row g 117 qD) from rfl) (v1.trans ?_)
      unfold f_mo_reset_L65
      rw [s_j5]
      refine w_lt ?_
      rw [s_j6]
      refine w_lt ?_
      rw [s_i0]
      refine w_lt ?_
      rw [s_c5, s_c6, s_c0, show (114 + 3 : Nat) = 117 from rfl, ru, ru, show sm_row g 117 (upd (upd qF 5 0) 6 0) (114 + 1) 0 = nI Z by rw [p_row_off (by omega), g5]; exact z2]
      rfl
    · rw [p_ud_off (by omega), p_ud_off (by omega), p_ud_off (by omega), p_ud_off (by omega), v3 _ (fun f hf => by omega), v3 _ (fun f hf => by omega)]
      exact u2 d hd
    · rw [p_ud_off (by omega), p_ud_off (by omega), p_ud_off (by omega), p_ud_off (by omega)]
      exact v2 f hf
  -- the relation at the end
  have done : ∀ (hC g' : sm_H) (qA qC : Nat → Int32), ((qA 5 = 0 ∧ qA 6 = 0) ∧ (∀ d, d < D → qA (47 + 7 * d) = 0 ∧ qA (48 + 7 * d) = 0) ∧ (∀ f, f < F → qA (158 + 6 * f) = 0 ∧ qA (159 + 6 * f) = 0) ∧ (∀ m, m ≠ 5 → m ≠ 6 → (∀ d, d < D → m ≠ 47 + 7 * d ∧ m ≠ 48 + 7 * d) → (∀ f, f < F → m ≠ 158 + 6 * f ∧ m ≠ 159 + 6 * f) → qA m = h 117 m)) → (∀ i, i ≠ 48 → hC i = hA i) → hC 48 0 = w → hC 48 1 = h 48 1 → (hC 48 2 = qC 7 ∧ hC 48 3 = qC 8) → (∀ z, z < Z → qC (12 + 4 * z) = sm_b2i (P z)) → (∀ m, m ≠ 7 → m ≠ 8 → (∀ z, z < Z → m ≠ 12 + 4 * z) → qC m = qA m) → ((qC 7 = -1 ∧ w = 0) ∨ ∃ z, z < Z ∧ qC 7 = nI z ∧ sm_bt w z = true) → p_R0 (j + 6) p Z D F R (sm_row hC 117 qC) := by
    intro hC g' qA qC ⟨b1, b2, b3, b4⟩ e1 e2 e3 e4 e5 e6 e7
    have S1 := S.rst1 (s := 40) C (h' := hA) (q' := qA) fA0 fA8 fA7 (fun o o1 o2 o3 => fA _ (by omega) (by omega)) b1 b2 b3 b4
    have S2 := S1.rst2 (s := 40) C (h' := hC) (q' := qC) (fun o o1 o2 => e1 _ (by omega)) (by rw [show (40 + 8 : Nat) = 48 from rfl, e3, fA 48 (by omega) (by omega)]) (fun z hz => by rw [e5 z hz, show (40 + 8 : Nat) = 48 from rfl, e2, wb z (by omega), if_pos hz]) e4 e6
    have cell : ∀ m, m = 0 ∨ m = 1 ∨ m = 2 ∨ (42 ≤ m ∧ m < 200) → (∀ d, d < D → m ≠ 47 + 7 * d ∧ m ≠ 48 + 7 * d) → (∀ f, f < F → m ≠ 158 + 6 * f ∧ m ≠ 159 + 6 * f) → qC m = h 117 m := fun m hm hd hf => by
      rw [e6 m (by omega) (by omega) (fun z hz => by omega), b4 m (by omega) (by omega) hd hf]
    have r117 : hC 117 = h 117 := by rw [e1 117 (by omega), fA 117 (by omega) (by omega)]
    refine G.step ⟨fun i hi => by rw [p_row_off (by omega), e1 i (by omega), fA i (by omega) (by omega)], fun k hk => by rw [p_row_off (by omega), e1 114 (by omega), fA 114 (by omega) (by omega)]⟩ (by rw [p_row_off (by omega), e1 40 (by omega), fA0 0 (by omega)]; exact G.2.1) ?_
    rw [p_row_at]
    obtain ⟨k1, k2, k3, k4, k5, k6⟩ := K
    refine p_SO.mono ⟨t, S2.rows (fun o ho => p_row_off (by omega)), ?_, ⟨x, x1, ?_, x3⟩, fun d hd => ?_, fun f hf => ?_, fun z hz hb => ?_, fun z hz hb => ?_, ?_⟩
    · rw [cell 1 (by omega) (fun d hd => by omega) (fun f hf => by omega), cell 2 (by omega) (fun d hd => by omega) (fun f hf => by omega)]
      exact k1
    · rw [cell 0 (by omega) (fun d hd => by omega) (fun f hf => by omega)]
      exact x2
    · rw [cell (42 + 7 * d) (by omega) (fun e he => by omega) (fun f hf => by omega), cell (44 + 7 * d) (by omega) (fun e he => by omega) (fun f hf => by omega), cell (45 + 7 * d) (by omega) (fun e he => by omega) (fun f hf => by omega)]
      exact k2 d hd
    · rw [cell (154 + 6 * f) (by omega) (fun e he => by omega) (fun f hf => by omega), cell (156 + 6 * f) (by omega) (fun e he => by omega) (fun f hf => by omega), cell (157 + 6 * f) (by omega) (fun e he => by omega) (fun f hf => by omega)]
      exact k3 f hf
    · rw [p_row_off (by omega), show (40 + 8 : Nat) = 48 from rfl, e2] at hb
      by_cases v : z < Z
      · exact v
      · rw [wz z hz (by omega)] at hb
        cases hb
    · rw [p_row_off (by omega), e1 40 (by omega), fA8, sm_bt0] at hb
      cases hb
    · rw [p_row_off (by omega), show (40 + 8 : Nat) = 48 from rfl, e2]
      exact e7
  -- which first alarm zone
  have hB2 : sm_up hA 48 0 w 48 2 = h 117 7 := by
    rw [sm_up_off (by omega), fA 48 (by omega) (by omega)]
    exact S.1 8 2 7 q_first
  have hB3 : sm_up hA 48 0 w 48 3 = h 117 8 := by
    rw [sm_up_off (by omega), fA 48 (by omega) (by omega)]
    exact S.1 8 3 8 q_since
  have hB0 : sm_up hA 48 0 w 48 0 = w := p_up_at
  have hB1 : sm_up hA 48 0 w 48 1 = h 48 1 := by rw [sm_up_off (by omega), fA 48 (by omega) (by omega)]
  have hBf : ∀ i, i ≠ 48 → sm_up hA 48 0 w i = hA i := fun i hi => sm_up_ne _ _ _ _ _ hi
  have f117 : ∀ hC : sm_H, (∀ i, i ≠ 48 → hC i = hA i) → hC 117 = h 117 ∧ hC 115 = h 115 := fun hC e => ⟨by rw [e 117 (by omega), fA 117 (by omega) (by omega)], by rw [e 115 (by omega), fA 115 (by omega) (by omega)]⟩
  have r117 : ∀ (g : sm_H) q', sm_row g 117 q' 117 = q' := fun g q' => p_row_at
  have ru : ∀ (g : sm_H) (q : Nat → Int32) k v, sm_up (sm_row g 117 q) 117 k v = sm_row g 117 (upd q k v) := fun g q k v => p_row_up
  rcases K.2.2.2.2.2 with ⟨y1, y2⟩ | ⟨z0, y1, y2, y3⟩
  · -- no alarm
    have y2' : h 48 0 = 0 := y2
    have w0 : w = 0 := sm_bt_ext (fun z hz => by
      rw [sm_bt0, wb z hz, PP, y2', sm_bt0]
      simp)
    obtain ⟨qA, qB, m1, m2, m3, m4, m5, m6, m7⟩ := ref _ (f117 _ hBf).1 (f117 _ hBf).2
    have q7 : qB 7 = h 117 7 := by rw [m7 7 (fun z hz => by omega), m5 7 (by omega) (by omega) (fun d hd => by omega) (fun f hf => by omega)]
    have q8 : qB 8 = h 117 8 := by rw [m7 8 (fun z hz => by omega), m5 8 (by omega) (by omega) (fun d hd => by omega) (fun f hf => by omega)]
    refine ⟨nI (p_ck P Z Z), sm_up hA 48 0 w, sm_row (sm_up hA 48 0 w) 117 qB, cls _ ?_ hB0, ?_, p, Z, D, F, R, done _ h qA qB ⟨m2, m3, m4, m5⟩ hBf hB0 hB1 ⟨by rw [hB2, q7], by rw [hB3, q8]⟩ m6 (fun m _ _ hm => m7 m hm) (Or.inl ⟨by rw [q7]; exact y1, w0⟩)⟩
    · unfold f_al_silence_L43
      rw [if_pos (by rw [hB2, y1]; decide)]
    · rw [m1]
      unfold f_mo_reset_L137 f_mo_reset_L167 f_mo_reset_L168 f_mo_reset_L194
      rw [s_j7, s_c7, show sm_row (sm_up hA 48 0 w) 117 qB (114 + 3) 7 = -1 by rw [r117, q7]; exact y1, if_pos rfl, if_pos rfl]
  · have hz8 : z0 < 8 := by omega
    have cl : f_al_silence_L43 48 40 (sm_up hA 48 0 w) = if P z0 = true then some (sm_up hA 48 0 w) else some (sm_up (sm_up (sm_up hA 48 0 w) 48 2 (p_lw P Z Z)) 48 3 (h 40 1)) := by
      have i0 : sm_up hA 48 0 w 40 0 = nI p := by rw [hBf 40 (by omega), fA0 0 (by omega)]; exact G.2.1
      obtain ⟨j1, j2⟩ := p_isPp G.1
      unfold f_al_silence_L43
      rw [hB2, y2, if_neg (nI_pos (by omega)), hB0, e_has _ _ _ (by omega)]
      refine w_b2 rfl ?_
      rw [wb z0 (by omega), if_pos y1]
      cases P z0
      · rw [if_pos s_bf, if_neg (by decide), i0, j1, s_true, j2]
        refine w_lt ?_
        have zz : sm_up hA 48 0 w p 0 = nI Z := by
          rw [hBf p (by omega), fA p (by omega) (by omega)]
          exact V.2.2.2.2.1.1
        rw [zz]
        have lo := t_low (Z := Z) (h := sm_up hA 48 0 w) (w := w) c2 hB0 sm_N Z (by unfold sm_N; omega) (Nat.le_refl _)
        rw [Nat.sub_self, low] at lo
        refine w_b2 (show f_al_lowest 48 (nI Z) (sm_up hA 48 0 w) = some (p_lw P Z Z, sm_up hA 48 0 w) from lo) ?_
        refine w_lt ?_
        refine w_lt ?_
        rw [show sm_up (sm_up hA 48 0 w) 48 2 (p_lw P Z Z) 40 1 = h 40 1 by rw [sm_up_ne _ _ _ _ _ (by omega), hBf 40 (by omega), fA0 1 (by omega)]]
      · rw [if_neg s_bt, if_pos rfl]
    cases hPz : P z0
    · -- it goes off
      have f3 : ∀ i, i ≠ 48 → sm_up (sm_up (sm_up hA 48 0 w) 48 2 (p_lw P Z Z)) 48 3 (h 40 1) i = hA i := fun i hi => by rw [sm_up_ne _ _ _ _ _ hi, sm_up_ne _ _ _ _ _ hi, hBf i hi]
      obtain ⟨qA, qB, m1, m2, m3, m4, m5, m6, m7⟩ := ref _ (f117 _ f3).1 (f117 _ f3).2
      have q7 : qB 7 = h 117 7 := by rw [m7 7 (fun z hz => by omega), m5 7 (by omega) (by omega) (fun d hd => by omega) (fun f hf => by omega)]
      have q0 : qB 0 = h 117 0 := by rw [m7 0 (fun z hz => by omega), m5 0 (by omega) (by omega) (fun d hd => by omega) (fun f hf => by omega)]
      have et : h 40 1 = h 117 0 := S.1 0 1 0 q_time
      refine ⟨nI (p_ck P Z Z), _, _, cls _ (by rw [cl, hPz, if_neg (by decide)]) (by rw [sm_up_off (by omega), sm_up_off (by omega)]; exact hB0), ?_, p, Z, D, F, R, done _ h qA (upd (upd qB 7 (p_lw P Z Z)) 8 (h 117 0)) ⟨m2, m3, m4, m5⟩ f3 (by rw [sm_up_off (by omega), sm_up_off (by omega)]; exact hB0) (by rw [sm_up_off (by omega), sm_up_off (by omega)]; exact hB1) ⟨by rw [sm_up_off (by omega), p_up_at, p_ud_off (by omega), p_ud_at], by rw [p_up_at, p_ud_at, et]⟩ (fun z hz => by rw [p_ud_off (by omega), p_ud_off (by omega)]; exact m6 z hz) (fun m n1 n2 hm => by rw [p_ud_off n2, p_ud_off n1]; exact m7 m hm) ?_⟩
      · rw [m1]
        unfold f_mo_reset_L137 f_mo_reset_L168 f_mo_reset_L194
        have e7 : ∀ g : sm_H, sm_row g 117 qB (114 + 3) 7 = nI z0 := fun g => by rw [r117, q7]; exact y2
        rw [s_j7, s_c7, e7, if_neg (p_m1 (by omega)), s_j7, e_zI2 hz8, r117, m6 z0 y1, hPz]
        refine w_b2 rfl ?_
        rw [if_pos s_bf, if_neg (by decide), s_j7]
        refine w_lt ?_
        rw [s_j0, s_j8]
        refine w_lt ?_
        rw [s_c0, s_c8, show (114 + 3 : Nat) = 117 from rfl, ru, ru, r117, p_ud_off (by omega), q0]
      · rw [p_ud_off (by omega), p_ud_at]
        rcases p_lw_or P Z Z (Nat.le_refl _) with ⟨a, b⟩ | ⟨z, a, b, c⟩
        · refine Or.inl ⟨a, sm_bt_ext (fun z hz => ?_)⟩
          rw [sm_bt0]
          by_cases v : z < Z
          · rw [wb z hz, if_pos v]
            exact b z (by omega) v
          · exact wz z hz (by omega)
        · exact Or.inr ⟨z, a, b, by rw [wb z (by omega), if_pos a]; exact c⟩
    · -- it stays
      obtain ⟨qA, qB, m1, m2, m3, m4, m5, m6, m7⟩ := ref _ (f117 _ hBf).1 (f117 _ hBf).2
      have q7 : qB 7 = h 117 7 := by rw [m7 7 (fun z hz => by omega), m5 7 (by omega) (by omega) (fun d hd => by omega) (fun f hf => by omega)]
      have q8 : qB 8 = h 117 8 := by rw [m7 8 (fun z hz => by omega), m5 8 (by omega) (by omega) (fun d hd => by omega) (fun f hf => by omega)]
      refine ⟨nI (p_ck P Z Z), sm_up hA 48 0 w, sm_row (sm_up hA 48 0 w) 117 qB, cls _ (by rw [cl, hPz, if_pos rfl]) hB0, ?_, p, Z, D, F, R, done _ h qA qB ⟨m2, m3, m4, m5⟩ hBf hB0 hB1 ⟨by rw [hB2, q7], by rw [hB3, q8]⟩ m6 (fun m _ _ hm => m7 m hm) (Or.inr ⟨z0, y1, by rw [q7]; exact y2, by rw [wb z0 (by omega), if_pos y1]; exact hPz⟩)⟩
      rw [m1]
      unfold f_mo_reset_L137 f_mo_reset_L167 f_mo_reset_L168 f_mo_reset_L194
      have e7 : ∀ g : sm_H, sm_row g 117 qB (114 + 3) 7 = nI z0 := fun g => by rw [r117, q7]; exact y2
      rw [s_j7, s_c7, e7, if_neg (p_m1 (by omega)), s_j7, e_zI2 hz8, r117, m6 z0 y1, hPz]
      refine w_b2 rfl ?_
      rw [if_neg s_bt, if_pos rfl]
end p_reset2
