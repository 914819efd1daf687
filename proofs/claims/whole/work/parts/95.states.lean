-- LOAD: A NEW STATE, both sides; the plan copied
def n_S0 (p D : Nat) (h0 h : sm_H) : Prop := (h 40 0 = nI p ∧ h 40 1 = 0 ∧ h 40 2 = 0 ∧ h 40 3 = 0 ∧ h 40 4 = 100 ∧ h 40 5 = 0 ∧ h 40 6 = 0 ∧ h 40 7 = 0 ∧ h 40 8 = 0) ∧ (∀ k, k < 8 → h 41 k = 0 ∧ h 42 k = 0) ∧ (∀ k, k < 23 → h 44 k = 0 ∧ h 45 k = 0 ∧ h 46 k = 0 ∧ h 47 k = 0) ∧ (∀ k, k < D → h 43 k = if sm_bt (h0 p 6) k = true then h0 (p + 2) k else 0) ∧ (∀ k, D ≤ k → k < 23 → h 43 k = 0) ∧ (h 48 0 = 0 ∧ h 48 1 = 0 ∧ h 48 2 = -1 ∧ h 48 3 = 0) ∧ h 49 0 = 0
def n_Q0 (D : Nat) (w q : Nat → Int32) : Prop := q 2 = 100 ∧ q 7 = -1 ∧ (∀ d, d < D → q (42 + 7 * d) = (if w (13 + 4 * d) = 1 then w (12 + 4 * d) else 0) ∧ q (46 + 7 * d) = -1) ∧ ∀ k, k < 350 → k ≠ 2 → k ≠ 7 → (∀ d, d < D → k ≠ 42 + 7 * d ∧ k ≠ 46 + 7 * d) → q k = 0
section n_sts
variable {b : Nat → Nat} {L T p D i j Z F R N K A : Nat} {g h0 h h' : sm_H} {u q w : Nat → Int32}
theorem n_stb (hp : p = 1 ∨ p = 24) (hD : D ≤ 16) (h1 : h p 1 = nI D) : ∃ h', f_st_begin 40 p h = some h' ∧ (∀ r, r < 40 ∨ 49 < r → h' r = h r) ∧ n_S0 p D h h' := by
  obtain ⟨gA, hgA⟩ : ∃ gA, gA = sm_up (sm_up (sm_up (sm_up (sm_up (sm_up (sm_up (sm_up (sm_up h 40 0 (nI p)) 40 1 0) 40 2 0) 40 3 0) 40 4 100) 40 5 0) 40 6 0) 40 7 0) 40 8 0 := ⟨_, rfl⟩
  have a40 : ∀ r, r ≠ 40 → gA r = h r := fun r hr => by rw [hgA, sm_up_ne _ _ _ _ _ hr, sm_up_ne _ _ _ _ _ hr, sm_up_ne _ _ _ _ _ hr, sm_up_ne _ _ _ _ _ hr, sm_up_ne _ _ _ _ _ hr, sm_up_ne _ _ _ _ _ hr, sm_up_ne _ _ _ _ _ hr, sm_up_ne _ _ _ _ _ hr, sm_up_ne _ _ _ _ _ hr]
  have z0 : gA 40 0 = nI p := by rw [hgA, sm_up_off (by omega), sm_up_off (by omega), sm_up_off (by omega), sm_up_off (by omega), sm_up_off (by omega), sm_up_off (by omega), sm_up_off (by omega), sm_up_off (by omega), p_up_at]
  have z1 : gA 40 1 = 0 := by rw [hgA, sm_up_off (by omega), sm_up_off (by omega), sm_up_off (by omega), sm_up_off (by omega), sm_up_off (by omega), sm_up_off (by omega), sm_up_off (by omega), p_up_at]
  have z2 : gA 40 2 = 0 := by rw [hgA, sm_up_off (by omega), sm_up_off (by omega), sm_up_off (by omega), sm_up_off (by omega), sm_up_off (by omega), sm_up_off (by omega), p_up_at]
  have z3 : gA 40 3 = 0 := by rw [hgA, sm_up_off (by omega), sm_up_off (by omega), sm_up_off (by omega), sm_up_off (by omega), sm_up_off (by omega), p_up_at]
  have z4 : gA 40 4 = 100 := by rw [hgA, sm_up_off (by omega), sm_up_off (by omega), sm_up_off (by omega), sm_up_off (by omega), p_up_at]
  have z5 : gA 40 5 = 0 := by rw [hgA, sm_up_off (by omega), sm_up_off (by omega), sm_up_off (by omega), p_up_at]
  have z6 : gA 40 6 = 0 := by rw [hgA, sm_up_off (by omega), sm_up_off (by omega), p_up_at]
  have z7 : gA 40 7 = 0 := by rw [hgA, sm_up_off (by omega), p_up_at]
  have z8 : gA 40 8 = 0 := by rw [hgA, p_up_at]
  obtain ⟨g1, b1, b2, b3⟩ := n_fl (a := 41) (n := 8) (by decide +kernel) (by decide) gA
  obtain ⟨g2, c1, c2, c3⟩ := n_fl (a := 42) (n := 8) (by decide +kernel) (by decide) g1
  obtain ⟨g3, d1, d2, d3⟩ := n_fl (a := 43) (n := 23) (by decide +kernel) (by decide) g2
  obtain ⟨g4, e1, e2, e3⟩ := n_fl (a := 44) (n := 23) (by decide +kernel) (by decide) g3
  obtain ⟨g5, i1, i2, i3⟩ := n_fl (a := 45) (n := 23) (by decide +kernel) (by decide) g4
  obtain ⟨g6, j1, j2, j3⟩ := n_fl (a := 46) (n := 23) (by decide +kernel) (by decide) g5
  obtain ⟨g7, k1, k2, k3⟩ := n_fl (a := 47) (n := 23) (by decide +kernel) (by decide) g6
  obtain ⟨g8, hg8⟩ : ∃ g8, g8 = sm_up (sm_up (sm_up (sm_up g7 48 0 0) 48 1 0) 48 2 (-1)) 48 3 0 := ⟨_, rfl⟩
  have a48 : ∀ r, r ≠ 48 → g8 r = g7 r := fun r hr => by rw [hg8, sm_up_ne _ _ _ _ _ hr, sm_up_ne _ _ _ _ _ hr, sm_up_ne _ _ _ _ _ hr, sm_up_ne _ _ _ _ _ hr]
  have y0 : g8 48 0 = 0 := by rw [hg8, sm_up_off (by omega), sm_up_off (by omega), sm_up_off (by omega), p_up_at]
  have y1 : g8 48 1 = 0 := by rw [hg8, sm_up_off (by omega), sm_up_off (by omega), p_up_at]
  have y2 : g8 48 2 = -1 := by rw [hg8, sm_up_off (by omega), p_up_at]
  have y3 : g8 48 3 = 0 := by rw [hg8, p_up_at]
  obtain ⟨g9, hg9⟩ : ∃ g9, g9 = sm_up g8 49 0 0 := ⟨_, rfl⟩
  have a49 : ∀ r, r ≠ 49 → g9 r = g8 r := fun r hr => by rw [hg9, sm_up_ne _ _ _ _ _ hr]
  have low : ∀ r, r < 41 ∨ 49 < r → g9 r = gA r := fun r hr => by rw [a49 r (by omega), a48 r (by omega), k3 r (by omega), j3 r (by omega), i3 r (by omega), e3 r (by omega), d3 r (by omega), c3 r (by omega), b3 r (by omega)]
  obtain ⟨h', l1, l2, l3, l4⟩ := n_stl (D := D) hp hD sm_N 0 g9 (by unfold sm_N; omega) (Nat.zero_le _) (by rw [low 40 (by omega)]; exact z0) (by rw [low p (by omega), a40 p (by omega)]; exact h1)
  rw [low p (by omega), low (p + 2) (by omega), a40 p (by omega), a40 (p + 2) (by omega)] at l3
  refine ⟨h', ?_, fun r hr => by rw [l2 r (by omega), low r (by omega), a40 r (by omega)], ⟨?_, ?_, ?_, ?_, ?_, ?_, ?_, ?_, ?_⟩, fun k hk => ⟨?_, ?_⟩, fun k hk => ⟨?_, ?_, ?_, ?_⟩, fun k hk => l3 k (Nat.zero_le _) hk, fun k hk hk2 => ?_, ⟨?_, ?_, ?_, ?_⟩, ?_⟩
  · unfold f_st_begin
    refine w_lt ?_
    refine w_lt ?_
    refine w_lt ?_
    refine w_lt ?_
    refine w_lt ?_
    refine w_lt ?_
    refine w_lt ?_
    refine w_lt ?_
    refine w_lt ?_
    rw [← hgA]
    refine w_bd b1 ?_
    refine w_bd c1 ?_
    refine w_bd d1 ?_
    refine w_bd e1 ?_
    refine w_bd i1 ?_
    refine w_bd j1 ?_
    refine w_bd k1 ?_
    refine w_bd (v := g8) ?_ ?_
    · unfold f_al_begin
      refine w_lt ?_
      refine w_lt ?_
      refine w_lt ?_
      refine w_lt ?_
      rw [hg8]
    · refine w_lt ?_
      rw [← hg9]
      exact l1
  · rw [l2 40 (by omega), low 40 (by omega)]; exact z0
  · rw [l2 40 (by omega), low 40 (by omega)]; exact z1
  · rw [l2 40 (by omega), low 40 (by omega)]; exact z2
  · rw [l2 40 (by omega), low 40 (by omega)]; exact z3
  · rw [l2 40 (by omega), low 40 (by omega)]; exact z4
  · rw [l2 40 (by omega), low 40 (by omega)]; exact z5
  · rw [l2 40 (by omega), low 40 (by omega)]; exact z6
  · rw [l2 40 (by omega), low 40 (by omega)]; exact z7
  · rw [l2 40 (by omega), low 40 (by omega)]; exact z8
  · rw [l2 41 (by omega), a49 41 (by omega), a48 41 (by omega), k3 41 (by omega), j3 41 (by omega), i3 41 (by omega), e3 41 (by omega), d3 41 (by omega), c3 41 (by omega)]; exact b2 k hk
  · rw [l2 42 (by omega), a49 42 (by omega), a48 42 (by omega), k3 42 (by omega), j3 42 (by omega), i3 42 (by omega), e3 42 (by omega), d3 42 (by omega)]; exact c2 k hk
  · rw [l2 44 (by omega), a49 44 (by omega), a48 44 (by omega), k3 44 (by omega), j3 44 (by omega), i3 44 (by omega)]; exact e2 k hk
  · rw [l2 45 (by omega), a49 45 (by omega), a48 45 (by omega), k3 45 (by omega), j3 45 (by omega)]; exact i2 k hk
  · rw [l2 46 (by omega), a49 46 (by omega), a48 46 (by omega), k3 46 (by omega)]; exact j2 k hk
  · rw [l2 47 (by omega), a49 47 (by omega), a48 47 (by omega)]; exact k2 k hk
  · rw [l4 k (by omega), a49 43 (by omega), a48 43 (by omega), k3 43 (by omega), j3 43 (by omega), i3 43 (by omega), e3 43 (by omega)]; exact d2 k hk2
  · rw [l2 48 (by omega), a49 48 (by omega)]; exact y0
  · rw [l2 48 (by omega), a49 48 (by omega)]; exact y1
  · rw [l2 48 (by omega), a49 48 (by omega)]; exact y2
  · rw [l2 48 (by omega), a49 48 (by omega)]; exact y3
  · rw [l2 49 (by omega), hg9, p_up_at]
-- the reference's state begins
theorem n_mob2 : ∀ n i q, 350 - i < n → i ≤ 350 → ∃ q', f_mo_begin_L2 n 114 (nI i) (sm_row g 117 q) = f_mo_begin_L22 114 (sm_row g 117 q') ∧ (∀ k, i ≤ k → k < 350 → q' k = 0) ∧ ∀ k, k < i → q' k = q k := by
  intro n
  induction n with
  | zero => intro i q z; omega
  | succ n ih =>
    intro i q a1 a2
    by_cases y : i = 350
    · refine ⟨q, ?_, fun k _ _ => by omega, fun k _ => rfl⟩
      show (if 350 ≤ nI i then _ else _) = _
      rw [if_pos (show (350 : Int32) ≤ nI i from nI_le (a := 350) (by omega) (by omega))]
    · obtain ⟨q', b1, b2, b3⟩ := ih (i + 1) (upd q i 0) (by omega) (by omega)
      refine ⟨q', ?_, fun k k1 k2 => ?_, fun k hk => by rw [b3 k (by omega), p_ud_off (by omega)]⟩
      · obtain ⟨Rr, hR⟩ : ∃ Rr, Rr = f_mo_begin_L22 114 (sm_row g 117 q') := ⟨_, rfl⟩
        rw [← hR] at b1 ⊢
        show (if 350 ≤ nI i then _ else _) = _
        rw [if_neg (show ¬ (350 : Int32) ≤ nI i from nI_ge (b := 350) (by omega) (by omega)), sm_gd_t (sm_inb_nI (k := i) (n := 350) (by omega) (by omega)), nI_clamp (n := i) (by omega), show (114 + 3 : Nat) = 117 from rfl, p_row_up, nI_1]
        refine w_lt ?_
        refine w_lt ?_
        exact b1
      · by_cases x : k = i
        · rw [x, b3 i (by omega), p_ud_at]
        · exact b2 k (by omega) k2
theorem n_mob4 (h1 : g 115 1 = nI D) (hD : D ≤ 16) : ∀ n i q, D - i < n → i ≤ D → ∃ q', f_mo_begin_L40 n 114 (nI i) (sm_row g 117 q) = f_mo_begin_L89 114 (sm_row g 117 q') ∧ (∀ d, i ≤ d → d < D → q' (42 + 7 * d) = (if g 115 (13 + 4 * d) = 1 then g 115 (12 + 4 * d) else 0) ∧ q' (46 + 7 * d) = -1) ∧ ∀ k, (∀ d, i ≤ d → d < D → k ≠ 42 + 7 * d ∧ k ≠ 46 + 7 * d) → q' k = q k := by
  intro n
  induction n with
  | zero => intro i q z; omega
  | succ n ih =>
    intro i q a1 a2
    by_cases y : i = D
    · refine ⟨q, ?_, fun d _ _ => by omega, fun k _ => rfl⟩
      show sm_gd (sm_inb 1 1268) (if sm_row g 117 q (114 + 1) (1 : Int32).toNatClampNeg ≤ nI i then _ else _) = _
      rw [s_i1, s_c1, p_row_off (by decide), h1, if_pos (nI_le (by omega) (by omega))]
    · have hi : i < 16 := by omega
      obtain ⟨q', b1, b2, b3⟩ := ih (i + 1) (upd (upd q (42 + 7 * i) (if g 115 (13 + 4 * i) = 1 then g 115 (12 + 4 * i) else 0)) (46 + 7 * i) (-1)) (by omega) (by omega)
      refine ⟨q', ?_, fun d d1 d2 => ?_, fun k hk => ?_⟩
      · have F : ∀ v, v = (if g 115 (13 + 4 * i) = 1 then g 115 (12 + 4 * i) else 0) → f_mo_begin_L73 (f_mo_begin_L40 n) 114 (nI i) v 0 (nI i) 114 (sm_row g 117 q) = f_mo_begin_L89 114 (sm_row g 117 q') := by
          intro v hv
          obtain ⟨Rr, hR⟩ : ∃ Rr, Rr = f_mo_begin_L89 114 (sm_row g 117 q') := ⟨_, rfl⟩
          rw [← hR] at b1 ⊢
          unfold f_mo_begin_L73
          refine w_bd (e_pD0 hi v g q) ?_
          refine w_bd (e_pD4 hi (-1) g _) ?_
          rw [nI_1, hv]
          refine w_lt ?_
          exact b1
        obtain ⟨Rr, hR⟩ : ∃ Rr, Rr = f_mo_begin_L89 114 (sm_row g 117 q') := ⟨_, rfl⟩
        rw [← hR] at F ⊢
        show sm_gd (sm_inb 1 1268) (if sm_row g 117 q (114 + 1) (1 : Int32).toNatClampNeg ≤ nI i then _ else _) = _
        rw [s_i1, s_c1, p_row_off (by decide), h1, if_neg (nI_ge (by omega) (by omega))]
        refine w_b2 (e_dO3 hi _) ?_
        rw [p_row_off (by decide)]
        by_cases x : g 115 (13 + 4 * i) = 1
        · rw [if_pos x]
          refine w_b2 (e_dO2 hi _) ?_
          rw [p_row_off (by decide)]
          exact F _ (by rw [if_pos x])
        · rw [if_neg x]
          exact F _ (by rw [if_neg x])
      · by_cases x : d = i
        · rw [x, b3 (42 + 7 * i) (fun d' e1 e2 => ⟨by omega, by omega⟩), b3 (46 + 7 * i) (fun d' e1 e2 => ⟨by omega, by omega⟩), p_ud_at, p_ud_off (by omega), p_ud_at]
          exact ⟨rfl, rfl⟩
        · exact b2 d (by omega) d2
      · have := hk i (by omega) (by omega)
        rw [b3 k (fun d e1 e2 => hk d (by omega) e2), p_ud_off this.2, p_ud_off this.1]
theorem n_mob (h1 : g 115 1 = nI D) (hD : D ≤ 16) : ∃ h', f_mo_begin 114 g = some h' ∧ (∀ r, r ≠ 117 → r ≠ 114 → h' r = g r) ∧ (h' 114 5 = 0 ∧ h' 114 6 = 0 ∧ h' 114 7 = 0) ∧ (∀ k, k ≠ 5 → k ≠ 6 → k ≠ 7 → h' 114 k = g 114 k) ∧ n_Q0 D (g 115) (h' 117) := by
  have self : sm_row g 117 (g 117) = g := by
    funext r
    by_cases y : r = 117
    · rw [y, p_row_at]
    · rw [p_row_off y]
  obtain ⟨qa, a1, a2, -⟩ := n_mob2 (g := g) sm_N 0 (g 117) (by unfold sm_N; omega) (by omega)
  obtain ⟨qb, b1, b2, b3⟩ := n_mob4 h1 hD sm_N 0 (upd (upd qa 2 100) 7 (-1)) (by unfold sm_N; omega) (Nat.zero_le _)
  refine ⟨sm_up (sm_up (sm_up (sm_row g 117 qb) 114 5 0) 114 6 0) 114 7 0, ?_, fun r r1 r2 => ?_, ⟨?_, ?_, p_up_at⟩, fun k k1 k2 k3 => ?_, ?_⟩
  · have := a1
    rw [self] at this
    unfold f_mo_begin
    refine this.trans ?_
    unfold f_mo_begin_L22
    rw [s_j2, s_c2, show (114 + 3 : Nat) = 117 from rfl, p_row_up]
    refine w_lt ?_
    rw [s_j7, s_c7, p_row_up]
    refine w_lt ?_
    refine b1.trans ?_
    unfold f_mo_begin_L89
    refine w_lt ?_
    refine w_lt ?_
    refine w_lt ?_
    rfl
  · rw [sm_up_ne _ _ _ _ _ r2, sm_up_ne _ _ _ _ _ r2, sm_up_ne _ _ _ _ _ r2, p_row_off r1]
  · rw [sm_up_off (by omega), sm_up_off (by omega), p_up_at]
  · rw [sm_up_off (by omega), p_up_at]
  · rw [sm_up_off (by omega), sm_up_off (by omega), sm_up_off (by omega), p_row_off (by decide)]
  · rw [sm_up_ne _ _ _ _ _ (by decide), sm_up_ne _ _ _ _ _ (by decide), sm_up_ne _ _ _ _ _ (by decide), p_row_at]
    refine ⟨?_, ?_, fun d hd => b2 d (Nat.zero_le _) hd, fun k k0 k1 k2 k3 => ?_⟩
    · rw [b3 2 (fun d _ _ => ⟨by omega, by omega⟩), p_ud_off (by decide), p_ud_at]
    · rw [b3 7 (fun d _ _ => ⟨by omega, by omega⟩), p_ud_at]
    · rw [b3 k (fun d _ e => k3 d e), p_ud_off k2, p_ud_off k1]
      exact a2 k (Nat.zero_le _) k0
-- the reference's plan is copied
theorem n_cpy : ∀ n i h, 1268 - i < n → i ≤ 1268 → ∃ h', f_mo_load_L49 n 114 (nI i) h = f_mo_load_L74 114 h' ∧ (∀ r, r ≠ 115 → h' r = h r) ∧ (∀ k, i ≤ k → k < 1268 → h' 115 k = h 116 k) ∧ ∀ k, k < i → h' 115 k = h 115 k := by
  intro n
  induction n with
  | zero => intro i h z; omega
  | succ n ih =>
    intro i h a1 a2
    by_cases y : i = 1268
    · refine ⟨h, ?_, fun _ _ => rfl, fun k _ _ => by omega, fun k _ => rfl⟩
      show (if 1268 ≤ nI i then _ else _) = _
      rw [if_pos (show (1268 : Int32) ≤ nI i from nI_le (a := 1268) (by omega) (by omega))]
    · obtain ⟨h', b1, b2, b3, b4⟩ := ih (i + 1) (sm_up h 115 i (h 116 i)) (by omega) (by omega)
      rw [sm_up_ne _ _ _ _ 116 (by decide)] at b3
      refine ⟨h', ?_, fun r hr => by rw [b2 r hr, sm_up_ne _ _ _ _ _ hr], fun k k1 k2 => ?_, fun k hk => by rw [b4 k (by omega), sm_up_off (by omega)]⟩
      · obtain ⟨Rr, hR⟩ : ∃ Rr, Rr = f_mo_load_L74 114 h' := ⟨_, rfl⟩
        rw [← hR] at b1 ⊢
        show (if 1268 ≤ nI i then _ else _) = _
        rw [if_neg (show ¬ (1268 : Int32) ≤ nI i from nI_ge (b := 1268) (by omega) (by omega)), sm_gd_t (sm_inb_nI (k := i) (n := 1268) (by omega) (by omega)), sm_gd_t (sm_inb_nI (k := i) (n := 1268) (by omega) (by omega)), nI_clamp (n := i) (by omega), nI_1]
        refine w_lt ?_
        refine w_lt ?_
        exact b1
      · by_cases x : k = i
        · rw [x, b4 i (by omega), p_up_at]
        · exact b3 k (by omega) k2
end n_sts
