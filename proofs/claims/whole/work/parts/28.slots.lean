section p_slots
variable {p Z D F R j : Nat} {h : sm_H}
theorem p_keepL {k : Nat} (hk : k < 3) {g : sm_H} : ∀ (n i : Nat) (f : Nat → Int32), 350 - i < n → i ≤ 350 → f_mo_keep_L13 n 114 (nI k) (nI i) (sm_row g 119 f) = f_mo_keep_L44 114 (nI k) (sm_row g 119 (fun m => if 350 * k + i ≤ m ∧ m < 350 * k + 350 then g 117 (m - 350 * k) else f m)) := by
  intro n
  induction n with
  | zero => intro i f h1; omega
  | succ n ih =>
    intro i f h1 h2
    unfold f_mo_keep_L13
    rw [show (350 : Int32) = nI 350 from rfl]
    by_cases z : i = 350
    · rw [if_pos (nI_le (by omega) (by omega))]
      refine congrArg (fun f => f_mo_keep_L44 114 (nI k) (sm_row g 119 f)) (funext fun m => ?_)
      rw [if_neg (by omega)]
    · rw [if_neg (nI_ge (by omega) (by omega))]
      have e : nI 350 * nI k + nI i = nI (350 * k + i) := by rw [nI_mul, nI_add]
      rw [sm_gd_t (sm_inb_nI (by omega) (by omega)), e, sm_gd_t (sm_inb_nI (by omega) (by omega)), nI_clamp (by omega), nI_clamp (by omega)]
      dsimp only [sm_let]
      have e4 : sm_row g 119 f (114 + 3) i = g 117 i := congrFun (p_row_off (i := 119) (j := 117) (by omega)) i
      have e5 : sm_up (sm_row g 119 f) (114 + 5) (350 * k + i) (g 117 i) = sm_row g 119 (upd f (350 * k + i) (g 117 i)) := p_row_up (i := 119)
      rw [e4, e5, nI_1, ih (i + 1) _ (by omega) (by omega)]
      refine congrArg (fun f => f_mo_keep_L44 114 (nI k) (sm_row g 119 f)) (funext fun m => ?_)
      by_cases y : m = 350 * k + i
      · rw [if_neg (by omega), if_pos (by omega), y, p_ud_at]
        congr 1
        omega
      · rw [p_ud_off y]
        by_cases x : 350 * k + (i + 1) ≤ m ∧ m < 350 * k + 350
        · rw [if_pos x, if_pos (by omega)]
        · rw [if_neg x, if_neg (by omega)]
theorem p_restL {k : Nat} (hk : k < 3) {g : sm_H} : ∀ (n i : Nat) (f : Nat → Int32), 350 - i < n → i ≤ 350 → f_mo_restore_L52 n 114 (nI k) (nI i) (sm_row g 117 f) = f_mo_restore_L83 114 (sm_row g 117 (fun m => if i ≤ m ∧ m < 350 then g 119 (350 * k + m) else f m)) := by
  intro n
  induction n with
  | zero => intro i f h1; omega
  | succ n ih =>
    intro i f h1 h2
    unfold f_mo_restore_L52
    rw [show (350 : Int32) = nI 350 from rfl]
    by_cases z : i = 350
    · rw [if_pos (nI_le (by omega) (by omega))]
      refine congrArg (fun f => f_mo_restore_L83 114 (sm_row g 117 f)) (funext fun m => ?_)
      rw [if_neg (by omega)]
    · rw [if_neg (nI_ge (by omega) (by omega))]
      have e : nI 350 * nI k + nI i = nI (350 * k + i) := by rw [nI_mul, nI_add]
      rw [e, sm_gd_t (sm_inb_nI (by omega) (by omega)), sm_gd_t (sm_inb_nI (by omega) (by omega)), nI_clamp (by omega), nI_clamp (by omega)]
      dsimp only [sm_let]
      have e4 : sm_row g 117 f (114 + 5) (350 * k + i) = g 119 (350 * k + i) := congrFun (p_row_off (i := 117) (j := 119) (by omega)) _
      have e5 : sm_up (sm_row g 117 f) (114 + 3) i (g 119 (350 * k + i)) = sm_row g 117 (upd f i (g 119 (350 * k + i))) := p_row_up (i := 117)
      rw [e4, e5, nI_1, ih (i + 1) _ (by omega) (by omega)]
      refine congrArg (fun f => f_mo_restore_L83 114 (sm_row g 117 f)) (funext fun m => ?_)
      by_cases y : m = i
      · rw [if_neg (by omega), if_pos (by omega), y, p_ud_at]
      · rw [p_ud_off y]
        by_cases x : i + 1 ≤ m ∧ m < 350
        · rw [if_pos x, if_pos (by omega)]
        · rw [if_neg x, if_neg (by omega)]
theorem p_lenS : ((List.range 5).all fun i => (List.range 13).all fun o => o == 0 || o == 8 || o == 9 || sm_len ([40, 53, 67, 80, 93].getD i 0 + o) == p_ln o) = true := by decide +kernel
theorem p_lens {i o : Nat} (hi : i = 40 ∨ i = 53 ∨ i = 67 ∨ i = 80 ∨ i = 93) (ho : o ≤ 12) (h1 : 1 ≤ o) (h8 : o ≠ 8) (h9 : o ≠ 9) : sm_len (i + o) = p_ln o := by
  have key : ∀ x, x < 5 → sm_len ([40, 53, 67, 80, 93].getD x 0 + o) = p_ln o := by
    intro x hx
    have := List.all_eq_true.mp (List.all_eq_true.mp p_lenS x (List.mem_range.mpr hx)) o (List.mem_range.mpr (by omega))
    simp only [Bool.or_eq_true, beq_iff_eq] at this
    omega
  rcases hi with rfl | rfl | rfl | rfl | rfl
  · exact key 0 (by omega)
  · exact key 1 (by omega)
  · exact key 2 (by omega)
  · exact key 3 (by omega)
  · exact key 4 (by omega)
theorem s_restore : sm_S40 p_RR := by
  intro j h x hj hR
  obtain ⟨p, Z, D, F, R, G⟩ := hR
  have C := G.2.2.2.1.1
  obtain ⟨g1, g2, g3, g4, g5, g6, g7, g8, g9⟩ := id G
  have same : ∀ r, f_sc_restore 0 x h = some (r, h) → f_mo_restore 114 x h = some (r, h) → ∃ r h1 h2, f_sc_restore 0 x h = some (r, h1) ∧ f_mo_restore 114 x h1 = some (r, h2) ∧ p_RR (j + 6) h2 := fun r a b => ⟨r, h, h, a, b, p, Z, D, F, R, G.mono⟩
  rcases p_idx x 3 (by omega) with ⟨k, hk, rfl⟩ | hx
  · obtain ⟨s1, s2, s3⟩ := g6 k hk
    have mo : ∀ g : sm_H, g 114 = h 114 → f_mo_restore 114 (nI k) g = if sm_bt (h 0 4) k = true then f_mo_restore_L50 114 (nI k) g else some (-4, g) := by
      intro g hg
      unfold f_mo_restore f_mo_restore_L47
      simp only [sm_b2]
      rw [show (2 : Int32) = nI 3 - 1 from by decide, e_inI hk (by omega)]
      simp only [Option.bind_some]
      rw [if_neg (by decide), hg]
      match k, hk with
      | 0, _ =>
        rw [if_pos (by decide), show (5 : Nat) = 5 + 0 from rfl, s2]
        cases sm_bt (h 0 4) 0 <;> rfl
      | 1, _ =>
        rw [if_neg (by decide), if_pos (by decide), show (6 : Nat) = 5 + 1 from rfl, s2]
        cases sm_bt (h 0 4) 1 <;> rfl
      | 2, _ =>
        rw [if_neg (by decide), if_neg (by decide), show (7 : Nat) = 5 + 2 from rfl, s2]
        cases sm_bt (h 0 4) 2 <;> rfl
      | k + 3, z => omega
    by_cases hf : sm_bt (h 0 4) k = true
    · obtain ⟨s4, s5⟩ := s3 hf
      have hz : sm_bz (h (67 + 13 * k) 2) = true := by
        obtain ⟨t, S1, S2⟩ := s5
        have e : h (67 + 13 * k + 0) 2 = h 119 (350 * k + 1) := S1.1 0 2 1 q_key
        have e2 : h (67 + 13 * k) 2 = h 119 (350 * k + 1) := e
        rw [e2]
        exact decide_eq_true S2.1.1
      have hi : 67 + 13 * k = 40 ∨ 67 + 13 * k = 53 ∨ 67 + 13 * k = 67 ∨ 67 + 13 * k = 80 ∨ 67 + 13 * k = 93 := by omega
      obtain ⟨g, e1, e2, e3⟩ := e_copyFrom (a := 40) (b := 67 + 13 * k) g1 (by omega) (fun o a1 a2 a3 a4 => ⟨p_lens (Or.inl rfl) a1 a2 a3 a4, p_lens hi a1 a2 a3 a4⟩) s4 hz
      have r117 : g 117 = h 117 := e2 117 (by omega)
      have r119 : g 119 = h 119 := e2 119 (by omega)
      have er := p_restL hk (g := g) sm_N 0 (g 117) (by unfold sm_N; omega) (by omega)
      rw [p_row_self, r119] at er
      have e0 : g 40 1 = h 119 (350 * k + 0) := by
        rw [show (40 : Nat) = 40 + 0 from rfl, e3 0 1 (by unfold p_ok; omega)]
        obtain ⟨t, S1, S2⟩ := s5
        exact S1.1 0 1 0 q_time
      refine ⟨g 40 1, g, sm_row g 117 (fun m => if 0 ≤ m ∧ m < 350 then h 119 (350 * k + m) else g 117 m), ?_, ?_, p, Z, D, F, R, G.now (fun i hi => e2 i (by omega)) ?_ ?_⟩
      · unfold f_sc_restore
        simp only [Nat.reduceAdd, sm_b2]
        rw [if_neg (nI_pos (by omega)), show (3 : Int32) = nI 3 from rfl, if_pos (nI_lt hk (by omega)), e_has _ _ _ (by omega), hf]
        simp only [Option.bind_some]
        rw [if_neg (by decide), sm_gd_t (sm_inb_nI hk (by omega)), nI_clamp (by omega), sm_gd_t (decide_eq_true s1), e1, Option.bind_some]
      · rw [mo g (e2 114 (by omega)), if_pos hf]
        unfold f_mo_restore_L50
        rw [show (0 : Int32) = nI 0 from rfl, er]
        unfold f_mo_restore_L83
        have c : (0 : Int32).toNatClampNeg = 0 := by decide
        simp only [Nat.reduceAdd]
        rw [sm_gd_t (by decide), c, p_row_at, if_pos (by omega), e0]
      · rw [show g 40 0 = h (67 + 13 * k) 0 from e3 0 0 (by unfold p_ok; omega), s4, g2]
      · exact (s5.copy C e3 (fun m hm => by rw [if_pos (by omega)])).mono
    · have hf' : sm_bt (h 0 4) k = false := by simpa using hf
      refine same (-4) ?_ ?_
      · unfold f_sc_restore
        simp only [Nat.reduceAdd, sm_b2]
        rw [if_neg (nI_pos (by omega)), show (3 : Int32) = nI 3 from rfl, if_pos (nI_lt hk (by omega)), e_has _ _ _ (by omega), hf']
        simp only [Option.bind_some]
        rw [if_pos (by decide)]
      · rw [mo h rfl, if_neg hf]
  · refine same (-1) ?_ ?_
    · unfold f_sc_restore
      by_cases x0 : x < 0
      · rw [if_pos x0]
      · rw [if_neg x0, show (3 : Int32) = nI 3 from rfl, if_neg (Int32.not_lt.mpr (hx.resolve_left x0))]
    · unfold f_mo_restore
      simp only [sm_b2]
      rw [show (2 : Int32) = nI 3 - 1 from by decide, e_inO hx (by omega)]
      simp only [Option.bind_some]
      rw [if_pos (by decide)]
end p_slots
