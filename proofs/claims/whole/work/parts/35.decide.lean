-- COMMANDS: the rules in order, then who has the say
theorem e_fill (a : Nat) (v : Int32) (h : sm_H) (hl : sm_len a < 10000) : f_ja_fill a v h = some (sm_row h a (fun k => if k < sm_len a then v else h a k)) := by
  have L : ∀ n i (f : Nat → Int32), sm_len a - i < n → i ≤ sm_len a → f_ja_fill_L5 n a v (nI i) (nI (sm_len a)) (sm_row h a f) = some (sm_row h a (fun k => if i ≤ k ∧ k < sm_len a then v else f k)) := by
    intro n
    induction n with
    | zero => intro i f z; omega
    | succ n ih =>
      intro i f h1 h2
      unfold f_ja_fill_L5
      by_cases z : i = sm_len a
      · rw [if_pos (nI_le (by omega) (by omega))]
        refine congrArg (fun f => some (sm_row h a f)) (funext fun k => ?_)
        rw [if_neg (by omega)]
      · rw [if_neg (nI_ge (by omega) (by omega)), sm_gd_t (sm_inb_nI (by omega) (by omega)), nI_clamp (by omega), p_row_up]
        simp only [sm_let, nI_1]
        rw [ih (i + 1) _ (by omega) (by omega)]
        refine congrArg (fun f => some (sm_row h a f)) (funext fun k => ?_)
        by_cases y : k = i
        · rw [if_neg (by omega), if_pos (by omega), y, p_ud_at]
        · rw [p_ud_off y]
          by_cases x : i + 1 ≤ k ∧ k < sm_len a
          · rw [if_pos x, if_pos (by omega)]
          · rw [if_neg x, if_neg (by omega)]
  have e := L sm_N 0 (h a) (by unfold sm_N; omega) (by omega)
  rw [p_row_self] at e
  unfold f_ja_fill
  simp only [sm_let]
  rw [show (0 : Int32) = nI 0 from rfl, e]
  refine congrArg (fun f => some (sm_row h a f)) (funext fun k => ?_)
  by_cases x : k < sm_len a
  · rw [if_pos x, if_pos (by omega)]
  · rw [if_neg x, if_neg (by omega)]
section p_dec
variable {s p Y Z D F R t : Nat} {h g : sm_H}
theorem t_rules (B : p_B Y s p Z D F R t h (g 117) (g 115)) : ∃ h' g', f_co_followRules 107 s h = some h' ∧ f_mo_rule 114 g = some g' ∧ p_F1 h h' ∧ p_G1 g g' ∧ p_RU h' g' := by
  obtain ⟨V, S, K⟩ := id B
  have hp := V.1
  have hs := V.2.1
  obtain ⟨i1, i2⟩ := V.isP
  obtain ⟨N, KK, A, n1, n2, n3, n4, n5, n6, n7, n8, n9, ⟨C, BB, C0, B0, CB⟩, cd, ca⟩ := V.2.2.2.2.2.2.2.2
  have l4 : (4 : Int32).toNatClampNeg = 4 := by decide
  obtain ⟨⟨z81, z82, -⟩, -⟩ := V.cnt
  have b0 : ∀ x : Int32, p_ru 0 0 := fun _ => ⟨rfl, Or.inl rfl⟩
  have len : sm_len 108 = 23 := by decide +kernel
  have ef := e_fill 108 0 h (by rw [len]; omega)
  rw [len] at ef
  have h1F : p_F1 h (sm_row h 108 fun k => if k < 23 then 0 else h 108 k) := fun i hi => p_row_off hi
  have h1z : ∀ k, k < 23 → (sm_row h 108 fun k => if k < 23 then 0 else h 108 k) 108 k = 0 := fun k hk => by rw [p_row_at, if_pos hk]
  generalize (sm_row h 108 fun k => if k < 23 then 0 else h 108 k) = h1 at ef h1F h1z
  have Z2 : ∀ n i g1, 6 - i < n → i ≤ 6 → p_G1 g g1 → (∀ k, k < 16 → g1 123 k = 0) → (∀ k, k < i → g1 124 k = 0) → ∃ g', f_mo_rule_L23 n 114 (nI i) g1 = f_mo_rule_L42 114 g' ∧ p_G1 g g' ∧ (∀ k, k < 16 → g' 123 k = 0) ∧ (∀ k, k < 6 → g' 124 k = 0) := by
    intro n
    induction n with
    | zero => intro i g1 z; omega
    | succ n ih =>
      intro i g1 a1 a2 a3 a4 a5
      unfold f_mo_rule_L23
      rw [show (6 : Int32) = nI 6 from rfl]
      by_cases z : i = 6
      · rw [if_pos (nI_le (by omega) (by omega))]
        exact ⟨g1, rfl, a3, a4, by rw [← z]; exact a5⟩
      · rw [if_neg (nI_ge (by omega) (by omega)), sm_gd_t (sm_inb_nI (by omega) (by omega)), nI_clamp (by omega)]
        simp only [sm_let, nI_1]
        refine ih (i + 1) _ (by omega) (by omega) (fun j hj => (sm_up_ne _ _ _ _ _ (by omega)).trans (a3 j hj)) (fun k hk => ?_) (fun k hk => ?_)
        · rw [sm_up_off (by omega)]
          exact a4 k hk
        · by_cases y : k = i
          · rw [y]
            exact p_up_at
          · rw [sm_up_off (by omega)]
            exact a5 k (by omega)
  have Z1 : ∀ n i g1, 16 - i < n → i ≤ 16 → p_G1 g g1 → (∀ k, k < i → g1 123 k = 0) → ∃ g', f_mo_rule_L2 n 114 (nI i) g1 = f_mo_rule_L42 114 g' ∧ p_G1 g g' ∧ (∀ k, k < 16 → g' 123 k = 0) ∧ (∀ k, k < 6 → g' 124 k = 0) := by
    intro n
    induction n with
    | zero => intro i g1 z; omega
    | succ n ih =>
      intro i g1 a1 a2 a3 a4
      unfold f_mo_rule_L2
      rw [show (16 : Int32) = nI 16 from rfl]
      by_cases z : i = 16
      · rw [if_pos (nI_le (by omega) (by omega))]
        unfold f_mo_rule_L21
        exact Z2 sm_N 0 g1 (by unfold sm_N; omega) (by omega) a3 (by rw [← z]; exact a4) (fun k hk => by omega)
      · rw [if_neg (nI_ge (by omega) (by omega)), sm_gd_t (sm_inb_nI (by omega) (by omega)), nI_clamp (by omega)]
        simp only [sm_let, nI_1]
        refine ih (i + 1) _ (by omega) (by omega) (fun j hj => (sm_up_ne _ _ _ _ _ (by omega)).trans (a3 j hj)) (fun k hk => ?_)
        by_cases y : k = i
        · rw [y]
          exact p_up_at
        · rw [sm_up_off (by omega)]
          exact a4 k (by omega)
  obtain ⟨g1, e1, G1, z1, z2⟩ := Z1 sm_N 0 g (by unfold sm_N; omega) (by omega) (fun _ _ => rfl) (fun k hk => by omega)
  have U1 : p_RU h1 g1 := ⟨fun d hd => by rw [h1z d (by omega), z1 d hd]; exact b0 0, fun f hf => by rw [h1z _ (by omega), z2 f hf]; exact b0 0⟩
  have r115 : ∀ {g'}, p_G1 g g' → g' 115 = g 115 := fun f => f _ (by omega)
  have r117 : ∀ {g'}, p_G1 g g' → g' 117 = g 117 := fun f => f _ (by omega)
  have hB : ∀ {h' g'}, p_F1 h h' → p_G1 g g' → p_B Y s p Z D F R t h' (g' 117) (g' 115) := fun a b => by
    rw [r115 b, r117 b]
    exact B.rows (fun i hi => a i (by omega))
  have inner : ∀ (k : Nat → Nat → Nat → Int32 → sm_H → Option sm_H) (k' : Nat → Int32 → sm_H → Option sm_H) (r : Nat), r < N → ∀ n i h2 g2, BB (r + 1) - i < n → i ≤ BB (r + 1) → p_F1 h h2 → p_G1 g g2 → p_RU h2 g2 → ∃ h' g', f_co_followRules_L53 k n 107 s (p + 9) (nI r) (nI i) h2 = k 107 s (p + 9) (nI (r + 1)) h' ∧ f_mo_rule_L87 k' n 114 (nI r) (nI i) g2 = k' 114 (nI (r + 1)) g' ∧ p_F1 h h' ∧ p_G1 g g' ∧ p_RU h' g' := by
    intro k k' r hr n
    induction n with
    | zero => intro i h2 g2 z; omega
    | succ n ih =>
      intro i h2 g2 a1 a2 a3 a4 a5
      obtain ⟨b1, b2, b3, b4, b5, b6, b7, b8, b9, b10, -⟩ := CB r hr
      have q1 : (128 : Int32) + 4 * nI r + 3 = nI (131 + 4 * r) := by
        rw [show (4 : Int32) * nI r = nI (4 * r) from nI_mul 4 r, show (128 : Int32) + nI (4 * r) = nI (128 + 4 * r) from nI_add 128 _, show nI (128 + 4 * r) + 3 = nI (128 + 4 * r + 3) from nI_add _ 3]
        congr 1; omega
      have q2 : (1076 : Int32) + 2 * nI i = nI (1076 + 2 * i) := by
        rw [show (2 : Int32) * nI i = nI (2 * i) from nI_mul 2 i]
        exact nI_add 1076 _
      have q3 : nI (1076 + 2 * i) + 1 = nI (1077 + 2 * i) := by rw [nI_1]; congr 1; omega
      unfold f_co_followRules_L53 f_mo_rule_L87
      rw [sm_gd_t (sm_inb_nI (k := r) (n := 12) (by omega) (by omega)), nI_clamp (n := r) (by omega), show h2 (p + 9 + 6) r = nI (BB (r + 1)) by rw [show p + 9 + 6 = p + 15 from rfl, a3 (p + 15) (by omega)]; exact b10, q1, sm_gd_t (sm_inb_nI (k := 131 + 4 * r) (n := 1268) (by omega) (by omega)), nI_clamp (n := 131 + 4 * r) (by omega), show g2 (114 + 1) (131 + 4 * r) = nI (BB (r + 1)) by rw [r115 a4]; exact b8]
      by_cases z : i = BB (r + 1)
      · rw [if_pos (nI_le (by omega) (by omega)), if_pos (nI_le (by omega) (by omega))]
        refine ⟨h2, g2, ?_, ?_, a3, a4, a5⟩
        · unfold f_co_followRules_L92
          rw [← nI_1]
          rfl
        · unfold f_mo_rule_L141
          rw [← nI_1]
          rfl
      · obtain ⟨o1, o2, o3⟩ := ca i (by omega)
        have Bn := hB a3 a4
        obtain ⟨h', g', e1, e2, f1, f2, f3⟩ := t_act Bn.1 a5 o3
        rw [if_neg (nI_ge (by omega) (by omega)), if_neg (nI_ge (by omega) (by omega)), Bn.1.isP.1, s_true, Bn.1.isP.2, q2, q3, sm_gd_t (sm_inb_nI (k := 1076 + 2 * i) (n := 1268) (by omega) (by omega)), sm_gd_t (sm_inb_nI (k := 1077 + 2 * i) (n := 1268) (by omega) (by omega)), nI_clamp (n := 1076 + 2 * i) (by omega), nI_clamp (n := 1077 + 2 * i) (by omega)]
        simp only [sm_let]
        rw [sm_gd_t (sm_inb_nI (k := i) (n := 96) (by omega) (by omega)), sm_gd_t (sm_inb_nI (k := i) (n := 96) (by omega) (by omega)), nI_clamp (n := i) (by omega)]
        have x1 : h2 (p + 9 + 4) i = h (p + 13) i := by rw [show p + 9 + 4 = p + 13 from rfl, a3 (p + 13) (by omega)]
        have x2 : h2 (p + 9 + 5) i = h (p + 14) i := by rw [show p + 9 + 5 = p + 14 from rfl, a3 (p + 14) (by omega)]
        have x3 : g2 (114 + 1) (1076 + 2 * i) = h (p + 13) i := by rw [o1]; exact congrFun (r115 a4) _
        have x4 : g2 (114 + 1) (1077 + 2 * i) = h (p + 14) i := by rw [o2]; exact congrFun (r115 a4) _
        rw [x1, x2, x3, x4, e1, e2]
        simp only [Option.bind_some, nI_1]
        exact ih (i + 1) h' g' (by omega) (by omega) (fun j hj => (f1 j hj).trans (a3 j hj)) (fun j hj => (f2 j hj).trans (a4 j hj)) f3
  have outer : g 117 7 ≠ -1 → ∀ n r h2 g2, N - r < n → r ≤ N → p_F1 h h2 → p_G1 g g2 → p_RU h2 g2 → ∃ h' g', f_co_followRules_L29 n 107 s (p + 9) (nI r) h2 = some h' ∧ f_mo_rule_L44 n 114 (nI r) g2 = some g' ∧ p_F1 h h' ∧ p_G1 g g' ∧ p_RU h' g' := by
    intro hal n
    induction n with
    | zero => intro i h2 g2 z; omega
    | succ n ih =>
      intro r h2 g2 a1 a2 a3 a4 a5
      unfold f_co_followRules_L29 f_mo_rule_L44
      rw [show h2 (p + 9) 0 = nI N by rw [a3 (p + 9) (by omega)]; exact n4, s_i4, l4, show g2 (114 + 1) 4 = nI N by rw [r115 a4]; exact n5]
      by_cases z : r = N
      · rw [if_pos (nI_le (by omega) (by omega)), if_pos (nI_le (by omega) (by omega))]
        exact ⟨h2, g2, rfl, rfl, a3, a4, a5⟩
      · have Bn := hB a3 a4
        have hr : r < N := by omega
        obtain ⟨b1, b2, b3, b4, b5, b6, b7, b8, b9, b10, -⟩ := CB r hr
        obtain ⟨v, st, v1, v2⟩ := t_holds Bn.1 Bn.2.1 Bn.2.2 107 (r := r) (N := N) (by rw [a3 (p + 9) (by omega)]; exact n4) n1 hr
        rw [if_neg (nI_ge (by omega) (by omega)), if_neg (nI_ge (by omega) (by omega)), v1, t_isAlarm]
        simp only [sm_b2, Option.bind_some]
        rw [show g2 117 7 = g 117 7 by rw [r117 a4], decide_eq_false hal, if_neg (show ¬ sm_b2i (!false) = 0 by decide), v2]
        simp only [Option.bind_some]
        have a4' : p_G1 g (sm_row g2 122 st) := fun j hj => (p_row_off (by omega)).trans (a4 j hj)
        have a5' : p_RU h2 (sm_row g2 122 st) := by
          unfold p_RU
          rw [p_row_off (by omega), p_row_off (by omega)]
          exact a5
        cases v
        · rw [if_pos (by decide), if_pos (by decide)]
          simp only [f_co_followRules_L92, f_mo_rule_L141, sm_let, nI_1]
          exact ih (r + 1) h2 _ (by omega) (by omega) a3 a4' a5'
        · rw [if_neg (by decide), if_neg (by decide), e_actionStart (C := BB) B0 hr n1 (fun r hr => by rw [a3 (p + 15) (by omega)]; exact (CB r hr).2.2.2.2.2.2.2.2.2.1)]
          simp only [Option.bind_some, sm_let]
          have q1 : (128 : Int32) + 4 * nI r + 2 = nI (130 + 4 * r) := by
            rw [show (4 : Int32) * nI r = nI (4 * r) from nI_mul 4 r, show (128 : Int32) + nI (4 * r) = nI (128 + 4 * r) from nI_add 128 _, show nI (128 + 4 * r) + 2 = nI (128 + 4 * r + 2) from nI_add _ 2]
            congr 1; omega
          rw [q1, sm_gd_t (sm_inb_nI (k := 130 + 4 * r) (n := 1268) (by omega) (by omega)), nI_clamp (n := 130 + 4 * r) (by omega), show sm_row g2 122 st (114 + 1) (130 + 4 * r) = nI (BB r) by rw [p_row_off (by omega), r115 a4]; exact b7]
          obtain ⟨h3, g3, e1, e2, f1, f2, f3⟩ := inner (f_co_followRules_L29 n) (f_mo_rule_L44 n) r hr sm_N (BB r) h2 _ (by unfold sm_N; omega) b3 a3 a4' a5'
          rw [e1, e2]
          exact ih (r + 1) h3 g3 (by omega) (by omega) f1 f2 f3
  unfold f_co_followRules
  rw [show (107 + 1 : Nat) = 108 from rfl, ef]
  simp only [Option.bind_some]
  have Bn := hB h1F G1
  rw [Bn.1.isP.1, s_true, Bn.1.isP.2]
  simp only [sm_let]
  have e0 : h1 (s + 8) 0 = h (s + 8) 0 := by rw [h1F (s + 8) (by omega)]
  rw [e0]
  unfold f_mo_rule
  rw [show f_mo_rule_L2 sm_N 114 0 g = f_mo_rule_L42 114 g1 from e1]
  unfold f_mo_rule_L42
  rcases K.2.2.2.2.2 with ⟨y1, y2⟩ | ⟨x, x1, x2, x3⟩
  · refine ⟨h1, g1, if_pos y2, ?_, h1F, G1, U1⟩
    have : sm_N = 19999 + 1 := rfl
    rw [this]
    unfold f_mo_rule_L44
    rw [s_i4, l4, show g1 (114 + 1) 4 = nI N by rw [r115 G1]; exact n5]
    by_cases z : N = 0
    · rw [if_pos (show nI N ≤ (0 : Int32) from nI_le (a := N) (b := 0) (by omega) (by omega))]
    · rw [if_neg (nI_nle (n := N) (by omega) (by omega)), t_isAlarm]
      simp only [sm_b2, Option.bind_some]
      rw [show g1 117 7 = -1 by rw [r117 G1]; exact y1, decide_eq_true rfl, if_pos (by decide)]
  · rw [if_neg (fun z => by rw [z, sm_bt0] at x3; cases x3)]
    exact outer (fun z => by rw [x2] at z; exact p_m1 (by omega) z) sm_N 0 h1 g1 (by unfold sm_N; omega) (by omega) h1F G1 U1
end p_dec
