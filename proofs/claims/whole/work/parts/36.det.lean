-- COMMANDS: panel, rules, operator, normal
def p_cm (x y : Int32) : Prop := (x = 1 ∧ y = 1) ∨ (x = 2 ∧ y = 0)
def p_CM (D F : Nat) (h g : sm_H) : Prop := (∀ d, d < D → p_cm (h 109 d) (g 125 d) ∧ h 110 d = g 126 d) ∧ ∀ f, f < F → p_cm (h 109 (16 + f)) (g 127 f) ∧ h 110 (16 + f) = g 128 f
def p_sr (x r o : Int32) : Int32 := if x = 0 then (if r = 0 then (if o = 0 then 0 else 1) else 2) else 3
def p_cd (x r o n : Int32) : Int32 := if x = 0 then (if r = 0 then (if o = 0 then n else o) else r) else x
section p_set
variable {s p Y Z D F R t : Nat} {h g : sm_H}
theorem t_settle {u : Nat} (hu : u < 23) (n : Int32) (hk : h s 2 = 0 ∨ h s 2 = 1) : ∃ h', f_co_settle 107 s (nI u) n h = some h' ∧ (∀ i, i ≠ 109 → i ≠ 110 → h' i = h i) ∧ (∀ k, k ≠ u → h' 109 k = h 109 k ∧ h' 110 k = h 110 k) ∧ h' 109 u = p_cd (h s 2 * h (s + 4) u) (h 108 u) (h (s + 5) u) n ∧ h' 110 u = p_sr (h s 2 * h (s + 4) u) (h 108 u) (h (s + 5) u) := by
  have give : ∀ c v, ∃ h', f_co_give 107 (nI u) c v h = some h' ∧ (∀ i, i ≠ 109 → i ≠ 110 → h' i = h i) ∧ (∀ k, k ≠ u → h' 109 k = h 109 k ∧ h' 110 k = h 110 k) ∧ h' 109 u = c ∧ h' 110 u = v := by
    intro c v
    unfold f_co_give
    simp (disch := omega) only [Nat.reduceAdd, sm_inb_nI, s_true, nI_clamp, sm_let]
    refine ⟨_, rfl, fun i a b => ?_, fun k a => ⟨?_, ?_⟩, ?_, ?_⟩
    · rw [sm_up_ne _ _ _ _ _ b, sm_up_ne _ _ _ _ _ a]
    · rw [sm_up_off (by omega), sm_up_off (by omega)]
    · rw [sm_up_off (by omega), sm_up_off (by omega)]
    · rw [sm_up_off (by omega), p_up_at]
    · rw [p_up_at]
  have L31 : h s 2 * h (s + 4) u = 0 → ∃ h', f_co_settle_L31 107 s (nI u) n h = some h' ∧ (∀ i, i ≠ 109 → i ≠ 110 → h' i = h i) ∧ (∀ k, k ≠ u → h' 109 k = h 109 k ∧ h' 110 k = h 110 k) ∧ h' 109 u = p_cd (h s 2 * h (s + 4) u) (h 108 u) (h (s + 5) u) n ∧ h' 110 u = p_sr (h s 2 * h (s + 4) u) (h 108 u) (h (s + 5) u) := by
    intro z
    rw [z]
    unfold f_co_settle_L31 p_cd p_sr
    simp (disch := omega) only [Nat.reduceAdd, sm_inb_nI, s_true, nI_clamp, if_true]
    by_cases y : h 108 u = 0
    · simp only [if_pos y]
      by_cases x : h (s + 5) u = 0
      · simp only [if_pos x]
        obtain ⟨h', e, r⟩ := give n 0
        rw [e]
        exact ⟨h', rfl, r⟩
      · simp only [if_neg x]
        obtain ⟨h', e, r⟩ := give (h (s + 5) u) 1
        rw [e]
        exact ⟨h', rfl, r⟩
    · simp only [if_neg y]
      obtain ⟨h', e, r⟩ := give (h 108 u) 2
      rw [e]
      exact ⟨h', rfl, r⟩
  unfold f_co_settle
  simp (disch := omega) only [sm_inb_nI, s_true, nI_clamp]
  rcases hk with z | z
  · rw [if_pos z]
    exact L31 (by rw [z, Int32.zero_mul])
  · rw [if_neg (by rw [z]; decide)]
    by_cases y : h (s + 4) u = 0
    · rw [if_pos y]
      exact L31 (by rw [y, Int32.mul_zero])
    · rw [if_neg y]
      obtain ⟨h', e, r⟩ := give (h (s + 4) u) 3
      rw [e]
      refine ⟨h', rfl, r.1, r.2.1, ?_, ?_⟩
      · rw [z, Int32.one_mul, r.2.2.1]
        unfold p_cd
        rw [if_neg y]
      · rw [z, Int32.one_mul, r.2.2.2]
        unfold p_sr
        rw [if_neg y]
theorem s_sourceOf (x r o : Int32) (g : sm_H) : f_mo_sourceOf x r o g = some (p_sr x r o, g) := by
  unfold f_mo_sourceOf f_mo_sourceOf_L25 p_sr
  split
  · split
    · split <;> rfl
    · rfl
  · rfl
theorem s_commandOf (x r o n m : Int32) (g : sm_H) (hx : x = 0 ∨ x = 1 ∨ x = 2) (hr : r = 0 ∨ r = 1 ∨ r = 2) (ho : o = 0 ∨ o = 1 ∨ o = 2) (hn : p_cm n m) : ∃ c, f_mo_commandOf (p_sr x r o) x r o m g = some (c, g) ∧ p_cm (p_cd x r o n) c := by
  have c1 : p_cm 1 1 := Or.inl ⟨rfl, rfl⟩
  have c2 : p_cm 2 0 := Or.inr ⟨rfl, rfl⟩
  rcases hx with rfl | rfl | rfl
  · rcases hr with rfl | rfl | rfl
    · rcases ho with rfl | rfl | rfl
      · exact ⟨m, rfl, hn⟩
      · exact ⟨1, rfl, c1⟩
      · exact ⟨0, rfl, c2⟩
    · exact ⟨1, rfl, c1⟩
    · exact ⟨0, rfl, c2⟩
  · exact ⟨1, rfl, c1⟩
  · exact ⟨0, rfl, c2⟩
theorem p_12 {v : Nat} (hv : v ≤ 2) : nI v = 0 ∨ nI v = 1 ∨ nI v = 2 := by
  match v, hv with
  | 0, _ => exact Or.inl rfl
  | 1, _ => exact Or.inr (Or.inl rfl)
  | 2, _ => exact Or.inr (Or.inr rfl)
  | v + 3, z => omega
theorem p_ks {k x : Int32} (hk : k = 0 ∨ k = 1) (hx : x = 0 ∨ x = 1 ∨ x = 2) : k * x = 0 ∨ k * x = 1 ∨ k * x = 2 := by
  rcases hk with rfl | rfl
  · rw [Int32.zero_mul]; exact Or.inl rfl
  · rw [Int32.one_mul]; exact hx
theorem t_decide (B : p_B Y s p Z D F R t h (g 117) (g 115)) : ∃ h' g', f_co_determine 107 s h = some h' ∧ f_mo_decide 114 g = some g' ∧ (∀ i, i < 108 ∨ 110 < i → h' i = h i) ∧ (∀ i, i < 122 ∨ 128 < i → g' i = g i) ∧ p_CM D F h' g' := by
  obtain ⟨V, S, K⟩ := id B
  have hp := V.1
  have hs := V.2.1
  obtain ⟨i1, i2⟩ := V.isP
  obtain ⟨⟨c1, c2, c3, c4, c5⟩, -, ⟨d1, d2⟩, ⟨f1, f2⟩, -⟩ := V.cnt
  obtain ⟨h1, g1, e1, e2, F1, G1, U1⟩ := t_rules B
  have l1 : (1 : Int32).toNatClampNeg = 1 := by decide
  have l2 : (2 : Int32).toNatClampNeg = 2 := by decide
  have FD : ∀ n i h2 g2, F - i < n → i ≤ F → (∀ i, i ≠ 109 → i ≠ 110 → h2 i = h1 i) → (∀ i, i < 125 ∨ 128 < i → g2 i = g1 i) → (∀ d, d < D → p_cm (h2 109 d) (g2 125 d) ∧ h2 110 d = g2 126 d) → (∀ f, f < i → p_cm (h2 109 (16 + f)) (g2 127 f) ∧ h2 110 (16 + f) = g2 128 f) → ∃ h' g', f_co_determine_L50 n 107 s p (nI i) h2 = some h' ∧ f_mo_decide_L94 n 114 (nI i) g2 = some g' ∧ (∀ i, i ≠ 109 → i ≠ 110 → h' i = h1 i) ∧ (∀ i, i < 125 ∨ 128 < i → g' i = g1 i) ∧ p_CM D F h' g' := by
    intro n
    induction n with
    | zero => intro i h2 g2 z; omega
    | succ n ih =>
      intro i h2 g2 a1 a2 a3 a4 a5 a6
      unfold f_co_determine_L50 f_mo_decide_L94
      rw [show h2 p 2 = nI F by rw [a3 p (by omega) (by omega), F1 p (by omega)]; exact f1, s_i2, l1, l2, show g2 (114 + 1) 2 = nI F by rw [a4 115 (by omega), G1 115 (by omega)]; exact f2]
      by_cases z : i = F
      · rw [if_pos (nI_le (by omega) (by omega)), if_pos (nI_le (by omega) (by omega))]
        exact ⟨h2, g2, rfl, rfl, a3, a4, a5, by rw [← z]; exact a6⟩
      · have hi : i < F := by omega
        obtain ⟨-, ⟨v2, w2, x2⟩, v3, w3, x3⟩ := K.2.2.1 i hi
        have k2 : h2 s 2 = g 117 1 := by rw [a3 s (by omega) (by omega), F1 s (by omega)]; exact S.1 0 2 1 q_key
        have sw : h2 (s + 4) (16 + i) = nI v2 := by rw [a3 _ (by omega) (by omega), F1 _ (by omega), ← x2]; exact S.1 4 (16 + i) _ (q_fsw hi)
        have op : h2 (s + 5) (16 + i) = nI v3 := by rw [a3 _ (by omega) (by omega), F1 _ (by omega), ← x3]; exact S.1 5 (16 + i) _ (q_fop hi)
        have ru := U1.2 i (by omega)
        have hru : h2 108 (16 + i) = h1 108 (16 + i) := by rw [a3 108 (by omega) (by omega)]
        obtain ⟨h3, m1, m2, m3, m4, m5⟩ := t_settle (s := s) (h := h2) (u := 16 + i) (by omega) 2 (by rw [k2]; exact K.1.1)
        rw [k2, sw, op, hru] at m4 m5
        have r117 : g2 117 = g 117 := (a4 117 (by omega)).trans (G1 117 (by omega))
        have r124 : g2 124 = g1 124 := a4 124 (by omega)
        obtain ⟨c, y1, y2⟩ := s_commandOf (g 117 1 * nI v2) (h1 108 (16 + i)) (nI v3) 2 0 (sm_up g2 128 i (p_sr (g 117 1 * nI v2) (h1 108 (16 + i)) (nI v3))) (p_ks K.1.1 (p_12 w2)) ru.2 (p_12 w3) (Or.inr ⟨rfl, rfl⟩)
        rw [if_neg (nI_ge (by omega) (by omega)), if_neg (nI_ge (by omega) (by omega)), show (16 : Int32) + nI i = nI (16 + i) from nI_add 16 i, m1, s_j1, show (2 : Int32) = nI 2 from rfl, e_fanIs (by omega) (by omega), show (3 : Int32) = nI 3 from rfl, show g2 117 (154 + 6 * i + 2) = nI v2 by rw [r117, ← x2]; congr 1; omega]
        simp only [Option.bind_some, sm_b2, sm_let, Nat.reduceAdd]
        rw [sm_gd_t (sm_inb_nI (by omega) (by omega)), e_fanIs (by omega) (by omega), show g2 117 (154 + 6 * i + 3) = nI v3 by rw [r117, ← x3]; congr 1; omega]
        simp only [Option.bind_some]
        rw [nI_clamp (by omega), r117, r124, ← ru.1, s_sourceOf]
        simp only [Option.bind_some]
        rw [sm_gd_t (sm_inb_nI (by omega) (by omega)), sm_gd_t (sm_inb_nI (by omega) (by omega)), sm_gd_t (sm_inb_nI (by omega) (by omega)), e_fanIs (by omega) (by omega), show sm_up g2 128 i (p_sr (g 117 1 * nI v2) (h1 108 (16 + i)) (nI v3)) 117 (154 + 6 * i + 3) = nI v3 by rw [sm_up_off (by omega), r117, ← x3]; congr 1; omega]
        simp only [Option.bind_some]
        rw [p_up_at, show sm_up g2 128 i (p_sr (g 117 1 * nI v2) (h1 108 (16 + i)) (nI v3)) 124 i = h1 108 (16 + i) by rw [sm_up_off (by omega), r124]; exact ru.1.symm, y1]
        simp only [Option.bind_some]
        rw [sm_gd_t (sm_inb_nI (by omega) (by omega)), nI_1]
        refine ih (i + 1) h3 _ (by omega) (by omega) (fun j x y => (m2 j x y).trans (a3 j x y)) (fun j hj => ?_) (fun d hd => ?_) (fun f hf => ?_)
        · rw [sm_up_ne _ _ _ _ _ (by omega), sm_up_ne _ _ _ _ _ (by omega)]
          exact a4 j hj
        · obtain ⟨z1, z2⟩ := m3 d (by omega)
          rw [z1, z2, sm_up_off (by omega), sm_up_off (by omega), sm_up_off (by omega), sm_up_off (by omega)]
          exact a5 d hd
        · by_cases y : f = i
          · rw [y, m4, m5, p_up_at, sm_up_off (by omega), p_up_at]
            exact ⟨y2, rfl⟩
          · obtain ⟨z1, z2⟩ := m3 (16 + f) (by omega)
            rw [z1, z2, sm_up_off (by omega), sm_up_off (by omega), sm_up_off (by omega), sm_up_off (by omega)]
            exact a6 f (by omega)
  have DD : ∀ n i h2 g2, D - i < n → i ≤ D → (∀ i, i ≠ 109 → i ≠ 110 → h2 i = h1 i) → (∀ i, i < 125 ∨ 128 < i → g2 i = g1 i) → (∀ d, d < i → p_cm (h2 109 d) (g2 125 d) ∧ h2 110 d = g2 126 d) → ∃ h' g', f_co_determine_L12 n 107 s p (nI i) h2 = some h' ∧ f_mo_decide_L6 n 114 (nI i) g2 = some g' ∧ (∀ i, i ≠ 109 → i ≠ 110 → h' i = h1 i) ∧ (∀ i, i < 125 ∨ 128 < i → g' i = g1 i) ∧ p_CM D F h' g' := by
    intro n
    induction n with
    | zero => intro i h2 g2 z; omega
    | succ n ih =>
      intro i h2 g2 a1 a2 a3 a4 a5
      unfold f_co_determine_L12 f_mo_decide_L6
      rw [show h2 p 1 = nI D by rw [a3 p (by omega) (by omega), F1 p (by omega)]; exact d1, s_i1, l1, show g2 (114 + 1) 1 = nI D by rw [a4 115 (by omega), G1 115 (by omega)]; exact d2]
      by_cases z : i = D
      · rw [if_pos (nI_le (by omega) (by omega)), if_pos (nI_le (by omega) (by omega))]
        unfold f_co_determine_L48 f_mo_decide_L92
        exact FD sm_N 0 h2 g2 (by unfold sm_N; omega) (by omega) a3 a4 (by rw [← z]; exact a5) (fun f hf => by omega)
      · have hi : i < D := by omega
        obtain ⟨-, ⟨v2, w2, x2⟩, v3, w3, x3⟩ := K.2.1 i hi
        obtain ⟨_, _, _, -, -, -, -, -, -, -, -, -, -, en⟩ := V.2.2.2.2.2.1 i hi
        have k2 : h2 s 2 = g 117 1 := by rw [a3 s (by omega) (by omega), F1 s (by omega)]; exact S.1 0 2 1 q_key
        have sw : h2 (s + 4) i = nI v2 := by rw [a3 _ (by omega) (by omega), F1 _ (by omega), ← x2]; exact S.1 4 i _ (q_sw hi)
        have op : h2 (s + 5) i = nI v3 := by rw [a3 _ (by omega) (by omega), F1 _ (by omega), ← x3]; exact S.1 5 i _ (q_op hi)
        have no : h2 p 6 = h p 6 := by rw [a3 _ (by omega) (by omega), F1 _ (by omega)]
        have ru := U1.1 i (by omega)
        have hru : h2 108 i = h1 108 i := by rw [a3 108 (by omega) (by omega)]
        have r117 : g2 117 = g 117 := (a4 117 (by omega)).trans (G1 117 (by omega))
        have r115 : g2 115 = g 115 := (a4 115 (by omega)).trans (G1 115 (by omega))
        have r123 : g2 123 = g1 123 := a4 123 (by omega)
        have fin : ∀ nn m, p_cm nn m → g 115 (10 + 4 * i + 3) = m → ∃ h' g', f_co_determine_L39 (f_co_determine_L12 n) 107 s p (nI i) nn (nI i) s 107 h2 = some h' ∧ (sm_gd (sm_inb 1 350) <| sm_b2 (f_mo_damperIs 114 (nI i) 2 g2) fun r6 g7 => sm_let ((g2 (114 + 3) 1) * r6) fun x9 => sm_gd (sm_inb (nI i) 16) <| sm_b2 (f_mo_damperIs 114 (nI i) 3 g7) fun r12 g13 => sm_b2 (f_mo_sourceOf x9 (g7 (114 + 9) (nI i : Int32).toNatClampNeg) r12 g13) fun r15 g16 => sm_gd (sm_inb (nI i) 16) <| sm_let (sm_up g16 (114 + 12) (nI i : Int32).toNatClampNeg r15) fun g19 => sm_gd (sm_inb (nI i) 16) <| sm_gd (sm_inb (nI i) 16) <| sm_b2 (f_mo_damperIs 114 (nI i) 3 g19) fun r23 g24 => sm_b2 (f_mo_damperOf 114 (nI i) 3 g24) fun r26 g27 => sm_b2 (f_mo_commandOf (g19 (114 + 12) (nI i : Int32).toNatClampNeg) x9 (g19 (114 + 9) (nI i : Int32).toNatClampNeg) r23 r26 g27) fun r29 g30 => sm_gd (sm_inb (nI i) 16) <| sm_let (sm_up g30 (114 + 11) (nI i : Int32).toNatClampNeg r29) fun g33 => sm_let (nI i + 1) fun x35 => f_mo_decide_L6 n 114 x35 g33) = some g' ∧ (∀ i, i ≠ 109 → i ≠ 110 → h' i = h1 i) ∧ (∀ i, i < 125 ∨ 128 < i → g' i = g1 i) ∧ p_CM D F h' g' := by
          intro nn m hnm hm
          obtain ⟨h3, m1, m2, m3, m4, m5⟩ := t_settle (s := s) (h := h2) (u := i) (by omega) nn (by rw [k2]; exact K.1.1)
          rw [k2, sw, op, hru] at m4 m5
          obtain ⟨c, y1, y2⟩ := s_commandOf (g 117 1 * nI v2) (h1 108 i) (nI v3) nn m (sm_up g2 126 i (p_sr (g 117 1 * nI v2) (h1 108 i) (nI v3))) (p_ks K.1.1 (p_12 w2)) ru.2 (p_12 w3) hnm
          unfold f_co_determine_L39
          rw [m1, s_j1, show (2 : Int32) = nI 2 from rfl, e_damperIs (by omega) (by omega), show (3 : Int32) = nI 3 from rfl, show g2 117 (42 + 7 * i + 2) = nI v2 by rw [r117, ← x2]; congr 1; omega]
          simp only [Option.bind_some, sm_b2, sm_let, Nat.reduceAdd]
          rw [sm_gd_t (sm_inb_nI (by omega) (by omega)), e_damperIs (by omega) (by omega), show g2 117 (42 + 7 * i + 3) = nI v3 by rw [r117, ← x3]; congr 1; omega]
          simp only [Option.bind_some]
          rw [nI_clamp (by omega), r117, r123, ← ru.1, s_sourceOf]
          simp only [Option.bind_some]
          rw [sm_gd_t (sm_inb_nI (by omega) (by omega)), sm_gd_t (sm_inb_nI (by omega) (by omega)), sm_gd_t (sm_inb_nI (by omega) (by omega)), e_damperIs (by omega) (by omega), show sm_up g2 126 i (p_sr (g 117 1 * nI v2) (h1 108 i) (nI v3)) 117 (42 + 7 * i + 3) = nI v3 by rw [sm_up_off (by omega), r117, ← x3]; congr 1; omega]
          simp only [Option.bind_some]
          rw [e_damperOf (by omega) (by omega), show sm_up g2 126 i (p_sr (g 117 1 * nI v2) (h1 108 i) (nI v3)) 115 (10 + 4 * i + 3) = m by rw [sm_up_off (by omega), r115, hm]]
          simp only [Option.bind_some]
          rw [p_up_at, show sm_up g2 126 i (p_sr (g 117 1 * nI v2) (h1 108 i) (nI v3)) 123 i = h1 108 i by rw [sm_up_off (by omega), r123]; exact ru.1.symm, y1]
          simp only [Option.bind_some]
          rw [sm_gd_t (sm_inb_nI (by omega) (by omega)), nI_1]
          refine ih (i + 1) h3 _ (by omega) (by omega) (fun j x y => (m2 j x y).trans (a3 j x y)) (fun j hj => ?_) (fun d hd => ?_)
          · rw [sm_up_ne _ _ _ _ _ (by omega), sm_up_ne _ _ _ _ _ (by omega)]
            exact a4 j hj
          · by_cases y : d = i
            · rw [y, m4, m5, p_up_at, sm_up_off (by omega), p_up_at]
              exact ⟨y2, rfl⟩
            · obtain ⟨z1, z2⟩ := m3 d (by omega)
              rw [z1, z2, sm_up_off (by omega), sm_up_off (by omega), sm_up_off (by omega), sm_up_off (by omega)]
              exact a5 d (by omega)
        rw [if_neg (nI_ge (by omega) (by omega)), if_neg (nI_ge (by omega) (by omega)), e_has _ _ _ (by omega), no]
        simp only [sm_b2, Option.bind_some]
        have en' : g 115 (10 + 4 * i + 3) = sm_b2i (sm_bt (h p 6) i) := by
          rw [← en]
          congr 1
          omega
        cases hb : sm_bt (h p 6) i
        · rw [if_pos (by decide)]
          exact fin 2 0 (Or.inr ⟨rfl, rfl⟩) (by rw [en', hb]; rfl)
        · rw [if_neg (by decide)]
          exact fin 1 1 (Or.inl ⟨rfl, rfl⟩) (by rw [en', hb]; rfl)
  obtain ⟨h', g', w1, w2, w3, w4, w5⟩ := DD sm_N 0 h1 g1 (by unfold sm_N; omega) (by omega) (fun _ _ _ => rfl) (fun _ _ => rfl) (fun d hd => by omega)
  refine ⟨h', g', ?_, ?_, fun i hi => (w3 i (by omega) (by omega)).trans (F1 i (by omega)), fun i hi => (w4 i (by omega)).trans (G1 i (by omega)), w5⟩
  · unfold f_co_determine
    rw [i1, s_true, i2]
    simp only [sm_let]
    rw [e1]
    exact w1
  · unfold f_mo_decide
    rw [e2]
    exact w2
end p_set
