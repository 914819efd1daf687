-- A TICK: smoke moves; the staircase's smoke
theorem i_sh (T b G u d : Int32) (e : T = b + G) : T - u + d = b + (G + (d - u)) := by
  rw [e, Int32.sub_eq_add_neg, Int32.sub_eq_add_neg]
  ac_rfl
section p_smoke2
variable {s p Y Z D F R t : Nat} {h g : sm_H} {q : Nat → Int32}
theorem t_flow {b N : Nat → Int32} {a c : Nat} (ha : a < 8) (hc : c < 8) (hb : h (s + 1) a = b a) (n1 : h 111 a - h 112 a = N a) (n2 : h 111 c - h 112 c = N c) : f_en_flowBetween 106 s (nI a) (nI c) h = some (p_fl b N a c, h) := by
  have ga : sm_inb (nI a) 8 = true := sm_inb_nI ha (by omega)
  have ca : (nI a).toNatClampNeg = a := nI_clamp (by omega)
  have gc : sm_inb (nI c) 8 = true := sm_inb_nI hc (by omega)
  have cc : (nI c).toNatClampNeg = c := nI_clamp (by omega)
  unfold f_en_flowBetween
  simp only [ga, ca, gc, cc, s_true, sm_let, Nat.reduceAdd, n1, n2, s_min', s_max', sm_b2, Option.bind_some, hb]
  rfl
theorem t_drain {b N : Nat → Int32} {a c : Nat} (ha : a < 8) (hc : c < 8) (hac : a ≠ c) (hb : g 129 a = b a) (n1 : g 131 a = N a) (n2 : g 131 c = N c) : f_mo_drain 114 (nI a) (nI c) g = some (sm_up (sm_up g 130 a (g 130 a - p_fl b N a c)) 130 c (g 130 c + p_fl b N a c)) := by
  have ga : sm_inb (nI a) 8 = true := sm_inb_nI ha (by omega)
  have ca : (nI a).toNatClampNeg = a := nI_clamp (by omega)
  have gc : sm_inb (nI c) 8 = true := sm_inb_nI hc (by omega)
  have cc : (nI c).toNatClampNeg = c := nI_clamp (by omega)
  unfold f_mo_drain
  simp only [ga, ca, gc, cc, s_true, sm_let, Nat.reduceAdd, n1, n2, s_lesser', s_greater', sm_b2, Option.bind_some, hb]
  rw [sm_up_off (j := 130) (q := c) (by omega)]
  rfl
theorem t_sm4 {b N : Nat → Int32} (h1 : 1 ≤ Z) (h8 : Z ≤ 8) (z2 : g 115 0 = nI Z) (hb : ∀ z, z < Z → h (s + 1) z = b z) (hN : ∀ z, z < Z → h 111 z - h 112 z = N z) (gb : ∀ z, z < Z → g 129 z = b z) (gN : ∀ z, z < Z → g 131 z = N z) (hs : s ≤ 60) :
    ∀ n i hc gr, Z - i < n → i < Z → (∀ j, j ≠ 113 → hc j = h j) → (∀ j, j ≠ 130 → gr j = g j) → (∀ z, z < Z → gr 130 z = b z + hc 113 z) → ∃ hc' gr', f_en_moveSmoke_L106 n 106 s (nI Z) (nI i) hc = f_en_moveSmoke_L178 106 s (nI Z) hc' ∧ f_mo_spreadSmoke_L103 n 114 (nI i) gr = f_mo_spreadSmoke_L137 114 gr' ∧ (∀ j, j ≠ 113 → hc' j = h j) ∧ (∀ j, j ≠ 130 → gr' j = g j) ∧ ∀ z, z < Z → gr' 130 z = b z + hc' 113 z := by
  intro n
  induction n with
  | zero => intro i hc gr y; omega
  | succ n ih =>
    intro i hc gr y1 y2 y3 y4 y5
    unfold f_en_moveSmoke_L106 f_mo_spreadSmoke_L103
    rw [s_i0, s_c0, show gr (114 + 1) 0 = nI Z by rw [y4 115 (by omega)]; exact z2, nI_1]
    by_cases y : i + 1 = Z
    · rw [if_pos (nI_le (by omega) (by omega)), if_pos (nI_le (by omega) (by omega))]
      exact ⟨hc, gr, rfl, rfl, y3, y4, y5⟩
    · have hi : i < 8 := by omega
      have hi1 : i + 1 < 8 := by omega
      have gi : sm_inb (nI i) 8 = true := sm_inb_nI hi (by omega)
      have ci : (nI i).toNatClampNeg = i := nI_clamp (by omega)
      have gj : sm_inb (nI (i + 1)) 8 = true := sm_inb_nI hi1 (by omega)
      have cj : (nI (i + 1)).toNatClampNeg = i + 1 := nI_clamp (by omega)
      have hb' : ∀ z, z < Z → hc (s + 1) z = b z := fun z hz => by rw [y3 (s + 1) (by omega)]; exact hb z hz
      have hN' : ∀ z, z < Z → hc 111 z - hc 112 z = N z := fun z hz => by rw [y3 111 (by omega), y3 112 (by omega)]; exact hN z hz
      have gb' : ∀ z, z < Z → gr 129 z = b z := fun z hz => by rw [y4 129 (by omega)]; exact gb z hz
      have gN' : ∀ z, z < Z → gr 131 z = N z := fun z hz => by rw [y4 131 (by omega)]; exact gN z hz
      rw [if_neg (nI_ge (by omega) (by omega)), if_neg (nI_ge (by omega) (by omega)), t_flow hi hi1 (hb' i (by omega)) (hN' i (by omega)) (hN' (i + 1) (by omega)), t_drain hi hi1 (by omega) (gb' i (by omega)) (gN' i (by omega)) (gN' (i + 1) (by omega))]
      simp only [sm_b2, Option.bind_some]
      rw [t_flow hi1 hi (hb' _ (by omega)) (hN' _ (by omega)) (hN' _ (by omega))]
      rw [t_drain (b := b) (N := N) hi1 hi (by omega) (by rw [sm_up_off (by omega), sm_up_off (by omega)]; exact gb' _ (by omega)) (by rw [sm_up_off (by omega), sm_up_off (by omega)]; exact gN' _ (by omega)) (by rw [sm_up_off (by omega), sm_up_off (by omega)]; exact gN' _ (by omega))]
      simp only [Option.bind_some, gi, gj, ci, cj, s_true, sm_let, Nat.reduceAdd]
      refine ih (i + 1) _ _ (by omega) (by omega) (fun j hj => ?_) (fun j hj => ?_) (fun z hz => ?_)
      · rw [sm_up_ne _ _ _ _ _ hj, sm_up_ne _ _ _ _ _ hj]
        exact y3 j hj
      · rw [sm_up_ne _ _ _ _ _ hj, sm_up_ne _ _ _ _ _ hj, sm_up_ne _ _ _ _ _ hj, sm_up_ne _ _ _ _ _ hj]
        exact y4 j hj
      · by_cases x : z = i
        · subst x
          rw [p_up_at, sm_up_off (j := 130) (q := z) (k := z + 1) (by omega), p_up_at, sm_up_off (j := 113) (q := z) (k := z + 1) (by omega), p_up_at]
          exact i_sh _ _ _ _ _ (y5 z hz)
        · by_cases x' : z = i + 1
          · subst x'
            rw [sm_up_off (j := 130) (q := i + 1) (k := i) (by omega), p_up_at, p_up_at, p_up_at, sm_up_off (j := 113) (q := i + 1) (k := i) (by omega)]
            rw [y5 (i + 1) hz, Int32.sub_eq_add_neg, Int32.sub_eq_add_neg]
            ac_rfl
          · rw [sm_up_off (by omega), sm_up_off (by omega), sm_up_off (by omega), sm_up_off (by omega), sm_up_off (by omega), sm_up_off (by omega)]
            exact y5 z hz
theorem t_sm5 {T : Nat → Int32} (h8 : Z ≤ 8) (z2 : g 115 0 = nI Z) (hs : s ≤ 60) (gT : ∀ z, z < Z → g 130 z = T z) :
    ∀ n i hc q1, Z - i < n → i ≤ Z → (∀ j, j ≠ s + 1 → hc j = h j) → (∀ z, i ≤ z → z < Z → hc (s + 1) z + h 113 z = T z) → (∀ z, z < i → hc (s + 1) z = p_mx 0 (p_mn 1000 (T z)) ∧ q1 (10 + 4 * z) = p_mx 0 (p_mn 1000 (T z))) → (∀ m, (∀ z, z < Z → m ≠ 10 + 4 * z) → q1 m = q m) →
      ∃ hc' q', f_en_moveSmoke_L181 n 106 s (nI Z) (nI i) hc = some hc' ∧ f_mo_spreadSmoke_L139 n 114 (nI i) (sm_row g 117 q1) = f_mo_spreadSmoke_L177 114 (sm_row g 117 q') ∧ (∀ j, j ≠ s + 1 → hc' j = h j) ∧ (∀ z, z < Z → hc' (s + 1) z = p_mx 0 (p_mn 1000 (T z)) ∧ q' (10 + 4 * z) = p_mx 0 (p_mn 1000 (T z))) ∧ ∀ m, (∀ z, z < Z → m ≠ 10 + 4 * z) → q' m = q m := by
  intro n
  induction n with
  | zero => intro i hc q1 y; omega
  | succ n ih =>
    intro i hc q1 y1 y2 y3 y4 y5 y6
    unfold f_en_moveSmoke_L181 f_mo_spreadSmoke_L139
    rw [s_i0, s_c0, show sm_row g 117 q1 (114 + 1) 0 = nI Z by rw [p_row_off (by omega)]; exact z2]
    by_cases y : i = Z
    · rw [if_pos (nI_le (by omega) (by omega)), if_pos (nI_le (by omega) (by omega))]
      exact ⟨hc, q1, rfl, rfl, y3, by rw [← y]; exact y5, y6⟩
    · have hi : i < 8 := by omega
      have gi : sm_inb (nI i) 8 = true := sm_inb_nI hi (by omega)
      have ci : (nI i).toNatClampNeg = i := nI_clamp (by omega)
      have x1 : hc 113 i = h 113 i := by rw [y3 113 (by omega)]
      have x2 : sm_row g 117 q1 130 i = T i := by rw [p_row_off (by omega)]; exact gT i (by omega)
      rw [if_neg (nI_ge (by omega) (by omega)), if_neg (nI_ge (by omega) (by omega))]
      simp only [gi, ci, s_true, Nat.reduceAdd, s_min', s_max', s_lesser', s_greater', sm_b2, Option.bind_some, sm_let, x1, x2, y4 i (by omega) (by omega), e_pZ0 hi, nI_1]
      refine ih (i + 1) _ _ (by omega) (by omega) (fun j hj => (sm_up_ne _ _ _ _ _ hj).trans (y3 j hj)) (fun z a b => ?_) (fun z hz => ?_) (fun m hm => ?_)
      · rw [sm_up_off (by omega)]
        exact y4 z (by omega) b
      · by_cases x : z = i
        · rw [x, p_up_at, p_ud_at]
          exact ⟨rfl, rfl⟩
        · rw [sm_up_off (by omega), p_ud_off (by omega)]
          exact y5 z (by omega)
      · rw [p_ud_off (hm i (by omega))]
        exact y6 m hm
theorem t_leak (P : p_PL Z D F R p h (g 115)) {b : Nat → Int32} (gb : ∀ z, z < Z → g 129 z = b z) {x : Int32} (hd : ∀ d, d < R → q (190 + d) = sm_b2i (sm_bt x d)) {N : Nat} (hN : N ≤ 999) (hP : q 3 = nI N) : f_mo_leakSmoke 114 (sm_row g 117 q) = some (sm_row g 117 (upd q 4 (p_mn 1000 (q 4 + p_lk b (g 115) (sm_bt x) (p_mx 0 (12 - q 3)) R) - p_mn 1000 (q 4 + p_lk b (g 115) (sm_bt x) (p_mx 0 (12 - q 3)) R) * p_mn 1000 (g 114 31) / 4000))) := by
  obtain ⟨c1, c2, c3, c4, c5⟩ := P.1
  have r2 : g 115 3 = nI R := P.2.1.2.2.2.2.2.2.2.1
  have r115 : ∀ q', sm_row g 117 q' 115 = g 115 := fun q' => p_row_off (by omega)
  have r114 : ∀ q', sm_row g 117 q' 114 = g 114 := fun q' => p_row_off (by omega)
  have r129 : ∀ q', sm_row g 117 q' 129 = g 129 := fun q' => p_row_off (by omega)
  have r117 : ∀ q', sm_row g 117 q' 117 = q' := fun q' => p_row_at
  have ru : ∀ (q : Nat → Int32) k v, sm_up (sm_row g 117 q) 117 k v = sm_row g 117 (upd q k v) := fun q k v => p_row_up
  have es : ∀ i, p_lk b (g 115) (sm_bt x) (p_mx 0 (12 - q 3)) (i + 1) = p_lk b (g 115) (sm_bt x) (p_mx 0 (12 - q 3)) i + b (g 115 (98 + 3 * i)).toNatClampNeg * p_mx 0 (12 - q 3) * (if sm_bt x i = true then 20 else 1) / 2400 := fun _ => rfl
  -- the end
  have fin : ∀ v, f_mo_leakSmoke_L85 114 v (sm_row g 117 q) = some (sm_row g 117 (upd q 4 (p_mn 1000 v - p_mn 1000 v * p_mn 1000 (g 114 31) / 4000))) := by
    intro v
    unfold f_mo_leakSmoke_L85
    simp only [s_lesser', sm_b2, Option.bind_some, s_j4, s_c4, sm_let, Nat.reduceAdd, r114, ru]
  unfold f_mo_leakSmoke
  rw [s_j4]
  simp only [sm_let, s_c4, Nat.reduceAdd, r117]
  by_cases z : N < 12
  · have hm : p_mx 0 (12 - q 3) = 12 - q 3 := by
      unfold p_mx
      rw [hP, if_pos (by
        rw [show (12 : Int32) - nI N = nI (12 - N) from nI_sub (a := 12) (by omega)]
        exact nI_lt (a := 0) (by omega) (by omega))]
    have L : ∀ n i, R - i < n → i ≤ R → f_mo_leakSmoke_L9 n 114 (q 4 + p_lk b (g 115) (sm_bt x) (p_mx 0 (12 - q 3)) i) (nI i) (sm_row g 117 q) = some (sm_row g 117 (upd q 4 (p_mn 1000 (q 4 + p_lk b (g 115) (sm_bt x) (p_mx 0 (12 - q 3)) R) - p_mn 1000 (q 4 + p_lk b (g 115) (sm_bt x) (p_mx 0 (12 - q 3)) R) * p_mn 1000 (g 114 31) / 4000))) := by
      intro n
      induction n with
      | zero => intro i y; omega
      | succ n ih =>
        intro i y1 y2
        unfold f_mo_leakSmoke_L9
        rw [s_i3, s_c3, show sm_row g 117 q (114 + 1) 3 = nI R by rw [r115]; exact r2]
        by_cases y : i = R
        · rw [if_pos (nI_le (by omega) (by omega)), fin, y]
        · have hi : i < 10 := by omega
          obtain ⟨zz, _, _, hz, -, -, -, -, e1, e2, -⟩ := P.2.2.2.2.1 i (by omega)
          have gz : sm_inb (nI zz) 8 = true := sm_inb_nI (by omega) (by omega)
          have cz : (nI zz).toNatClampNeg = zz := nI_clamp (by omega)
          have gj : sm_inb (nI (190 + i)) 350 = true := sm_inb_nI (by omega) (by omega)
          have cj : (nI (190 + i)).toNatClampNeg = 190 + i := nI_clamp (by omega)
          have nx := ih (i + 1) (by omega) (by omega)
          rw [es, e2, cz, ← Int32.add_assoc] at nx
          rw [if_neg (nI_ge (by omega) (by omega)), s_j3, show (190 : Int32) + nI i = nI (190 + i) from nI_add 190 i]
          simp only [Nat.reduceAdd, r117, hP]
          rw [if_neg (show ¬ (12 : Int32) ≤ nI N from nI_ge (b := 12) (by omega) (by omega))]
          simp only [sm_b2, e_rO0 hi, r115, e2, Option.bind_some, gz, gj, cz, cj, s_true, s_j3, r117, hP, hd i (by omega), r129, gb zz hz, f_mo_leakSmoke_L72, sm_let, nI_1]
          rw [hP] at nx hm
          rw [hm] at nx ⊢
          cases w : sm_bt x i
          · rw [w, if_neg (show ¬ false = true by decide)] at nx
            rw [if_neg (show ¬ sm_b2i false = 1 by decide)]
            exact nx
          · rw [w, if_pos (show true = true from rfl)] at nx
            rw [if_pos (show sm_b2i true = 1 from rfl)]
            exact nx
    have e := L sm_N 0 (by unfold sm_N; omega) (by omega)
    rw [show p_lk b (g 115) (sm_bt x) (p_mx 0 (12 - q 3)) 0 = 0 from rfl, Int32.add_zero] at e
    exact e
  · have hm : p_mx 0 (12 - q 3) = 0 := by
      unfold p_mx
      rw [hP, if_neg (by
        intro y
        by_cases w : N = 12
        · rw [w] at y
          revert y
          decide
        · have := pk_sneg (a := 12) (b := N) (by omega) (by omega)
          exact absurd (Int32.lt_trans y this) (by decide))]
    have zero : ∀ i, p_lk b (g 115) (sm_bt x) (p_mx 0 (12 - q 3)) i = 0 := by
      intro i
      induction i with
      | zero => rfl
      | succ i ih =>
        rw [es, ih, hm, Int32.mul_zero, Int32.zero_mul]
        rfl
    rw [zero, Int32.add_zero]
    have hN' : sm_N = 19999 + 1 := rfl
    rw [hN']
    unfold f_mo_leakSmoke_L9
    rw [s_i3, s_c3, show sm_row g 117 q (114 + 1) 3 = nI R by rw [r115]; exact r2]
    by_cases y : R = 0
    · rw [if_pos (show nI R ≤ (0 : Int32) by rw [y]; decide), fin]
    · rw [if_neg (nI_nle (by omega) (by omega)), s_j3]
      simp only [Nat.reduceAdd, r117, hP]
      rw [if_pos (show (12 : Int32) ≤ nI N from nI_le (a := 12) (by omega) (by omega)), fin]
end p_smoke2
