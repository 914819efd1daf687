-- SUPPLY AND EXHAUST: rows filled fan by fan on one side, a sum for each zone on the other
def p_ai (acc : Int32) (P : Nat → Bool) (v : Int32) : Nat → Int32
  | 0 => acc
  | d + 1 => if P d = true then p_ai acc P v d + v else p_ai acc P v d
def p_at (P : Nat → Nat → Bool) (v : Nat → Int32) (D : Nat) : Nat → Int32
  | 0 => 0
  | f + 1 => p_ai (p_at P v D f) (P f) (v f) D
theorem p_ai_s (acc : Int32) (P : Nat → Bool) (v : Int32) (d : Nat) : p_ai acc P v (d + 1) = if P d = true then p_ai acc P v d + v else p_ai acc P v d := rfl
theorem p_at_s (P : Nat → Nat → Bool) (v : Nat → Int32) (D f : Nat) : p_at P v D (f + 1) = p_ai (p_at P v D f) (P f) (v f) D := rfl
theorem p_ai_0 {acc : Int32} {P : Nat → Bool} {v : Int32} : ∀ n, (∀ d, d < n → P d = false) → p_ai acc P v n = acc := by
  intro n
  induction n with
  | zero => intro _; rfl
  | succ n ih =>
    intro h
    rw [p_ai_s, h n (by omega), if_neg (by decide), ih (fun d hd => h d (by omega))]
theorem p_ai_e {acc : Int32} {P Q : Nat → Bool} {v : Int32} : ∀ n, (∀ d, d < n → P d = Q d) → p_ai acc P v n = p_ai acc Q v n := by
  intro n
  induction n with
  | zero => intro _; rfl
  | succ n ih =>
    intro h
    rw [p_ai_s, p_ai_s, h n (by omega), ih (fun d hd => h d (by omega))]
-- how many dampers of a fan's list are open, and what each gets
def p_oc (g : sm_H) (D f : Nat) : Nat := p_cn (fun d => sm_bt (g 115 (77 + 4 * f)) d && p_op g d) D
def p_sv (g : sm_H) (D f : Nat) : Int32 := (g 115 (75 + 4 * f) * g 117 (154 + 6 * f) / g 115 (76 + 4 * f)) / nI (p_oc g D f)
def p_sp (g : sm_H) (z : Nat) (k : Int32) (f d : Nat) : Bool := sm_bt (g 115 (77 + 4 * f)) d && (p_op g d && (decide (g 115 (11 + 4 * d) = nI z) && decide (g 115 (10 + 4 * d) = k)))
theorem w_b2 {α β γ : Type} {x : Option (α × β)} {F : α → β → Option γ} {v : α} {g : β} {R : Option γ} (h : x = some (v, g)) (k : F v g = R) : sm_b2 x F = R := by
  rw [h]
  exact k
theorem w_lt {α β : Type} {e : α} {F : α → Option β} {R : Option β} (k : F e = R) : sm_let e F = R := k
theorem w_bd {α γ : Type} {x : Option α} {F : α → Option γ} {v : α} {R : Option γ} (h : x = some v) (k : F v = R) : Option.bind x F = R := by
  rw [h]
  exact k
section p_supply
variable {s p Y Z D F R t : Nat} {h g : sm_H}
theorem t_airTo (P : p_PL Z D F R p h (g 115)) {z : Nat} (hz : z < 8) (k : Int32) : f_mo_airTo 114 (nI z) k g = some (p_at (p_sp g z k) (p_sv g D) D F, g) := by
  obtain ⟨c1, c2, c3, c4, c5⟩ := P.1
  have d2 : g 115 1 = nI D := P.2.1.2.2.2.1
  have f2 : g 115 2 = nI F := P.2.1.2.2.2.2.2.1
  have inner : ∀ (kk : Nat → Int32 → Int32 → Int32 → Int32 → sm_H → Option (Int32 × sm_H)) (f : Nat) (acc : Int32), f < F → 1 ≤ p_oc g D f → ∀ n d, D - d < n → d ≤ D → f_mo_airTo_L27 kk n 114 (nI z) k (p_ai acc (p_sp g z k f) (p_sv g D f) d) (nI f) (nI (p_oc g D f)) (nI d) g = f_mo_airTo_L107 kk 114 (nI z) k (p_ai acc (p_sp g z k f) (p_sv g D f) D) (nI f) g := by
    intro kk f acc hf hoc n
    have hf6 : f < 6 := by omega
    have hle : p_oc g D f ≤ D := p_cn_le _ _
    obtain ⟨_, _, r, -, -, -, r1, r2, -, -, -, -, -, er2, -⟩ := P.2.2.2.1 f hf
    induction n with
    | zero => intro d y; omega
    | succ n ih =>
      intro d h1 h2
      unfold f_mo_airTo_L27
      rw [s_i1, s_c1, show g (114 + 1) 1 = nI D from d2]
      by_cases y : d = D
      · rw [if_pos (nI_le (by omega) (by omega)), y]
      · have hd16 : d < 16 := by omega
        have nx := ih (d + 1) (by omega) (by omega)
        rw [p_ai_s] at nx
        rw [if_neg (nI_ge (by omega) (by omega)), if_neg (nI_nle (by omega) (by omega))]
        simp only [sm_b2, e_fO3 hf6, Option.bind_some, e_hasBit _ _ _ (show d < 32 by omega), t_isOpen hd16, e_dO1 hd16, e_dO0 hd16, t_airOf hf6 r1 r2 er2, s_nz hoc (show p_oc g D f < 2 ^ 31 by omega), s_true, f_mo_airTo_L101, sm_let, nI_1]
        unfold p_sp at nx
        cases b1 : sm_bt (g 115 (77 + 4 * f)) d
        · rw [b1, if_neg (by simp)] at nx
          rw [if_pos s_bf]
          exact nx
        · rw [if_neg s_bt]
          cases b2 : p_op g d
          · rw [b1, b2, if_neg (by simp)] at nx
            rw [if_pos s_bf]
            exact nx
          · rw [if_neg s_bt]
            by_cases b3 : g 115 (11 + 4 * d) = nI z
            · rw [if_pos b3]
              by_cases b4 : g 115 (10 + 4 * d) = k
              · rw [b1, b2, decide_eq_true b3, decide_eq_true b4, if_pos (by decide)] at nx
                rw [if_pos b4]
                unfold p_sv at nx ⊢
                rw [er2] at nx ⊢
                exact nx
              · rw [b1, b2, decide_eq_true b3, decide_eq_false b4, if_neg (by decide)] at nx
                rw [if_neg b4]
                exact nx
            · rw [b1, b2, decide_eq_false b3, if_neg (by simp)] at nx
              rw [if_neg b3]
              exact nx
  have L : ∀ n f, F - f < n → f ≤ F → f_mo_airTo_L5 n 114 (nI z) k (p_at (p_sp g z k) (p_sv g D) D f) (nI f) g = some (p_at (p_sp g z k) (p_sv g D) D F, g) := by
    intro n
    induction n with
    | zero => intro f y; omega
    | succ n ih =>
      intro f h1 h2
      unfold f_mo_airTo_L5
      rw [s_i2, s_c2, show g (114 + 1) 2 = nI F from f2]
      by_cases y : f = F
      · rw [if_pos (nI_le (by omega) (by omega)), y]
        rfl
      · rw [if_neg (nI_ge (by omega) (by omega)), t_openOf (by omega) c3 d2]
        have nx := ih (f + 1) (by omega) (by omega)
        rw [p_at_s] at nx
        simp only [sm_b2, Option.bind_some]
        by_cases x : 1 ≤ p_oc g D f
        · have e := inner (f_mo_airTo_L5 n) f (p_at (p_sp g z k) (p_sv g D) D f) (by omega) x sm_N 0 (by unfold sm_N; omega) (by omega)
          refine Eq.trans e ?_
          unfold f_mo_airTo_L107
          simp only [sm_let, nI_1]
          exact nx
        · have x0 : p_oc g D f = 0 := by omega
          have pf : ∀ d, d < D → p_sp g z k f d = false := by
            intro d hd
            cases w : p_sp g z k f d
            · rfl
            · unfold p_sp at w
              simp only [Bool.and_eq_true] at w
              have := p_cn_pos (P := fun d => sm_bt (g 115 (77 + 4 * f)) d && p_op g d) D hd (by simp only [Bool.and_eq_true]; exact ⟨w.1, w.2.1⟩)
              unfold p_oc at x0
              omega
          rw [p_ai_0 D pf] at nx
          have hN : sm_N = 19999 + 1 := rfl
          rw [show p_cn (fun d => sm_bt (g 115 (77 + 4 * f)) d && p_op g d) D = 0 from x0, hN]
          unfold f_mo_airTo_L27
          rw [s_i1, s_c1, show g (114 + 1) 1 = nI D from d2]
          by_cases w : D = 0
          · rw [if_pos (show nI D ≤ (0 : Int32) by rw [w]; decide)]
            unfold f_mo_airTo_L107
            simp only [sm_let, nI_1]
            exact nx
          · rw [if_neg (nI_nle (by omega) (by omega)), if_pos (show nI 0 ≤ (0 : Int32) by decide)]
            unfold f_mo_airTo_L107
            simp only [sm_let, nI_1]
            exact nx
  exact L sm_N 0 (by unfold sm_N; omega) (by omega)
-- one fan's dampers
theorem t_divIn (V : p_V s p Z D F R h (g 115)) : ∀ (kk : Nat → Nat → Nat → Int32 → Int32 → sm_H → Option sm_H) (i0 : Nat) (a3 a4 op sh : Int32), i0 = 111 ∨ i0 = 112 → ∀ h1 : sm_H, (∀ i, i < 111 ∨ 112 < i → h1 i = h i) → ∀ n d h2, D - d < n → d ≤ D → (∀ i, i ≠ i0 → h2 i = h1 i) → (∀ z, z < 8 → h2 i0 z = p_ai (h1 i0 z) (fun d => sm_bt op d && decide (g 115 (11 + 4 * d) = nI z)) sh d) → ∃ h', f_en_divideAir_L105 kk n 106 s p a3 a4 op sh i0 (nI d) h2 = f_en_divideAir_L149 kk 106 s p a3 a4 h' ∧ (∀ i, i ≠ i0 → h' i = h1 i) ∧ ∀ z, z < 8 → h' i0 z = p_ai (h1 i0 z) (fun d => sm_bt op d && decide (g 115 (11 + 4 * d) = nI z)) sh D := by
  obtain ⟨⟨c1, c2, c3, c4, c5⟩, -, ⟨d1, d2⟩, ⟨f1, f2⟩, -⟩ := V.cnt
  have hp := V.1
  intro kk i0 a3 a4 op sh hi0 h1 k1 n
  induction n with
  | zero => intro d h2 y; omega
  | succ n ih =>
    intro d h2 y1 y2 y3 y4
    have hh : ∀ i, i ≤ 39 → h2 i = h i := fun i hi => (y3 i (by omega)).trans (k1 i (by omega))
    unfold f_en_divideAir_L105
    rw [show h2 p 1 = nI D by rw [hh p (by omega)]; exact d1]
    by_cases y : d = D
    · rw [if_pos (nI_le (by omega) (by omega))]
      exact ⟨h2, rfl, y3, by rw [← y]; exact y4⟩
    · obtain ⟨_, zz, _, -, hzz, -, -, -, -, ez1, ez2, -⟩ := V.2.2.2.2.2.1 d (by omega)
      have gi : sm_inb (nI d) 16 = true := sm_inb_nI (by omega) (by omega)
      have ci : (nI d).toNatClampNeg = d := nI_clamp (by omega)
      have gz : sm_inb (nI zz) 8 = true := sm_inb_nI (by omega) (by omega)
      have cz : (nI zz).toNatClampNeg = zz := nI_clamp (by omega)
      rw [if_neg (nI_ge (by omega) (by omega)), e_has _ _ _ (by omega)]
      simp only [gi, s_true, ci, show h2 (p + 3) d = nI zz by rw [hh _ (by omega)]; exact ez1, gz, cz, sm_b2, Option.bind_some, f_en_divideAir_L141, sm_let, nI_1]
      have step : ∀ v, v = (if sm_bt op d = true then sh else 0) → ∃ h', f_en_divideAir_L105 kk n 106 s p a3 a4 op sh i0 (nI (d + 1)) (sm_up h2 i0 zz (h2 i0 zz + v)) = f_en_divideAir_L149 kk 106 s p a3 a4 h' ∧ (∀ i, i ≠ i0 → h' i = h1 i) ∧ ∀ z, z < 8 → h' i0 z = p_ai (h1 i0 z) (fun d => sm_bt op d && decide (g 115 (11 + 4 * d) = nI z)) sh D := by
        intro v hv
        refine ih (d + 1) _ (by omega) (by omega) (fun i hi => (sm_up_ne _ _ _ _ _ hi).trans (y3 i hi)) (fun z hz => ?_)
        rw [p_ai_s, ez2]
        by_cases x : z = zz
        · rw [x, p_up_at, y4 zz (by omega), decide_eq_true rfl, Bool.and_true, hv]
          by_cases w : sm_bt op d = true
          · rw [if_pos w, if_pos w]
          · rw [if_neg w, if_neg w, Int32.add_zero]
        · rw [sm_up_off (by omega), y4 z hz, decide_eq_false (fun w => x ((nI_eq (by omega) (by omega)).mp w).symm), Bool.and_false, if_neg (by decide)]
      cases b : sm_bt op d
      · rw [if_pos s_bf]
        exact step 0 (by rw [b, if_neg (by decide)])
      · rw [if_neg s_bt]
        exact step sh (by rw [b, if_pos rfl])
-- the rows of the class
theorem t_divide (V : p_V s p Z D F R h (g 115)) (S : p_ST Y Z D F R s h (g 117) t) (K : p_RK Z D F s h (g 117) (g 115)) : ∃ h', f_en_divideAir 106 s h = some h' ∧ (∀ i, i < 111 ∨ 112 < i → h' i = h i) ∧ ∀ z, z < 8 → h' 111 z = p_at (p_sp g z 0) (p_sv g D) D F ∧ h' 112 z = p_at (p_sp g z 1) (p_sv g D) D F := by
  obtain ⟨⟨c1, c2, c3, c4, c5⟩, -, ⟨d1, d2⟩, ⟨f1, f2⟩, -⟩ := V.cnt
  obtain ⟨i1, i2⟩ := V.isP
  have hp := V.1
  have hs := V.2.1
  obtain ⟨m, m1, m2⟩ := t_proven (h := h) (s := s) hp V.2.2.1 c3 d1
  have m3 : ∀ d, d < 32 → sm_bt m d = (decide (d < D) && p_op g d) := by
    intro d hd
    rw [m2 d hd]
    by_cases y : d < D
    · rw [decide_eq_true y, Bool.true_and, Bool.true_and]
      obtain ⟨_, _, r, -, -, -, -, -, -, -, -, er1, er2, -⟩ := V.2.2.2.2.2.1 d y
      unfold p_op
      rw [show h (s + 3) d = g 117 (42 + 7 * d) from S.1 3 d _ (q_pos y), er1, er2]
    · rw [decide_eq_false y]
      rfl
  have L : ∀ n f h1, F - f < n → f ≤ F → (∀ i, i < 111 ∨ 112 < i → h1 i = h i) → (∀ z, z < 8 → h1 111 z = p_at (p_sp g z 0) (p_sv g D) D f ∧ h1 112 z = p_at (p_sp g z 1) (p_sv g D) D f) → ∃ h', f_en_divideAir_L29 n 106 s p m (nI f) h1 = some h' ∧ (∀ i, i < 111 ∨ 112 < i → h' i = h i) ∧ ∀ z, z < 8 → h' 111 z = p_at (p_sp g z 0) (p_sv g D) D F ∧ h' 112 z = p_at (p_sp g z 1) (p_sv g D) D F := by
    intro n
    induction n with
    | zero => intro f h1 y; omega
    | succ n ih =>
      intro f h1 y1 y2 y3 y4
      have hh : ∀ i, i ≤ 110 → h1 i = h i := fun i hi => y3 i (by omega)
      unfold f_en_divideAir_L29
      rw [show h1 p 2 = nI F by rw [hh p (by omega)]; exact f1]
      by_cases y : f = F
      · rw [if_pos (nI_le (by omega) (by omega))]
        exact ⟨h1, rfl, y3, by rw [← y]; exact y4⟩
      · have hf : f < F := by omega
        have hf6 : f < 6 := by omega
        obtain ⟨kk, vv, r, kk2, -, -, r1, r2, ek1, ek2, ev1, ev2, er1, er2, el, elb⟩ := V.2.2.2.2.2.2.1 f hf
        obtain ⟨⟨Lv, _, hL, -⟩, -, -⟩ := K.2.2.1 f hf
        have hlv : h (s + 3) (16 + f) = g 117 (154 + 6 * f) := S.1 3 (16 + f) _ (q_lev hf)
        have gi : sm_inb (nI (16 + f)) 23 = true := sm_inb_nI (by omega) (by omega)
        have ci : (nI (16 + f)).toNatClampNeg = 16 + f := nI_clamp (by omega)
        have gf : sm_inb (nI f) 6 = true := sm_inb_nI (by omega) (by omega)
        have cf : (nI f).toNatClampNeg = f := nI_clamp (by omega)
        have ob : ∀ d, d < 32 → sm_bt (h (p + 5) f &&& m) d = (sm_bt (g 115 (77 + 4 * f)) d && (decide (d < D) && p_op g d)) := fun d hd => by rw [sm_bt_and, el, m3 d hd]
        have cnt : p_cn (sm_bt (h (p + 5) f &&& m)) 16 = p_oc g D f := by
          unfold p_oc
          rw [p_cn_up (P := sm_bt (h (p + 5) f &&& m)) (d := D) (fun k hk => by
            by_cases w : k < 32
            · rw [ob k w, decide_eq_false (by omega), Bool.false_and, Bool.and_false]
            · exact BitVec.getLsbD_of_ge _ k (by omega)) 16 c3]
          exact p_cn_ext (fun k hk => by rw [ob k (by omega), decide_eq_true hk, Bool.true_and])
        have bc := t_bits (x := h (p + 5) f &&& m) (fun d e1 e2 => by rw [ob d e2, decide_eq_false (by omega), Bool.false_and, Bool.and_false]) h1
        rw [cnt] at bc
        have hle : p_oc g D f ≤ D := p_cn_le _ _
        have fa : f_st_fanAir s (nI f) h1 = some (g 115 (75 + 4 * f) * g 117 (154 + 6 * f) / nI r, h1) := by
          rw [t_fanAir hp (by rw [hh s (by omega)]; exact V.2.2.1) hf6 r1 r2 (by rw [hh _ (by omega)]; exact er1), hh (p + 4) (by omega), hh (s + 3) (by omega), hlv, ev1, ev2]
        -- the rows after this fan
        have fin : ∀ sh, (1 ≤ p_oc g D f → sh = p_sv g D f) → ∃ h', f_en_divideAir_L74 (f_en_divideAir_L29 n) 106 s p m (nI f) (h (p + 5) f &&& m) sh h1 = some h' ∧ (∀ i, i < 111 ∨ 112 < i → h' i = h i) ∧ ∀ z, z < 8 → h' 111 z = p_at (p_sp g z 0) (p_sv g D) D F ∧ h' 112 z = p_at (p_sp g z 1) (p_sv g D) D F := by
          intro sh hsh
          -- which of the two sums this fan feeds
          have same : ∀ (acc : Int32) (z : Nat) (k : Int32), nI kk = k → p_ai acc (fun d => sm_bt (h (p + 5) f &&& m) d && decide (g 115 (11 + 4 * d) = nI z)) sh D = p_ai acc (p_sp g z k f) (p_sv g D f) D := by
            intro acc z k hk
            have e1 : ∀ d, d < D → (sm_bt (h (p + 5) f &&& m) d && decide (g 115 (11 + 4 * d) = nI z)) = p_sp g z k f d := by
              intro d hd
              unfold p_sp
              rw [ob d (by omega), decide_eq_true hd, Bool.true_and]
              cases w : sm_bt (g 115 (77 + 4 * f)) d
              · rfl
              · obtain ⟨_, w2⟩ := elb d (by omega) (by rw [el]; exact w)
                obtain ⟨k', _, _, -, -, -, -, g1, g2, -⟩ := V.2.2.2.2.2.1 d hd
                have : g 115 (10 + 4 * d) = k := by rw [g2, ← g1, w2, hk]
                rw [decide_eq_true this, Bool.and_true, Bool.true_and, Bool.true_and]
            rw [p_ai_e D e1]
            by_cases x : 1 ≤ p_oc g D f
            · rw [hsh x]
            · have pf : ∀ d, d < D → p_sp g z k f d = false := by
                intro d hd
                cases w : p_sp g z k f d
                · rfl
                · unfold p_sp at w
                  simp only [Bool.and_eq_true] at w
                  have := p_cn_pos (P := fun d => sm_bt (g 115 (77 + 4 * f)) d && p_op g d) D hd (by simp only [Bool.and_eq_true]; exact ⟨w.1, w.2.1⟩)
                  unfold p_oc at x
                  omega
              rw [p_ai_0 D pf, p_ai_0 D pf]
          have other : ∀ (acc : Int32) (z : Nat) (k : Int32), nI kk ≠ k → p_ai acc (p_sp g z k f) (p_sv g D f) D = acc := by
            intro acc z k hk
            apply p_ai_0
            intro d hd
            unfold p_sp
            cases w : sm_bt (g 115 (77 + 4 * f)) d
            · rfl
            · obtain ⟨_, w2⟩ := elb d (by omega) (by rw [el]; exact w)
              obtain ⟨k', _, _, -, -, -, -, g1, g2, -⟩ := V.2.2.2.2.2.1 d hd
              have : ¬ g 115 (10 + 4 * d) = k := by rw [g2, ← g1, w2]; exact hk
              rw [decide_eq_false this, Bool.and_false, Bool.and_false, Bool.and_false]
          unfold f_en_divideAir_L74 f_en_divideAir_L100
          rw [show (16 : Int32) + nI f = nI (16 + f) from nI_add 16 f]
          simp only [gi, s_true, ci, show h1 (p + 1) (16 + f) = nI kk by rw [hh _ (by omega)]; exact ek1, Nat.reduceAdd]
          by_cases x : nI kk = 0
          · rw [if_pos x]
            obtain ⟨h', e1, e2, e3⟩ := t_divIn V (f_en_divideAir_L29 n) 111 m (nI f) (h (p + 5) f &&& m) sh (Or.inl rfl) h1 y3 sm_N 0 h1 (by unfold sm_N; omega) (by omega) (fun _ _ => rfl) (fun _ _ => rfl)
            rw [(congrArg (fun x => f_en_divideAir_L105 (f_en_divideAir_L29 n) sm_N 106 s p m (nI f) (h (p + 5) f &&& m) sh 111 x h1) (show (0 : Int32) = nI 0 from rfl)).trans e1]
            simp only [f_en_divideAir_L149, sm_let, nI_1]
            refine ih (f + 1) h' (by omega) (by omega) (fun i hi => (e2 i (by omega)).trans (y3 i hi)) (fun z hz => ⟨?_, ?_⟩)
            · rw [e3 z hz, p_at_s, (y4 z hz).1]
              exact same _ z 0 x
            · rw [e2 112 (by omega), (y4 z hz).2, p_at_s]
              exact (other _ z 1 (by rw [x]; decide)).symm
          · rw [if_neg x]
            obtain ⟨h', e1, e2, e3⟩ := t_divIn V (f_en_divideAir_L29 n) 112 m (nI f) (h (p + 5) f &&& m) sh (Or.inr rfl) h1 y3 sm_N 0 h1 (by unfold sm_N; omega) (by omega) (fun _ _ => rfl) (fun _ _ => rfl)
            rw [(congrArg (fun x => f_en_divideAir_L105 (f_en_divideAir_L29 n) sm_N 106 s p m (nI f) (h (p + 5) f &&& m) sh 112 x h1) (show (0 : Int32) = nI 0 from rfl)).trans e1]
            simp only [f_en_divideAir_L149, sm_let, nI_1]
            refine ih (f + 1) h' (by omega) (by omega) (fun i hi => (e2 i (by omega)).trans (y3 i hi)) (fun z hz => ⟨?_, ?_⟩)
            · rw [e2 111 (by omega), (y4 z hz).1, p_at_s]
              exact (other _ z 0 x).symm
            · rw [e3 z hz, p_at_s, (y4 z hz).2]
              by_cases w : nI kk = 1
              · exact same _ z 1 w
              · have k2 : kk = 2 := by
                  match kk, kk2 with
                  | 0, _ => exact absurd rfl x
                  | 1, _ => exact absurd rfl w
                  | 2, _ => rfl
                  | k + 3, z => omega
                have nob : ∀ d, d < D → sm_bt (g 115 (77 + 4 * f)) d = false := by
                  intro d hd
                  cases w : sm_bt (g 115 (77 + 4 * f)) d
                  · rfl
                  · obtain ⟨_, w2⟩ := elb d (by omega) (by rw [el]; exact w)
                    obtain ⟨k', _, _, k1', -, -, -, g1, g2, -⟩ := V.2.2.2.2.2.1 d hd
                    rw [w2, k2] at g1
                    have := (nI_eq (by omega) (by omega)).mp g1
                    omega
                rw [p_ai_0 D (fun d hd => by rw [ob d (by omega), nob d hd]; rfl), p_ai_0 D (fun d hd => by unfold p_sp; rw [nob d hd]; rfl)]
        rw [if_neg (nI_ge (by omega) (by omega))]
        simp only [gf, s_true, cf, sm_let, show h1 (p + 5) f = h (p + 5) f by rw [hh _ (by omega)], bc, sm_b2, Option.bind_some, fa]
        by_cases x : p_oc g D f = 0
        · rw [if_pos (show nI (p_oc g D f) ≤ (0 : Int32) by rw [x]; decide)]
          exact fin 0 (fun w => by omega)
        · rw [if_neg (nI_nle (by omega) (by omega)), s_nz (by omega) (by omega), s_true]
          exact fin _ (fun _ => by unfold p_sv; rw [er2])
  have l5 : sm_len 111 = 8 := by decide +kernel
  have l6 : sm_len 112 = 8 := by decide +kernel
  have e : f_en_divideAir 106 s h = f_en_divideAir_L29 sm_N 106 s p m (nI 0) (sm_row (sm_row h 111 fun k => if k < sm_len 111 then 0 else h 111 k) 112 fun k => if k < sm_len 112 then 0 else (sm_row h 111 fun k => if k < sm_len 111 then 0 else h 111 k) 112 k) := by
    unfold f_en_divideAir
    rw [i1, s_true, i2]
    refine w_lt ?_
    refine w_b2 m1 ?_
    refine w_bd (e_fill 111 0 h (by rw [l5]; omega)) ?_
    refine w_bd (e_fill 112 0 _ (by rw [l6]; omega)) ?_
    rfl
  rw [e]
  refine L sm_N 0 _ (by unfold sm_N; omega) (by omega) (fun i hi => by rw [p_row_off (by omega), p_row_off (by omega)]) (fun z hz => ⟨?_, ?_⟩)
  · rw [p_row_off (by omega), p_row_at, l5, if_pos hz]
    rfl
  · rw [p_row_at, l6, if_pos hz]
    rfl
end p_supply
