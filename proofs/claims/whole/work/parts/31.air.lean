-- COUNTING BITS; which dampers are proven open; whether a fan has a way
def p_cn (P : Nat → Bool) : Nat → Nat
  | 0 => 0
  | n + 1 => p_cn P n + (if P n = true then 1 else 0)
theorem p_cn_le (P : Nat → Bool) (n : Nat) : p_cn P n ≤ n := by
  induction n with
  | zero => exact Nat.le_refl _
  | succ n ih =>
    unfold p_cn
    split <;> omega
theorem p_cn_ext {P Q : Nat → Bool} {n : Nat} (h : ∀ k, k < n → P k = Q k) : p_cn P n = p_cn Q n := by
  induction n with
  | zero => rfl
  | succ n ih =>
    unfold p_cn
    rw [ih (fun k hk => h k (by omega)), h n (by omega)]
theorem p_cn_up {P : Nat → Bool} {d : Nat} (h : ∀ k, d ≤ k → P k = false) : ∀ n, d ≤ n → p_cn P n = p_cn P d := by
  intro n
  induction n with
  | zero => intro z; rw [Nat.le_zero.mp z]
  | succ n ih =>
    intro z
    by_cases y : d = n + 1
    · rw [y]
    · have e : p_cn P (n + 1) = p_cn P n + (if P n = true then 1 else 0) := rfl
      rw [e, h n (by omega), if_neg (by decide), ih (by omega)]
      rfl
theorem p_cn_pos {P : Nat → Bool} {k : Nat} : ∀ n, k < n → P k = true → 1 ≤ p_cn P n := by
  intro n
  induction n with
  | zero => intro z; omega
  | succ n ih =>
    intro z y
    unfold p_cn
    by_cases x : k = n
    · rw [← x, if_pos y]; omega
    · have := ih (by omega) y
      omega
theorem p_cn_0 {P : Nat → Bool} : ∀ n, (∀ k, k < n → P k = false) → p_cn P n = 0 := by
  intro n
  induction n with
  | zero => intro _; rfl
  | succ n ih =>
    intro z
    unfold p_cn
    rw [ih (fun k hk => z k (by omega)), z n (by omega)]
    rfl
def p_b1 (n : Nat) : Nat := n - (n / 2 ^ 1 &&& 1431655765)
def p_b2 (n : Nat) : Nat := (n &&& 858993459) + (n / 2 ^ 2 &&& 858993459)
def p_b3 (n : Nat) : Nat := n + n / 2 ^ 4 &&& 252645135
def p_bc (n : Nat) : Nat := (p_b3 (p_b2 (p_b1 n)) + p_b3 (p_b2 (p_b1 n)) / 2 ^ 8) + (p_b3 (p_b2 (p_b1 n)) + p_b3 (p_b2 (p_b1 n)) / 2 ^ 8) / 2 ^ 16 &&& 63
theorem p_asp {a b m l : Nat} (hb : b < 2 ^ 8) (hl : l < 2 ^ 8) : (2 ^ 8 * a + b) &&& (2 ^ 8 * m + l) = 2 ^ 8 * (a &&& m) + (b &&& l) := by
  apply Nat.eq_of_testBit_eq
  intro j
  have hbl : b &&& l < 2 ^ 8 := Nat.lt_of_le_of_lt Nat.and_le_left hb
  rw [Nat.testBit_and, Nat.testBit_two_pow_mul_add a hb, Nat.testBit_two_pow_mul_add m hl, Nat.testBit_two_pow_mul_add (a &&& m) hbl]
  split
  · rw [Nat.testBit_and]
  · rw [Nat.testBit_and]
def p_x1 (a : Nat) : Nat := a - (a / 2 &&& 5592405)
def p_y1 (b : Nat) : Nat := b - (b / 2 &&& 85)
def p_x2 (a : Nat) : Nat := (a &&& 3355443) + (a / 4 &&& 3355443)
def p_y2 (b : Nat) : Nat := (b &&& 51) + (b / 4 &&& 51)
def p_x3 (a : Nat) : Nat := a + a / 16 &&& 986895
def p_y3 (b : Nat) : Nat := b + b / 16 &&& 15
theorem p_t1 : ((List.range 2).all fun c => (List.range 128).all fun y => Nat.beq (128 * c + y &&& 85) (y &&& 85)) = true := by decide +kernel
theorem p_t2 : ((List.range 4).all fun c => (List.range 64).all fun y => Nat.beq (64 * c + y &&& 51) (y &&& 51)) = true := by decide +kernel
theorem p_t3 : ((List.range 16).all fun c => (List.range 128).all fun y => Nat.beq (16 * c + y &&& 15) (y &&& 15)) = true := by decide +kernel
theorem p_tb2 (f : Nat → Nat → Bool) {m n a b : Nat} (h : ((List.range m).all fun c => (List.range n).all fun y => f c y) = true) (ha : a < m) (hb : b < n) : f a b = true := List.all_eq_true.mp (List.all_eq_true.mp h a (List.mem_range.mpr ha)) b (List.mem_range.mpr hb)
theorem p_b1s {a b : Nat} (hb : b < 256) : p_b1 (256 * a + b) = 256 * p_x1 a + p_y1 b := by
  have e : (256 * a + b) / 2 ^ 1 = 2 ^ 8 * (a / 2) + (128 * (a % 2) + b / 2) := by omega
  have k := p_asp (a := a / 2) (b := 128 * (a % 2) + b / 2) (m := 5592405) (l := 85) (by omega) (by omega)
  have t : 128 * (a % 2) + b / 2 &&& 85 = b / 2 &&& 85 := Nat.eq_of_beq_eq_true (p_tb2 (fun c y => Nat.beq (128 * c + y &&& 85) (y &&& 85)) p_t1 (by omega) (by omega))
  have l1 : a / 2 &&& 5592405 ≤ a / 2 := Nat.and_le_left
  have l2 : b / 2 &&& 85 ≤ b / 2 := Nat.and_le_left
  have k' : (256 * a + b) / 2 ^ 1 &&& 1431655765 = 2 ^ 8 * (a / 2 &&& 5592405) + (b / 2 &&& 85) := by
    rw [e, ← t]
    exact k
  unfold p_b1 p_x1 p_y1
  rw [k']
  omega
theorem p_b2s {a b : Nat} (hb : b < 256) : p_b2 (256 * a + b) = 256 * p_x2 a + p_y2 b := by
  have e : (256 * a + b) / 2 ^ 2 = 2 ^ 8 * (a / 4) + (64 * (a % 4) + b / 4) := by omega
  have k1 := p_asp (a := a) (b := b) (m := 3355443) (l := 51) (by omega) (by omega)
  have k2 := p_asp (a := a / 4) (b := 64 * (a % 4) + b / 4) (m := 3355443) (l := 51) (by omega) (by omega)
  have t : 64 * (a % 4) + b / 4 &&& 51 = b / 4 &&& 51 := Nat.eq_of_beq_eq_true (p_tb2 (fun c y => Nat.beq (64 * c + y &&& 51) (y &&& 51)) p_t2 (by omega) (by omega))
  have k2' : (256 * a + b) / 2 ^ 2 &&& 858993459 = 2 ^ 8 * (a / 4 &&& 3355443) + (b / 4 &&& 51) := by
    rw [e, ← t]
    exact k2
  have k1' : (256 * a + b) &&& 858993459 = 2 ^ 8 * (a &&& 3355443) + (b &&& 51) := k1
  unfold p_b2 p_x2 p_y2
  rw [k1', k2']
  omega
theorem p_b3s {a b : Nat} (hb : b + b / 16 < 128) (ha : a % 16 < 8) : p_b3 (256 * a + b) = 256 * p_x3 a + p_y3 b := by
  have e : (256 * a + b) + (256 * a + b) / 2 ^ 4 = 2 ^ 8 * (a + a / 16) + (16 * (a % 16) + (b + b / 16)) := by omega
  have k := p_asp (a := a + a / 16) (b := 16 * (a % 16) + (b + b / 16)) (m := 986895) (l := 15) (by omega) (by omega)
  have t : 16 * (a % 16) + (b + b / 16) &&& 15 = b + b / 16 &&& 15 := Nat.eq_of_beq_eq_true (p_tb2 (fun c y => Nat.beq (16 * c + y &&& 15) (y &&& 15)) p_t3 (by omega) (by omega))
  unfold p_b3 p_x3 p_y3
  rw [e, ← t]
  exact k
theorem p_tx : ((List.range 256).all fun a => Nat.beq (p_x3 (p_x2 (p_x1 a))) (p_cn (fun k => Nat.testBit a k) 8) && Nat.ble (p_x2 (p_x1 a) % 16) 7) = true := by decide +kernel
theorem p_ty : ((List.range 256).all fun a => Nat.beq (p_y3 (p_y2 (p_y1 a))) (p_cn (fun k => Nat.testBit a k) 8) && Nat.ble (p_y2 (p_y1 a) + p_y2 (p_y1 a) / 16) 127 && Nat.ble (p_y1 a) 255) = true := by decide +kernel
theorem p_tn (a : Nat) : Nat.beq (a % 64) (a % 64) = true := Nat.beq_refl _
theorem p_cn_add (P : Nat → Bool) (m n : Nat) : p_cn P (m + n) = p_cn P m + p_cn (fun k => P (m + k)) n := by
  induction n with
  | zero => rfl
  | succ n ih =>
    show p_cn P (m + n) + (if P (m + n) = true then 1 else 0) = p_cn P m + (p_cn (fun k => P (m + k)) n + (if P (m + n) = true then 1 else 0))
    rw [ih]
    omega
theorem p_a63 (x : Nat) : x &&& 63 = x % 64 := Nat.and_two_pow_sub_one_eq_mod x 6
theorem p_bc_eq {n : Nat} (h : n < 65536) : p_bc n = p_cn (fun k => Nat.testBit n k) 16 := by
  have en : n = 256 * (n / 256) + n % 256 := by omega
  generalize ha : n / 256 = a at en
  generalize hb : n % 256 = b at en
  have la : a < 256 := by omega
  have lb : b < 256 := by omega
  have tx := List.all_eq_true.mp p_tx a (List.mem_range.mpr la)
  have ty := List.all_eq_true.mp p_ty b (List.mem_range.mpr lb)
  simp only [Bool.and_eq_true] at tx ty
  have x1 := Nat.eq_of_beq_eq_true tx.1
  have x2 := Nat.le_of_ble_eq_true tx.2
  have y1 := Nat.eq_of_beq_eq_true ty.1.1
  have y2 := Nat.le_of_ble_eq_true ty.1.2
  have y3 := Nat.le_of_ble_eq_true ty.2
  have c1 := p_cn_le (fun k => Nat.testBit a k) 8
  have c2 := p_cn_le (fun k => Nat.testBit b k) 8
  have e3 : p_b3 (p_b2 (p_b1 n)) = 256 * p_cn (fun k => Nat.testBit a k) 8 + p_cn (fun k => Nat.testBit b k) 8 := by
    rw [en, p_b1s lb, p_b2s (by omega), p_b3s (by omega) (by omega), x1, y1]
  have s1 : p_cn (fun k => Nat.testBit n k) 8 = p_cn (fun k => Nat.testBit b k) 8 := by
    apply p_cn_ext
    intro k hk
    rw [en, show 256 * a + b = 2 ^ 8 * a + b from rfl, Nat.testBit_two_pow_mul_add a (by omega), if_pos hk]
  have s2 : p_cn (fun k => Nat.testBit n (8 + k)) 8 = p_cn (fun k => Nat.testBit a k) 8 := by
    apply p_cn_ext
    intro k hk
    rw [en, show 256 * a + b = 2 ^ 8 * a + b from rfl, Nat.testBit_two_pow_mul_add a (by omega), if_neg (by omega), show 8 + k - 8 = k by omega]
  have s3 := p_cn_add (fun k => Nat.testBit n k) 8 8
  rw [s1, s2] at s3
  unfold p_bc
  have s4 : p_cn (fun k => Nat.testBit n k) 16 = p_cn (fun k => Nat.testBit b k) 8 + p_cn (fun k => Nat.testBit a k) 8 := s3
  rw [e3, p_a63, s4]
  generalize p_cn (fun k => Nat.testBit b k) 8 = y at c2 ⊢
  generalize p_cn (fun k => Nat.testBit a k) 8 = x at c1 ⊢
  have m1 : (256 * x + y) / 2 ^ 8 = x := by omega
  rw [m1]
  have m2 : (256 * x + y + x) / 2 ^ 16 = 0 := by omega
  rw [m2]
  have m3 : 256 * x + y + x + 0 = 64 * (4 * x) + (x + y) := by omega
  rw [m3, Nat.mul_add_mod, Nat.mod_eq_of_lt (by omega)]
  omega
theorem nI_and (a b : Nat) : nI a &&& nI b = nI (a &&& b) := by
  apply Int32.toBitVec_inj.mp
  show BitVec.ofNat 32 a &&& BitVec.ofNat 32 b = BitVec.ofNat 32 (a &&& b)
  exact BitVec.ofNat_and.symm
theorem t_bitsN {n : Nat} (hn : n < 65536) (h : sm_H) : f_ji_bitCount (nI n) h = some (nI (p_bc n), h) := by
  have u1 := pk_ushrN (n := n) (by omega) (s := 1) 1 (by decide)
  have l1 : n / 2 ^ 1 &&& 1431655765 ≤ n / 2 ^ 1 := Nat.and_le_left
  have e1 : nI n - nI (n / 2 ^ 1 &&& 1431655765) = nI (p_b1 n) := nI_sub (by omega)
  have m1 : p_b1 n ≤ n := Nat.sub_le _ _
  have u2 := pk_ushrN (n := p_b1 n) (by omega) (s := 2) 2 (by decide)
  have l2 : p_b1 n &&& 858993459 ≤ p_b1 n := Nat.and_le_left
  have l2' : p_b1 n / 2 ^ 2 &&& 858993459 ≤ p_b1 n / 2 ^ 2 := Nat.and_le_left
  have m2 : p_b2 (p_b1 n) ≤ 2 * n := by unfold p_b2; omega
  have u3 := pk_ushrN (n := p_b2 (p_b1 n)) (by omega) (s := 4) 4 (by decide)
  have m3 : p_b3 (p_b2 (p_b1 n)) ≤ 4 * n := by
    have : p_b3 (p_b2 (p_b1 n)) ≤ p_b2 (p_b1 n) + p_b2 (p_b1 n) / 2 ^ 4 := Nat.and_le_left
    omega
  have u4 := pk_ushrN (n := p_b3 (p_b2 (p_b1 n))) (by omega) (s := 8) 8 (by decide)
  have u5 := pk_ushrN (n := p_b3 (p_b2 (p_b1 n)) + p_b3 (p_b2 (p_b1 n)) / 2 ^ 8) (by omega) (s := 16) 16 (by decide)
  have c1 : (1431655765 : Int32) = nI 1431655765 := rfl
  have c2 : (858993459 : Int32) = nI 858993459 := rfl
  have c3 : (252645135 : Int32) = nI 252645135 := rfl
  have c4 : (63 : Int32) = nI 63 := rfl
  unfold f_ji_bitCount
  simp only [sm_let]
  rw [u1, c1, nI_and, e1, u2, c2, nI_and, nI_and, nI_add]
  change (some (_ &&& (63 : Int32), h) = _)
  have e2 : nI ((p_b1 n &&& 858993459) + (p_b1 n / 2 ^ 2 &&& 858993459)) = nI (p_b2 (p_b1 n)) := rfl
  rw [e2, u3, c3, nI_add, nI_and]
  have e3 : nI (p_b2 (p_b1 n) + p_b2 (p_b1 n) / 2 ^ 4 &&& 252645135) = nI (p_b3 (p_b2 (p_b1 n))) := rfl
  rw [e3, u4, nI_add, u5, nI_add, c4, nI_and]
  rfl
theorem t_bits {x : Int32} (hx : ∀ j, 16 ≤ j → j < 32 → sm_bt x j = false) (h : sm_H) : f_ji_bitCount x h = some (nI (p_cn (sm_bt x) 16), h) := by
  have hb : ∀ i, 16 ≤ i → Nat.testBit x.toBitVec.toNat i = false := by
    intro i hi
    by_cases z : i < 32
    · exact hx i hi z
    · exact BitVec.getLsbD_of_ge x.toBitVec i (by omega)
  have hl : x.toBitVec.toNat < 2 ^ 16 := Nat.lt_pow_two_of_testBit _ hb
  have e : x = nI x.toBitVec.toNat := by
    apply Int32.toBitVec_inj.mp
    show x.toBitVec = BitVec.ofNat 32 x.toBitVec.toNat
    rw [BitVec.ofNat_toNat, BitVec.setWidth_eq]
  have k := t_bitsN (n := x.toBitVec.toNat) (by omega) h
  rw [← e, p_bc_eq (by omega)] at k
  exact k
section p_open
variable {p s D : Nat} {h g : sm_H}
def p_op (g : sm_H) (d : Nat) : Bool := decide (g 117 (42 + 7 * d) = g 115 (12 + 4 * d))
theorem t_isOpen {d : Nat} (hd : d < 16) : f_mo_isOpen 114 (nI d) g = some (sm_b2i (p_op g d), g) := by
  have e : 42 + 7 * d + 0 = 42 + 7 * d := rfl
  have e' : 10 + 4 * d + 2 = 12 + 4 * d := by omega
  unfold p_op
  by_cases z : g 117 (42 + 7 * d) = g 115 (12 + 4 * d)
  · simp (disch := omega) only [f_mo_isOpen, f_mo_isOpen_L20, sm_b2, Option.bind_some, s_l0, s_l2, e_damperIs, e_damperOf, e, e', z, if_true, decide_true]
    rfl
  · simp (disch := omega) only [f_mo_isOpen, f_mo_isOpen_L20, sm_b2, Option.bind_some, s_l0, s_l2, e_damperIs, e_damperOf, e, e', z, if_false, decide_false]
    rfl
theorem t_openOf {f : Nat} (hf : f < 6) (hD : D ≤ 16) (e1 : g 115 1 = nI D) : f_mo_openOf 114 (nI f) g = some (nI (p_cn (fun d => sm_bt (g 115 (77 + 4 * f)) d && p_op g d) D), g) := by
  have K : ∀ n i, D - i < n → i ≤ D → f_mo_openOf_L4 n 114 (nI f) (nI (p_cn (fun d => sm_bt (g 115 (77 + 4 * f)) d && p_op g d) i)) (nI i) g = some (nI (p_cn (fun d => sm_bt (g 115 (77 + 4 * f)) d && p_op g d) D), g) := by
    intro n
    induction n with
    | zero => intro i z; omega
    | succ n ih =>
      intro i h1 h2
      have e : 74 + 4 * f + 3 = 77 + 4 * f := by omega
      have c1 : (1 : Int32).toNatClampNeg = 1 := by decide
      unfold f_mo_openOf_L4
      rw [sm_gd_t (by decide), c1, show g (114 + 1) 1 = nI D from e1]
      by_cases z : i = D
      · rw [if_pos (nI_le (by omega) (by omega)), z]
        rfl
      · have ih' := ih (i + 1) (by omega) (by omega)
        have ec : p_cn (fun d => sm_bt (g 115 (77 + 4 * f)) d && p_op g d) (i + 1) = p_cn (fun d => sm_bt (g 115 (77 + 4 * f)) d && p_op g d) i + (if (sm_bt (g 115 (77 + 4 * f)) i && p_op g i) = true then 1 else 0) := rfl
        rw [ec] at ih'
        rw [if_neg (nI_ge (by omega) (by omega))]
        simp (disch := omega) only [f_mo_openOf_L41, f_mo_openOf_L42, sm_b2, sm_let, Option.bind_some, s_l3, e_fanOf, e, e_hasBit, nI_1]
        cases hb : sm_bt (g 115 (77 + 4 * f)) i
        · rw [hb] at ih'
          rw [if_pos (by decide)]
          exact ih'
        · rw [hb] at ih'
          rw [if_neg (by decide), t_isOpen (by omega)]
          simp only [Option.bind_some]
          cases ho : p_op g i
          · rw [ho] at ih'
            rw [if_pos (by decide)]
            exact ih'
          · rw [ho] at ih'
            rw [if_neg (by decide)]
            exact ih'
  unfold f_mo_openOf
  exact K sm_N 0 (by unfold sm_N; omega) (by omega)
theorem t_proven (hp : p = 1 ∨ p = 24) (h0 : h s 0 = nI p) (hD : D ≤ 16) (e1 : h p 1 = nI D) : ∃ m, f_st_provenOpen s h = some (m, h) ∧ ∀ j, j < 32 → sm_bt m j = (decide (j < D) && decide (h (s + 3) j = h (p + 2) j)) := by
  obtain ⟨i1, i2⟩ := p_isPp hp
  have K : ∀ n i m, D - i < n → i ≤ D → (∀ j, j < 32 → sm_bt m j = (decide (j < i) && decide (h (s + 3) j = h (p + 2) j))) → ∃ m', f_st_provenOpen_L4 n s m (nI i) h = some (m', h) ∧ ∀ j, j < 32 → sm_bt m' j = (decide (j < D) && decide (h (s + 3) j = h (p + 2) j)) := by
    intro n
    induction n with
    | zero => intro i m z; omega
    | succ n ih =>
      intro i m h1 h2 hm
      unfold f_st_provenOpen_L4
      simp only [f_st_provenOpen_L40, f_st_provenOpen_L50, sm_let, sm_b2, h0, i1, i2, s_true, e1]
      by_cases z : i = D
      · rw [if_pos (nI_le (by omega) (by omega))]
        exact ⟨m, rfl, by rw [← z]; exact hm⟩
      · rw [if_neg (nI_ge (by omega) (by omega)), sm_gd_t (sm_inb_nI (by omega) (by omega)), sm_gd_t (sm_inb_nI (by omega) (by omega)), nI_clamp (by omega), e_with, e_with]
        simp only [Option.bind_some, nI_1]
        by_cases y : h (s + 3) i = h (p + 2) i
        · rw [if_pos y]
          refine ih (i + 1) _ (by omega) (by omega) (fun j hj => ?_)
          rw [sm_bt_wb _ _ _ _ (by omega) hj]
          by_cases x : j = i
          · rw [if_pos x, x, y]
            simp
          · rw [if_neg x, hm j hj]
            congr 1
            rw [decide_eq_decide]
            omega
        · rw [if_neg y]
          refine ih (i + 1) _ (by omega) (by omega) (fun j hj => ?_)
          rw [sm_bt_wb _ _ _ _ (by omega) hj]
          by_cases x : j = i
          · rw [if_pos x, x]
            simp [y]
          · rw [if_neg x, hm j hj]
            congr 1
            rw [decide_eq_decide]
            omega
  unfold f_st_provenOpen
  exact K sm_N 0 0 (by unfold sm_N; omega) (by omega) (fun j hj => by rw [sm_bt0]; rfl)
theorem t_way (hp : p = 1 ∨ p = 24) (h0 : h s 0 = nI p) (hD : D ≤ 16) (e1 : g 115 1 = nI D) {f : Nat} (hf : f < 6) (ek : h (p + 1) (16 + f) = g 115 (74 + 4 * f)) (el : h (p + 5) f = g 115 (77 + 4 * f)) {m : Int32} (hm : ∀ j, j < 32 → sm_bt m j = (decide (j < D) && p_op g j)) : ∃ b, f_st_hasWay s (nI f) m h = some (sm_b2i b, h) ∧ f_mo_isClear 114 (nI f) g = some (sm_b2i b, g) := by
  obtain ⟨i1, i2⟩ := p_isPp hp
  have e0 : 74 + 4 * f + 0 = 74 + 4 * f := rfl
  have bb : ∀ x : Int32, ((h (p + 5) f &&& m) = 0) = (p_cn (fun d => sm_bt (g 115 (77 + 4 * f)) d && p_op g d) D = 0) := by
    intro _
    apply propext
    constructor
    · intro z
      apply p_cn_0
      intro k hk
      have : sm_bt (h (p + 5) f &&& m) k = false := by rw [z, sm_bt0]
      rw [sm_bt_and, hm k (by omega), el, decide_eq_true hk, Bool.true_and] at this
      exact this
    · intro z
      apply sm_bt_ext
      intro j hj
      rw [sm_bt0, sm_bt_and, hm j hj, el]
      by_cases y : j < D
      · rw [decide_eq_true y, Bool.true_and]
        cases x : (sm_bt (g 115 (77 + 4 * f)) j && p_op g j)
        · rfl
        · have := p_cn_pos (P := fun d => sm_bt (g 115 (77 + 4 * f)) d && p_op g d) D y x
          omega
      · rw [decide_eq_false y, Bool.false_and, Bool.and_false]
  have hc := p_cn_le (fun d => sm_bt (g 115 (77 + 4 * f)) d && p_op g d) D
  refine ⟨decide (g 115 (74 + 4 * f) = 2) || decide (¬ p_cn (fun d => sm_bt (g 115 (77 + 4 * f)) d && p_op g d) D = 0), ?_, ?_⟩
  · unfold f_st_hasWay f_st_hasWay_L25 f_st_hasWay_L30
    simp (disch := omega) only [h0, i1, i2, s_true, sm_let, sm_b2, t_isStair hf, Option.bind_some, sm_inb_nI, nI_clamp, ek]
    by_cases z : g 115 (74 + 4 * f) = 2
    · rw [decide_eq_true z, if_neg (by decide)]
      rfl
    · rw [decide_eq_false z, if_pos (by decide)]
      by_cases y : p_cn (fun d => sm_bt (g 115 (77 + 4 * f)) d && p_op g d) D = 0
      · rw [if_pos ((bb 0).mpr y), decide_eq_false (fun x => x y)]
        rfl
      · rw [if_neg (fun x => y ((bb 0).mp x)), decide_eq_true y]
        rfl
  · unfold f_mo_isClear f_mo_isClear_L18 f_mo_isClear_L23
    have e00 : f_mo_fanOf 114 (nI f) 0 g = some (g 115 (74 + 4 * f), g) := e_fanOf (w := 0) hf (by omega) g
    simp only [sm_b2, e00, Option.bind_some, t_openOf hf hD e1]
    by_cases z : g 115 (74 + 4 * f) = 2
    · rw [if_pos z, decide_eq_true z]
      rfl
    · rw [if_neg z, decide_eq_false z]
      by_cases y : p_cn (fun d => sm_bt (g 115 (77 + 4 * f)) d && p_op g d) D = 0
      · rw [y, if_pos (show nI 0 ≤ (0 : Int32) by decide), decide_eq_false (fun x => x rfl)]
        rfl
      · rw [if_neg (show ¬ nI _ ≤ (0 : Int32) from nI_nle (by omega) (by omega)), decide_eq_true y]
        rfl
end p_open
