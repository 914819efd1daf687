-- THE LOG: a ring of rows on one side, a row that is shifted on the other
theorem p_row_at {h : sm_H} {i : Nat} {f : Nat → Int32} : sm_row h i f i = f := by unfold sm_row; rw [if_pos rfl]
theorem p_row_off {h : sm_H} {i j : Nat} {f : Nat → Int32} (e : ¬ j = i) : sm_row h i f j = h j := by unfold sm_row; rw [if_neg e]
theorem p_row_up {h : sm_H} {i k : Nat} {f : Nat → Int32} {v : Int32} : sm_up (sm_row h i f) i k v = sm_row h i (upd f k v) := by
  funext j q
  unfold sm_up sm_row upd
  by_cases e : j = i
  · subst e
    by_cases z : q = k <;> simp [z]
  · simp [e]
theorem p_row_self (h : sm_H) (i : Nat) : sm_row h i (h i) = h := by
  funext j
  unfold sm_row
  by_cases e : j = i
  · rw [if_pos e, e]
  · rw [if_neg e]
theorem p_row_row {h : sm_H} {i : Nat} {f f' : Nat → Int32} : sm_row (sm_row h i f) i f' = sm_row h i f' := by
  funext j
  unfold sm_row
  by_cases e : j = i <;> simp [e]
theorem p_xor_pos {t : Nat} (ht : t < 2 ^ 31) : 0 ≤ (nI t ^^^ 50) := by
  have e : nI t ^^^ 50 = nI (t ^^^ 50) := by
    apply Int32.toBitVec_inj.mp
    apply BitVec.eq_of_toNat_eq
    show (BitVec.ofNat 32 t ^^^ BitVec.ofNat 32 50).toNat = (BitVec.ofNat 32 (t ^^^ 50)).toNat
    have h2 : t ^^^ 50 < 2 ^ 31 := Nat.xor_lt_two_pow ht (by omega)
    rw [BitVec.toNat_xor, BitVec.toNat_ofNat, BitVec.toNat_ofNat, BitVec.toNat_ofNat, Nat.mod_eq_of_lt (by omega), Nat.mod_eq_of_lt (by omega), Nat.mod_eq_of_lt (by omega)]
  rw [e]
  exact nI_pos' (Nat.xor_lt_two_pow ht (by omega))
theorem e_floorMod {t : Nat} (ht : t < 2 ^ 31) (h : sm_H) : f_jm_floorMod (nI t) 50 h = some (nI (t % 50), h) := by
  unfold f_jm_floorMod f_jm_floorMod_L18
  dsimp only [sm_let]
  rw [sm_gd_t (by decide)]
  have e : nI t - nI t / 50 * 50 = nI (t % 50) := pk_rem (d := 50) ht (by omega) (by omega)
  rw [e, if_pos (p_xor_pos ht)]
def p_la (s : Nat) (h : sm_H) (t : Nat) (a c m : Int32) : sm_H := sm_up (sm_up (sm_up (sm_up h (s + 10) (t % 50) a) (s + 11) (t % 50) c) (s + 12) (t % 50) m) (s + 9) 0 (nI (t + 1))
theorem e_loadd {s t : Nat} {h : sm_H} (ht : t < 2 ^ 30) (h0 : h (s + 9) 0 = nI t) (a c m : Int32) : f_lo_add (s + 9) a c m h = some (p_la s h t a c m) := by
  unfold f_lo_add
  dsimp only [sm_let, sm_b2]
  rw [h0, e_floorMod (by omega) h]
  have hl : t % 50 < 50 := Nat.mod_lt _ (by omega)
  simp only [Option.bind_some]
  rw [sm_gd_t (sm_inb_nI hl (by omega)), sm_gd_t (sm_inb_nI hl (by omega)), sm_gd_t (sm_inb_nI hl (by omega)), nI_clamp (by omega)]
  unfold p_la
  have e : sm_up (sm_up (sm_up h (s + 9 + 1) (t % 50) a) (s + 9 + 2) (t % 50) c) (s + 9 + 3) (t % 50) m (s + 9) 0 = nI t := by
    rw [sm_up_off (by omega), sm_up_off (by omega), sm_up_off (by omega), h0]
  rw [e, nI_1]
theorem p_la_row {s t : Nat} {h : sm_H} {a c m : Int32} {i : Nat} (e : i < s + 9 ∨ s + 12 < i) : p_la s h t a c m i = h i := by
  unfold p_la
  rw [sm_up_ne _ _ _ _ _ (by omega), sm_up_ne _ _ _ _ _ (by omega), sm_up_ne _ _ _ _ _ (by omega), sm_up_ne _ _ _ _ _ (by omega)]
theorem p_shift {g : sm_H} {a1 a2 : Int32} : ∀ (n k : Nat) (q : Nat → Int32), 350 - k < n → 203 ≤ k → k ≤ 350 → f_mo_record_L16 n 114 a1 a2 (nI k) (sm_row g 117 q) = f_mo_record_L43 114 a1 a2 (sm_row g 117 (fun j => if k - 3 ≤ j ∧ j < 347 then q (j + 3) else q j)) := by
  intro n
  induction n with
  | zero => intro k q h1; omega
  | succ n ih =>
    intro k q h1 h2 h3
    unfold f_mo_record_L16
    have e : (350 : Int32) = nI 350 := rfl
    rw [e]
    by_cases z : k = 350
    · rw [if_pos (nI_le (by omega) (by omega))]
      congr 2
      funext j
      rw [if_neg (by omega)]
    · rw [if_neg (nI_ge (by omega) (by omega))]
      have e3 : nI k - 3 = nI (k - 3) := nI_sub (b := 3) (by omega)
      rw [sm_gd_t (sm_inb_nI (by omega) (by omega)), e3, sm_gd_t (sm_inb_nI (by omega) (by omega)), nI_clamp (by omega), nI_clamp (by omega)]
      dsimp only [sm_let]
      have e4 : sm_row g 117 q (114 + 3) k = q k := congrFun (p_row_at (i := 117)) k
      have e5 : sm_up (sm_row g 117 q) (114 + 3) (k - 3) (q k) = sm_row g 117 (upd q (k - 3) (q k)) := p_row_up (i := 117)
      rw [e4, e5, nI_1, ih (k + 1) _ (by omega) (by omega) (by omega)]
      congr 2
      funext j
      by_cases y : k - 3 = j
      · rw [if_neg (by omega), if_pos (by omega), y, p_ud_at]
        congr 1
        omega
      · by_cases x : k + 1 - 3 ≤ j ∧ j < 347
        · rw [if_pos x, if_pos (by omega), p_ud_off (by omega)]
        · rw [if_neg x, if_neg (by omega), p_ud_off (by omega)]
theorem p_rec1 {g : sm_H} {w m : Int32} {q : Nat → Int32} {n : Nat} (hn : q 9 = nI n) (hl : n < 50) : f_mo_record_L52 114 w m (sm_row g 117 q) = some (sm_row g 117 (upd (upd (upd (upd q (200 + 3 * n) (q 0)) (201 + 3 * n) w) (202 + 3 * n) m) 9 (nI (n + 1)))) := by
  unfold f_mo_record_L52
  dsimp only [sm_let]
  have r : ∀ q : Nat → Int32, sm_row g 117 q (114 + 3) = q := fun q => p_row_at (i := 117)
  have ru : ∀ (q : Nat → Int32) k v, sm_up (sm_row g 117 q) (114 + 3) k v = sm_row g 117 (upd q k v) := fun q k v => p_row_up (i := 117)
  have c9 : (9 : Int32).toNatClampNeg = 9 := by decide
  have c0 : (0 : Int32).toNatClampNeg = 0 := by decide
  have e0 : (200 : Int32) + 3 * nI n = nI (200 + 3 * n) := by
    have : (3 : Int32) * nI n = nI (3 * n) := nI_mul 3 n
    rw [this]
    exact nI_add 200 (3 * n)
  have e1 : nI (200 + 3 * n) + 1 = nI (201 + 3 * n) := by rw [nI_1]; congr 1; omega
  have e2 : nI (200 + 3 * n) + 2 = nI (202 + 3 * n) := by
    have : nI (200 + 3 * n) + nI 2 = nI (200 + 3 * n + 2) := nI_add _ _
    have e : (2 : Int32) = nI 2 := rfl
    rw [e, this]; congr 1; omega
  rw [r, c9, hn, e0, sm_gd_t (by decide), sm_gd_t (by decide), sm_gd_t (sm_inb_nI (by omega) (by omega)), c0, e1, e2, sm_gd_t (sm_inb_nI (by omega) (by omega)), sm_gd_t (sm_inb_nI (by omega) (by omega)), sm_gd_t (by decide), sm_gd_t (by decide), nI_clamp (by omega), nI_clamp (by omega), nI_clamp (by omega), ru, ru, ru, r, ru]
  have e9 : upd (upd (upd q (200 + 3 * n) (q 0)) (201 + 3 * n) w) (202 + 3 * n) m 9 = nI n := by rw [p_ud_off (by omega), p_ud_off (by omega), p_ud_off (by omega), hn]
  rw [e9, nI_1]
def p_lr (q : Nat → Int32) (n : Nat) (w m : Int32) : Nat → Int32 := if n < 50 then upd (upd (upd (upd q (200 + 3 * n) (q 0)) (201 + 3 * n) w) (202 + 3 * n) m) 9 (nI (n + 1)) else upd (upd (upd (upd (fun j => if 200 ≤ j ∧ j < 347 then q (j + 3) else q j) 347 (q 0)) 348 w) 349 m) 9 50
theorem e_record {g : sm_H} {w m : Int32} {q : Nat → Int32} {n : Nat} (hn : q 9 = nI n) (hl : n ≤ 50) : f_mo_record 114 w m (sm_row g 117 q) = some (sm_row g 117 (p_lr q n w m)) := by
  unfold f_mo_record
  have r : sm_row g 117 q (114 + 3) = q := p_row_at (i := 117)
  have c9 : (9 : Int32).toNatClampNeg = 9 := by decide
  rw [sm_gd_t (by decide), r, c9, hn]
  unfold p_lr
  by_cases z : n < 50
  · rw [if_neg (by
      intro e
      have := (nI_eq (b := 50) (by omega) (by omega)).mp e
      omega), if_pos z]
    exact p_rec1 hn z
  · have e : n = 50 := by omega
    subst e
    rw [if_pos (by rfl), if_neg (by omega)]
    have e1 := p_shift (g := g) (a1 := w) (a2 := m) sm_N 203 q (by unfold sm_N; omega) (by omega) (by omega)
    refine Eq.trans (show f_mo_record_L16 sm_N 114 w m 203 (sm_row g 117 q) = f_mo_record_L16 sm_N 114 w m (nI 203) (sm_row g 117 q) from rfl) (Eq.trans e1 ?_)
    unfold f_mo_record_L43
    dsimp only [sm_let]
    have ru : ∀ (q : Nat → Int32) k v, sm_up (sm_row g 117 q) (114 + 3) k v = sm_row g 117 (upd q k v) := fun q k v => p_row_up (i := 117)
    rw [sm_gd_t (by decide), c9, ru, p_rec1 (n := 49) (by rw [p_ud_at]; rfl) (by omega)]
    refine congrArg (fun z => some (sm_row g 117 z)) (funext fun j => ?_)
    have e3 : upd (fun j => if 203 - 3 ≤ j ∧ j < 347 then q (j + 3) else q j) 9 49 0 = q 0 := by
      rw [p_ud_off (by omega), if_neg (by omega)]
    rw [e3]
    by_cases j9 : j = 9
    · rw [j9, p_ud_at, p_ud_at]
      rfl
    · rw [p_ud_off j9, p_ud_off j9]
      have x0 : 200 + 3 * 49 = 347 := rfl
      have x1 : 201 + 3 * 49 = 348 := rfl
      have x2 : 202 + 3 * 49 = 349 := rfl
      rw [x0, x1, x2]
      by_cases a : j = 349
      · rw [a, p_ud_at, p_ud_at]
      · rw [p_ud_off a, p_ud_off a]
        by_cases b : j = 348
        · rw [b, p_ud_at, p_ud_at]
        · rw [p_ud_off b, p_ud_off b]
          by_cases d : j = 347
          · rw [d, p_ud_at, p_ud_at]
          · rw [p_ud_off d, p_ud_off d, p_ud_off j9]
theorem p_lr_off {q : Nat → Int32} {n k : Nat} {w m : Int32} (hk : k < 200) (h9 : k ≠ 9) : p_lr q n w m k = q k := by
  unfold p_lr
  split
  · rw [p_ud_off (by omega), p_ud_off (by omega), p_ud_off (by omega), p_ud_off (by omega)]
  · rw [p_ud_off (by omega), p_ud_off (by omega), p_ud_off (by omega), p_ud_off (by omega), if_neg (by omega)]
theorem p_ST.log {Y Z D F R s t : Nat} {h : sm_H} {q : Nat → Int32} (C : p_CT Z D F R) (hY : Y ≤ Z) (S : p_ST Y Z D F R s h q t) (a w m : Int32) (ha : a = q 0) (ht : t < 2 ^ 30) : ∃ n, q 9 = nI n ∧ n ≤ 50 ∧ p_ST Y Z D F R s (p_la s h t a w m) (p_lr q n w m) (t + 1) := by
  obtain ⟨c1, c2, c3, c4, c5⟩ := C
  obtain ⟨S1, S2, S3, n, g1, g2, g3, g4⟩ := S
  have hn : n ≤ 50 := by omega
  refine ⟨n, g2, hn, fun o' k' m' e' => ?_, fun o' k' j' m' e' => ?_, fun d hd => ?_, min (t + 1) 50, ?_, ?_, rfl, fun e he => ?_⟩
  · have g : o' < 9 ∧ m' < 200 ∧ m' ≠ 9 := by
      unfold p_eq at e'
      omega
    rw [p_la_row (by omega), p_lr_off g.2.1 g.2.2]
    exact S1 _ _ _ e'
  · have g : o' < 9 ∧ m' < 200 ∧ m' ≠ 9 := by
      unfold p_bi at e'
      omega
    rw [p_la_row (by omega), p_lr_off g.2.1 g.2.2]
    exact S2 _ _ _ _ e'
  · rw [p_la_row (by omega), p_lr_off (by omega) (by omega)]
    exact S3 d hd
  · unfold p_la
    rw [p_up_at]
  · unfold p_lr
    split
    · rw [p_ud_at]
      congr 1
      omega
    · rw [p_ud_at, show min (t + 1) 50 = 50 by omega]
      rfl
  · have r0 : ∀ i, p_la s h t a w m (s + 10) i = if i = t % 50 then a else h (s + 10) i := fun i => by
      unfold p_la
      rw [sm_up_off (by omega), sm_up_off (by omega), sm_up_off (by omega)]
      unfold sm_up
      simp
    have r1 : ∀ i, p_la s h t a w m (s + 11) i = if i = t % 50 then w else h (s + 11) i := fun i => by
      unfold p_la
      rw [sm_up_off (by omega), sm_up_off (by omega)]
      unfold sm_up
      by_cases z : i = t % 50 <;> simp [z]
    have r2 : ∀ i, p_la s h t a w m (s + 12) i = if i = t % 50 then m else h (s + 12) i := fun i => by
      unfold p_la
      rw [sm_up_off (by omega)]
      unfold sm_up
      by_cases z : i = t % 50 <;> simp [z]
    rw [r0, r1, r2]
    by_cases z : e + 1 = min (t + 1) 50
    · have ez : (t + 1 - min (t + 1) 50 + e) % 50 = t % 50 := by
        congr 1
        omega
      rw [ez, if_pos rfl, if_pos rfl, if_pos rfl, ha]
      unfold p_lr
      split
      · have : e = n := by omega
        subst this
        rw [p_ud_off (by omega), p_ud_off (by omega), p_ud_off (by omega), p_ud_at, p_ud_off (by omega), p_ud_off (by omega), p_ud_at, p_ud_off (by omega), p_ud_at]
        exact ⟨rfl, rfl, rfl⟩
      · have : e = 49 := by omega
        subst this
        rw [p_ud_off (by omega), p_ud_off (by omega), p_ud_off (by omega), p_ud_at, p_ud_off (by omega), p_ud_off (by omega), p_ud_at, p_ud_off (by omega), p_ud_at]
        exact ⟨rfl, rfl, rfl⟩
    · have ne : ¬ (t + 1 - min (t + 1) 50 + e) % 50 = t % 50 := by omega
      rw [if_neg ne, if_neg ne, if_neg ne]
      unfold p_lr
      split
      · have := g4 e (by omega)
        rw [show t + 1 - min (t + 1) 50 + e = t - n + e by omega]
        rw [p_ud_off (by omega), p_ud_off (by omega), p_ud_off (by omega), p_ud_off (by omega), p_ud_off (by omega), p_ud_off (by omega), p_ud_off (by omega), p_ud_off (by omega), p_ud_off (by omega), p_ud_off (by omega), p_ud_off (by omega), p_ud_off (by omega)]
        exact this
      · have := g4 (e + 1) (by omega)
        rw [show t + 1 - min (t + 1) 50 + e = t - n + (e + 1) by omega]
        rw [p_ud_off (by omega), p_ud_off (by omega), p_ud_off (by omega), p_ud_off (by omega), p_ud_off (by omega), p_ud_off (by omega), p_ud_off (by omega), p_ud_off (by omega), p_ud_off (by omega), p_ud_off (by omega), p_ud_off (by omega), p_ud_off (by omega), if_pos (by omega), if_pos (by omega), if_pos (by omega)]
        rw [show 200 + 3 * (e + 1) = 200 + 3 * e + 3 by omega, show 201 + 3 * (e + 1) = 201 + 3 * e + 3 by omega, show 202 + 3 * (e + 1) = 202 + 3 * e + 3 by omega] at this
        exact this
