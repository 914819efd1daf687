-- THE PURE SIDE: bits of an int, ranges, the small functions' values
def sm_bt (w : Int32) (k : Nat) : Bool := w.toBitVec.getLsbD k
def sm_b2i (b : Bool) : Int32 := if b = true then 1 else 0
def sm_wb (w : Int32) (k : Nat) (b : Bool) : Int32 := if b = true then w ||| (1 <<< (nI k &&& 31)) else w &&& ((1 <<< (nI k &&& 31)) ^^^ (-1))
theorem sm_and1 (x : Int32) : x &&& 1 = sm_b2i (sm_bt x 0) := by
  apply Int32.toBitVec_inj.mp
  apply BitVec.eq_of_getLsbD_eq
  intro i hi
  have e : (x &&& 1).toBitVec.getLsbD i = (x.toBitVec.getLsbD i && (1#32).getLsbD i) := by
    rw [← BitVec.getLsbD_and]
    rfl
  rw [e]
  unfold sm_b2i sm_bt
  by_cases h0 : i = 0
  · subst h0
    cases x.toBitVec.getLsbD 0 <;> rfl
  · have e1 : (1#32).getLsbD i = false := by
      rw [BitVec.getLsbD_one]
      simp [h0]
    rw [e1, Bool.and_false]
    cases x.toBitVec.getLsbD 0
    · show _ = (0#32).getLsbD i
      rw [BitVec.getLsbD_zero]
    · show _ = (1#32).getLsbD i
      rw [e1]
theorem sm_shk (k : Nat) (hk : k < 32) : (nI k &&& 31).toBitVec.smod 32 = BitVec.ofNat 32 k := by
  have g : ((List.range 32).all fun k => decide ((nI k &&& 31).toBitVec.smod 32 = BitVec.ofNat 32 k)) = true := by decide +kernel
  exact of_decide_eq_true (List.all_eq_true.mp g k (List.mem_range.mpr hk))
theorem sm_shr (w : Int32) (k : Nat) (hk : k < 32) : sm_bt (w >>> (nI k &&& 31)) 0 = sm_bt w k := by
  unfold sm_bt
  rw [Int32.toBitVec_shiftRight, sm_shk k hk]
  show (w.toBitVec.sshiftRight (BitVec.ofNat 32 k).toNat).getLsbD 0 = _
  rw [BitVec.toNat_ofNat, Nat.mod_eq_of_lt (by omega), BitVec.getLsbD_sshiftRight]
  simp [hk]
theorem sm_shl (k j : Nat) (hk : k < 32) (hj : j < 32) : sm_bt ((1 : Int32) <<< (nI k &&& 31)) j = decide (j = k) := by
  have g : ((List.range 32).all fun k => (List.range 32).all fun j => sm_bt ((1 : Int32) <<< (nI k &&& 31)) j == decide (j = k)) = true := by decide +kernel
  have := List.all_eq_true.mp (List.all_eq_true.mp g k (List.mem_range.mpr hk)) j (List.mem_range.mpr hj)
  exact eq_of_beq this
theorem sm_bt_or (a b : Int32) (j : Nat) : sm_bt (a ||| b) j = (sm_bt a j || sm_bt b j) := by
  show (a.toBitVec ||| b.toBitVec).getLsbD j = _
  exact BitVec.getLsbD_or
theorem sm_bt_and (a b : Int32) (j : Nat) : sm_bt (a &&& b) j = (sm_bt a j && sm_bt b j) := by
  show (a.toBitVec &&& b.toBitVec).getLsbD j = _
  exact BitVec.getLsbD_and
theorem sm_bt_not (a : Int32) (j : Nat) (hj : j < 32) : sm_bt (a ^^^ (-1)) j = !sm_bt a j := by
  show (a.toBitVec ^^^ (BitVec.allOnes 32)).getLsbD j = _
  rw [BitVec.getLsbD_xor, BitVec.getLsbD_allOnes]
  simp [hj, sm_bt]
theorem sm_bt_wb (w : Int32) (k : Nat) (b : Bool) (j : Nat) (hk : k < 32) (hj : j < 32) : sm_bt (sm_wb w k b) j = if j = k then b else sm_bt w j := by
  unfold sm_wb
  cases b
  · rw [if_neg (by decide), sm_bt_and, sm_bt_not _ _ hj, sm_shl k j hk hj]
    by_cases e : j = k <;> simp [e]
  · rw [if_pos rfl, sm_bt_or, sm_shl k j hk hj]
    by_cases e : j = k <;> simp [e]
theorem sm_bt_ext {a b : Int32} (h : ∀ j, j < 32 → sm_bt a j = sm_bt b j) : a = b := by
  apply Int32.toBitVec_inj.mp
  apply BitVec.eq_of_getLsbD_eq
  intro i hi
  exact h i hi
theorem sm_bt0 (j : Nat) : sm_bt 0 j = false := by
  show (0#32).getLsbD j = false
  exact BitVec.getLsbD_zero
theorem sm_b2i_0 (b : Bool) : sm_b2i b = 0 ↔ b = false := by cases b <;> decide
theorem sm_b2i_1 (b : Bool) : sm_b2i b = 1 ↔ b = true := by cases b <;> decide
theorem sm_b2i_bz (b : Bool) : sm_bz (sm_b2i b) = true := by cases b <;> decide
theorem sm_b2i_inj {a b : Bool} (h : sm_b2i a = sm_b2i b) : a = b := by revert h; cases a <;> cases b <;> decide
theorem e_has (w : Int32) (k : Nat) (h : sm_H) (hk : k < 32) : f_sc_has w (nI k) h = some (sm_b2i (sm_bt w k), h) := by
  unfold f_sc_has f_sc_has_L13 sm_gd
  rw [sm_and1, sm_shr w k hk]
  cases sm_bt w k <;> rfl
theorem e_hasBit (w : Int32) (k : Nat) (h : sm_H) (hk : k < 32) : f_mo_hasBit w (nI k) h = some (sm_b2i (sm_bt w k), h) := by
  unfold f_mo_hasBit f_mo_hasBit_L14 sm_gd
  rw [sm_and1, sm_shr w k hk]
  cases sm_bt w k <;> rfl
theorem e_with (w : Int32) (k : Nat) (v : Int32) (h : sm_H) : f_sc_with w (nI k) v h = some (sm_wb w k (!decide (v = 0)), h) := by
  unfold f_sc_with f_sc_with_L19 sm_wb
  by_cases e : v = 0 <;> simp [e]
theorem e_in (a b c : Int32) (h : sm_H) : f_mo_in a b c h = some (sm_b2i (decide (b ≤ a ∧ a ≤ c)), h) := by
  unfold f_mo_in f_mo_in_L15 sm_gd
  by_cases h1 : a < b
  · rw [if_pos h1]
    have : ¬ (b ≤ a ∧ a ≤ c) := fun z => absurd h1 (Int32.not_lt.mpr z.1)
    rw [decide_eq_false this]; rfl
  · rw [if_neg h1]
    by_cases h2 : c < a
    · rw [if_pos h2]
      have : ¬ (b ≤ a ∧ a ≤ c) := fun z => absurd h2 (Int32.not_lt.mpr z.2)
      rw [decide_eq_false this]; rfl
    · rw [if_neg h2]
      have : b ≤ a ∧ a ≤ c := ⟨Int32.not_lt.mp h1, Int32.not_lt.mp h2⟩
      rw [decide_eq_true this]; rfl
theorem sm_inb_nI {k n : Nat} (h : k < n) (hn : n < 2 ^ 31) : sm_inb (nI k) n = true := decide_eq_true (nI_in h hn)
theorem sm_gd_t {α : Type} {b : Bool} {x : Option α} (h : b = true) : sm_gd b x = x := by unfold sm_gd; rw [if_pos h]
theorem nI_mul (a b : Nat) : nI a * nI b = nI (a * b) := (Int32.ofNat_mul a b).symm
theorem nI_sub {a b : Nat} (h : b ≤ a) : nI a - nI b = nI (a - b) := by
  have e : nI a = nI (a - b) + nI b := by rw [nI_add, Nat.sub_add_cancel h]
  rw [e, Int32.add_sub_cancel]
