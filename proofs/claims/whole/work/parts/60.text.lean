-- LOAD: THE TEXT CUT INTO TOKENS
def n_k28 (a : Int32) : Int32 := if a = 32 then 5 else if a = 10 then 5 else if a = 59 then 3 else if a = 44 then 3 else if a = 40 then 3 else if a = 41 then 3 else 4
def n_k14 (a : Int32) : Int32 := if a < 48 then n_k28 a else if 57 < a then n_k28 a else 2
def n_kf (a : Int32) : Int32 := if a < 97 then n_k14 a else if 122 < a then n_k14 a else 1
def n_ty (c : Nat) : Nat := if 97 ≤ c ∧ c ≤ 122 then 1 else if 48 ≤ c ∧ c ≤ 57 then 2 else if c = 32 ∨ c = 10 then 5 else if c = 59 ∨ c = 44 ∨ c = 40 ∨ c = 41 then 3 else 4
theorem n_kind28 (a : Int32) (h : sm_H) : f_te_kindOf_L28 a h = some (n_k28 a, h) := by
  unfold f_te_kindOf_L28 n_k28
  by_cases a1 : a = 32
  · rw [if_pos a1, if_pos a1]; rfl
  · rw [if_neg a1, if_neg a1]
    by_cases a2 : a = 10
    · rw [if_pos a2, if_pos a2]; rfl
    · rw [if_neg a2, if_neg a2]
      by_cases a3 : a = 59
      · rw [if_pos a3, if_pos a3]; rfl
      · rw [if_neg a3, if_neg a3]
        by_cases a4 : a = 44
        · rw [if_pos a4, if_pos a4]; rfl
        · rw [if_neg a4, if_neg a4]
          by_cases a5 : a = 40
          · rw [if_pos a5, if_pos a5]; rfl
          · rw [if_neg a5, if_neg a5]
            by_cases a6 : a = 41
            · rw [if_pos a6, if_pos a6]; rfl
            · rw [if_neg a6, if_neg a6]; rfl
theorem n_kind14 (a : Int32) (h : sm_H) : f_te_kindOf_L14 a h = some (n_k14 a, h) := by
  unfold f_te_kindOf_L14 n_k14
  by_cases a1 : a < 48
  · rw [if_pos a1, if_pos a1, n_kind28]
  · rw [if_neg a1, if_neg a1]
    by_cases a2 : 57 < a
    · rw [if_pos a2, if_pos a2, n_kind28]
    · rw [if_neg a2, if_neg a2]
theorem n_kind0 (a : Int32) (h : sm_H) : f_te_kindOf a h = some (n_kf a, h) := by
  unfold f_te_kindOf n_kf
  by_cases a1 : a < 97
  · rw [if_pos a1, if_pos a1, n_kind14]
  · rw [if_neg a1, if_neg a1]
    by_cases a2 : 122 < a
    · rw [if_pos a2, if_pos a2, n_kind14]
    · rw [if_neg a2, if_neg a2]
def n_by (c : Nat) : Int32 := (Int8.ofNat c).toInt32
theorem n_kind {c : Nat} (hc : c < 256) (h : sm_H) : f_te_kindOf (n_by c) h = some (nI (n_ty c), h) := by
  rw [n_kind0]
  have g : ((List.range 256).all fun c => n_kf (n_by c) == nI (n_ty c)) = true := by decide +kernel
  rw [eq_of_beq (List.all_eq_true.mp g c (List.mem_range.mpr hc))]
theorem n_by_nI {c : Nat} (hc : c < 128) : n_by c = nI c := by
  have g : ((List.range 128).all fun c => n_by c == nI c) = true := by decide +kernel
  exact eq_of_beq (List.all_eq_true.mp g c (List.mem_range.mpr hc))
theorem n_by_eq {c d : Nat} (hc : c < 256) (hd : d < 128) : n_by c = nI d ↔ c = d := by
  have g : ((List.range 256).all fun c => (List.range 128).all fun d => decide (n_by c = nI d) == decide (c = d)) = true := by decide +kernel
  have := eq_of_beq (List.all_eq_true.mp (List.all_eq_true.mp g c (List.mem_range.mpr hc)) d (List.mem_range.mpr hd))
  constructor
  · intro z
    rw [decide_eq_true z] at this
    exact of_decide_eq_true this.symm
  · intro z
    rw [decide_eq_true z] at this
    exact of_decide_eq_true this
theorem n_isRun {τ : Nat} (h1 : τ ≤ 5) (h : sm_H) : f_te_isRun (nI τ) h = some (sm_b2i (decide (τ = 1 ∨ τ = 2)), h) := by
  unfold f_te_isRun
  have e1 : (1 : Int32) = nI 1 := rfl
  have e2 : (2 : Int32) = nI 2 := rfl
  by_cases a1 : τ = 1
  · rw [a1, if_pos (show nI 1 = (1 : Int32) from rfl)]; rfl
  · rw [e1, if_neg (fun z => a1 ((nI_eq (by omega) (by omega)).mp z))]
    by_cases a2 : τ = 2
    · rw [a2, if_pos (show nI 2 = (2 : Int32) from rfl)]; rfl
    · rw [e2, if_neg (fun z => a2 ((nI_eq (by omega) (by omega)).mp z)), decide_eq_false (by omega)]; rfl
theorem n_ty_le (c : Nat) : 1 ≤ n_ty c ∧ n_ty c ≤ 5 := by
  unfold n_ty
  split
  · omega
  · split
    · omega
    · split
      · omega
      · split <;> omega
theorem n_ty1 {c : Nat} : n_ty c = 1 ↔ 97 ≤ c ∧ c ≤ 122 := by
  unfold n_ty
  split
  · simp_all
  · split
    · simp_all
    · split
      · simp_all
      · split <;> simp_all
theorem n_ty2 {c : Nat} : n_ty c = 2 ↔ 48 ≤ c ∧ c ≤ 57 := by
  unfold n_ty
  by_cases a : 97 ≤ c ∧ c ≤ 122
  · rw [if_pos a]
    omega
  · rw [if_neg a]
    by_cases b : 48 ≤ c ∧ c ≤ 57
    · rw [if_pos b]
      omega
    · rw [if_neg b]
      split
      · omega
      · split <;> omega
theorem n_ty5 {c : Nat} : n_ty c = 5 ↔ c = 32 ∨ c = 10 := by
  unfold n_ty
  by_cases a : 97 ≤ c ∧ c ≤ 122
  · rw [if_pos a]
    omega
  · rw [if_neg a]
    by_cases b : 48 ≤ c ∧ c ≤ 57
    · rw [if_pos b]
      omega
    · rw [if_neg b]
      split
      · omega
      · split <;> omega
theorem n_ty3 {c : Nat} : n_ty c = 3 ↔ c = 59 ∨ c = 44 ∨ c = 40 ∨ c = 41 := by
  unfold n_ty
  by_cases a : 97 ≤ c ∧ c ≤ 122
  · rw [if_pos a]
    omega
  · rw [if_neg a]
    by_cases b : 48 ≤ c ∧ c ≤ 57
    · rw [if_pos b]
      omega
    · rw [if_neg b]
      by_cases d : c = 32 ∨ c = 10
      · rw [if_pos d]
        omega
      · rw [if_neg d]
        split <;> omega
def n_dv (b : Nat → Nat) (s : Nat) : Nat → Nat
  | 0 => 0
  | n + 1 => 10 * n_dv b s n + (b (s + n) - 48)
-- a token: its kind (0 end, 1 word, 2 number, 3 sign, 4 bad) and its bytes
def n_T1 (b : Nat → Nat) (L T : Nat) (kd st sz vl : Nat → Int32) (i e : Nat) (le : Bool) (τ : Nat) (W : List Nat) (s : Nat) : Prop :=
  e ≤ s ∧ s ≤ L ∧ (∀ k, e ≤ k → k < s → n_ty (b k) = 5) ∧ st i = nI s ∧ kd i = nI τ ∧ τ ≤ 4 ∧ (τ = 0 → s = L ∧ i + 1 = T) ∧ (1 ≤ τ → s < L ∧ i + 1 < T) ∧
  (τ = 1 ∨ τ = 2 → 1 ≤ W.length ∧ s + W.length ≤ L ∧ (∀ k, k < W.length → W.getD k 0 = b (s + k) ∧ n_ty (b (s + k)) = τ) ∧ (s + W.length < L → n_ty (b (s + W.length)) ≠ τ) ∧ ¬ (le = true ∧ s = e)) ∧
  (τ = 1 → sz i = nI W.length) ∧ (τ = 2 → W.length ≤ 3 ∧ vl i = nI (n_dv b s W.length)) ∧ (τ = 3 → W = [b s] ∧ n_ty (b s) = 3) ∧
  (τ = 4 → n_ty (b s) ≠ 5 ∧ n_ty (b s) ≠ 3 ∧ ((n_ty (b s) = 1 ∨ n_ty (b s) = 2) → (le = true ∧ s = e) ∨ ∃ n, 4 ≤ n ∧ s + n ≤ L ∧ (∀ k, k < n → n_ty (b (s + k)) = 2) ∧ (s + n < L → n_ty (b (s + n)) ≠ 2)))
def n_TA (b : Nat → Nat) (L T : Nat) (kd st sz vl : Nat → Int32) : Nat → Nat → Nat → Bool → Prop
  | 0, _, _, _ => False
  | m + 1, i, e, le => ∃ τ W s, n_T1 b L T kd st sz vl i e le τ W s ∧ (1 ≤ τ → τ ≤ 3 → n_TA b L T kd st sz vl m (i + 1) (s + W.length) (decide (τ ≤ 2)))
theorem n_TA.blank {b : Nat → Nat} {L T : Nat} {kd st sz vl : Nat → Int32} {m i e : Nat} {le : Bool} (A : n_TA b L T kd st sz vl m i (e + 1) false) (hb : n_ty (b e) = 5) : n_TA b L T kd st sz vl m i e le := by
  cases m with
  | zero => exact A
  | succ m =>
    obtain ⟨τ, W, s, ⟨t1, t2, t3, t4, t5, t6, t7, t8, t9, ta, tb, tc, td⟩, n⟩ := A
    refine ⟨τ, W, s, ⟨by omega, t2, fun k k1 k2 => ?_, t4, t5, t6, t7, t8, fun z => ?_, ta, tb, tc, fun z => ?_⟩, n⟩
    · by_cases z : k = e
      · rw [z]; exact hb
      · exact t3 k (by omega) k2
    · obtain ⟨u1, u2, u3, u4, u5⟩ := t9 z
      exact ⟨u1, u2, u3, u4, fun y => by omega⟩
    · obtain ⟨u1, u2, u3⟩ := td z
      refine ⟨u1, u2, fun y => ?_⟩
      rcases u3 y with x | x
      · cases x.1
      · exact Or.inr x
theorem n_up4 {h : sm_H} {i k : Nat} {v : Int32} : sm_up h i k v i = upd (h i) k v := sm_up_self h i k v
theorem n_start {h : sm_H} {t : Nat} (h6 : h 18 6 = nI t) (ht : t < 901) (τ : Int32) {k : Nat} (hk : k < 900 ∨ τ ≠ 2) (hk2 : k ≤ 900) : ∃ h', f_te_startToken 18 τ (nI k) h = some h' ∧ h' 18 6 = nI (t + 1) ∧ h' 20 t = τ ∧ h' 21 t = nI k ∧ h' 22 t = 1 ∧ (τ = 2 → h' 23 t = h 19 k - 48) ∧ (∀ i, i ≠ t → h' 20 i = h 20 i ∧ h' 21 i = h 21 i ∧ h' 22 i = h 22 i ∧ h' 23 i = h 23 i) ∧ (∀ j, j ≠ 6 → h' 18 j = h 18 j) ∧ ∀ r, r < 18 ∨ r = 19 ∨ 23 < r → h' r = h r := by
  have i1 : sm_inb (nI t) 901 = true := sm_inb_nI (k := t) (n := 901) (by omega) (by omega)
  have i2 : (nI t).toNatClampNeg = t := nI_clamp (by omega)
  have F : ∀ v, ∃ h', f_te_startToken_L66 18 v (nI t) 23 (sm_up (sm_up (sm_up h 20 t τ) 21 t (nI k)) 22 t 1) = some h' ∧ h' 18 6 = nI (t + 1) ∧ h' 20 t = τ ∧ h' 21 t = nI k ∧ h' 22 t = 1 ∧ h' 23 t = v ∧ (∀ i, i ≠ t → h' 20 i = h 20 i ∧ h' 21 i = h 21 i ∧ h' 22 i = h 22 i ∧ h' 23 i = h 23 i) ∧ (∀ j, j ≠ 6 → h' 18 j = h 18 j) ∧ ∀ r, r < 18 ∨ r = 19 ∨ 23 < r → h' r = h r := by
    intro v
    refine ⟨sm_up (sm_up (sm_up (sm_up (sm_up h 20 t τ) 21 t (nI k)) 22 t 1) 23 t v) 18 6 (nI (t + 1)), ?_, p_up_at, ?_, ?_, ?_, ?_, fun i hi => ⟨?_, ?_, ?_, ?_⟩, fun j hj => ?_, fun r hr => ?_⟩
    · unfold f_te_startToken_L66
      rw [i1, s_true, i2]
      refine w_lt ?_
      refine w_lt ?_
      rw [show sm_up (sm_up (sm_up (sm_up h 20 t τ) 21 t (nI k)) 22 t 1) 23 t v 18 6 = nI t by rw [sm_up_off (by omega), sm_up_off (by omega), sm_up_off (by omega), sm_up_off (by omega)]; exact h6, nI_1]
    · rw [sm_up_off (by omega), sm_up_off (by omega), sm_up_off (by omega), sm_up_off (by omega), p_up_at]
    · rw [sm_up_off (by omega), sm_up_off (by omega), sm_up_off (by omega), p_up_at]
    · rw [sm_up_off (by omega), sm_up_off (by omega), p_up_at]
    · rw [sm_up_off (by omega), p_up_at]
    · rw [sm_up_off (by omega), sm_up_off (by omega), sm_up_off (by omega), sm_up_off (by omega), sm_up_off (by omega)]
    · rw [sm_up_off (by omega), sm_up_off (by omega), sm_up_off (by omega), sm_up_off (by omega), sm_up_off (by omega)]
    · rw [sm_up_off (by omega), sm_up_off (by omega), sm_up_off (by omega), sm_up_off (by omega), sm_up_off (by omega)]
    · rw [sm_up_off (by omega), sm_up_off (by omega), sm_up_off (by omega), sm_up_off (by omega), sm_up_off (by omega)]
    · rw [sm_up_off (by omega), sm_up_off (by omega), sm_up_off (by omega), sm_up_off (by omega), sm_up_off (by omega)]
    · rw [sm_up_ne _ _ _ _ _ (by omega), sm_up_ne _ _ _ _ _ (by omega), sm_up_ne _ _ _ _ _ (by omega), sm_up_ne _ _ _ _ _ (by omega), sm_up_ne _ _ _ _ _ (by omega)]
  have S : f_te_startToken 18 τ (nI k) h = if τ = 2 then sm_gd (sm_inb (nI k) 900) (f_te_startToken_L66 18 (h 19 k - 48) (nI t) 23 (sm_up (sm_up (sm_up h 20 t τ) 21 t (nI k)) 22 t 1)) else f_te_startToken_L66 18 0 (nI t) 23 (sm_up (sm_up (sm_up h 20 t τ) 21 t (nI k)) 22 t 1) := by
    unfold f_te_startToken
    rw [h6, if_neg (show ¬ (901 : Int32) ≤ nI t from nI_ge (b := 901) (by omega) (by omega)), i1, s_true, i2]
    refine w_lt ?_
    rw [show sm_up h (18 + 2) t τ 18 6 = nI t by rw [sm_up_off (by omega)]; exact h6, i1, s_true, i2]
    refine w_lt ?_
    rw [show sm_up (sm_up h (18 + 2) t τ) (18 + 3) t (nI k) 18 6 = nI t by rw [sm_up_off (by omega), sm_up_off (by omega)]; exact h6, i1, s_true, i2]
    refine w_lt ?_
    rw [show sm_up (sm_up (sm_up h (18 + 2) t τ) (18 + 3) t (nI k)) (18 + 4) t 1 18 6 = nI t by rw [sm_up_off (by omega), sm_up_off (by omega), sm_up_off (by omega)]; exact h6, nI_clamp (n := k) (by omega), show sm_up (sm_up (sm_up h (18 + 2) t τ) (18 + 3) t (nI k)) (18 + 4) t 1 (18 + 1) k = h 19 k by rw [sm_up_off (by omega), sm_up_off (by omega), sm_up_off (by omega)]]
  rw [S]
  by_cases z : τ = 2
  · rw [if_pos z, sm_gd_t (sm_inb_nI (k := k) (n := 900) (by rcases hk with y | y; exact y; exact absurd z y) (by omega))]
    obtain ⟨h', f1, f2, f3, f4, f5, f6, f7⟩ := F (h 19 k - 48)
    exact ⟨h', f1, f2, f3, f4, f5, fun _ => f6, f7⟩
  · rw [if_neg z]
    obtain ⟨h', f1, f2, f3, f4, f5, f6, f7⟩ := F 0
    exact ⟨h', f1, f2, f3, f4, f5, fun y => absurd y z, f7⟩
-- what a longer token changes
def n_fr (t : Nat) (h h' : sm_H) : Prop := (∀ i, i ≠ t → h' 20 i = h 20 i ∧ h' 22 i = h 22 i ∧ h' 23 i = h 23 i) ∧ ∀ r, r < 20 ∨ r = 21 ∨ 23 < r → h' r = h r
theorem n_fr.trans {t : Nat} {h h' h'' : sm_H} (a : n_fr t h h') (b : n_fr t h' h'') : n_fr t h h'' := ⟨fun i z => ⟨(b.1 i z).1.trans (a.1 i z).1, (b.1 i z).2.1.trans (a.1 i z).2.1, (b.1 i z).2.2.trans (a.1 i z).2.2⟩, fun r z => (b.2 r z).trans (a.2 r z)⟩
theorem n_len {h : sm_H} {t : Nat} (h6 : h 18 6 = nI (t + 1)) (ht : t ≤ 900) (x : Int32) : ∃ h', f_te_lengthenToken 18 x h = some h' ∧ n_fr t h h' ∧ h' 22 t = h 22 t + 1 ∧ (h 20 t ≠ 2 → h' 20 t = h 20 t) ∧ (h 20 t = 2 → h' 23 t = h 23 t * 10 + x - 48 ∧ h' 20 t = if h 22 t + 1 ≤ 3 then 2 else 4) := by
  have i1 : sm_inb (nI t) 901 = true := sm_inb_nI (k := t) (n := 901) (by omega) (by omega)
  have i2 : (nI t).toNatClampNeg = t := nI_clamp (by omega)
  have S : f_te_lengthenToken 18 x h = if h 20 t = 2 then (if h 22 t + 1 ≤ 3 then f_te_lengthenToken_L72 2 (nI t) 20 (sm_up (sm_up h 22 t (h 22 t + 1)) 23 t (h 23 t * 10 + x - 48)) else f_te_lengthenToken_L72 4 (nI t) 20 (sm_up (sm_up h 22 t (h 22 t + 1)) 23 t (h 23 t * 10 + x - 48))) else some (sm_up h 22 t (h 22 t + 1)) := by
    unfold f_te_lengthenToken
    refine w_lt ?_
    rw [h6, nI_pred, if_pos (show (0 : Int32) ≤ nI t from nI_le (a := 0) (by omega) (by omega)), i1, i2]
    simp only [s_true]
    refine w_lt ?_
    rw [show sm_up h (18 + 4) t (h (18 + 4) t + 1) (18 + 2) t = h 20 t by rw [sm_up_off (by omega)]]
    by_cases z : h 20 t = 2
    · rw [if_pos z, if_pos z]
      refine w_lt ?_
      rw [show sm_up (sm_up h (18 + 4) t (h (18 + 4) t + 1)) (18 + 5) t (sm_up h (18 + 4) t (h (18 + 4) t + 1) (18 + 5) t * 10 + x - 48) (18 + 4) t = h 22 t + 1 by rw [sm_up_off (by omega), p_up_at], show sm_up h (18 + 4) t (h (18 + 4) t + 1) (18 + 5) t = h 23 t by rw [sm_up_off (by omega)]]
    · rw [if_neg z, if_neg z]
  have G : ∀ v, f_te_lengthenToken_L72 v (nI t) 20 (sm_up (sm_up h 22 t (h 22 t + 1)) 23 t (h 23 t * 10 + x - 48)) = some (sm_up (sm_up (sm_up h 22 t (h 22 t + 1)) 23 t (h 23 t * 10 + x - 48)) 20 t v) := by
    intro v
    unfold f_te_lengthenToken_L72
    rw [i1, s_true, i2]
    rfl
  have G2 : ∀ v, h 20 t = 2 → n_fr t h (sm_up (sm_up (sm_up h 22 t (h 22 t + 1)) 23 t (h 23 t * 10 + x - 48)) 20 t v) ∧ sm_up (sm_up (sm_up h 22 t (h 22 t + 1)) 23 t (h 23 t * 10 + x - 48)) 20 t v 22 t = h 22 t + 1 ∧ sm_up (sm_up (sm_up h 22 t (h 22 t + 1)) 23 t (h 23 t * 10 + x - 48)) 20 t v 23 t = h 23 t * 10 + x - 48 := by
    intro v _
    refine ⟨⟨fun i hi => ⟨?_, ?_, ?_⟩, fun r hr => ?_⟩, ?_, ?_⟩
    · rw [sm_up_off (by omega), sm_up_off (by omega), sm_up_off (by omega)]
    · rw [sm_up_off (by omega), sm_up_off (by omega), sm_up_off (by omega)]
    · rw [sm_up_off (by omega), sm_up_off (by omega), sm_up_off (by omega)]
    · rw [sm_up_ne _ _ _ _ _ (by omega), sm_up_ne _ _ _ _ _ (by omega), sm_up_ne _ _ _ _ _ (by omega)]
    · rw [sm_up_off (by omega), sm_up_off (by omega), p_up_at]
    · rw [sm_up_off (by omega), p_up_at]
  rw [S]
  by_cases z : h 20 t = 2
  · rw [if_pos z]
    by_cases y : h 22 t + 1 ≤ 3
    · rw [if_pos y, G]
      obtain ⟨g1, g2, g3⟩ := G2 2 z
      exact ⟨_, rfl, g1, g2, fun w => absurd z w, fun _ => ⟨g3, by rw [p_up_at, if_pos y]⟩⟩
    · rw [if_neg y, G]
      obtain ⟨g1, g2, g3⟩ := G2 4 z
      exact ⟨_, rfl, g1, g2, fun w => absurd z w, fun _ => ⟨g3, by rw [p_up_at, if_neg y]⟩⟩
  · rw [if_neg z]
    refine ⟨_, rfl, ⟨fun i hi => ⟨?_, ?_, ?_⟩, fun r hr => ?_⟩, ?_, fun _ => ?_, fun w => absurd w z⟩
    · rw [sm_up_off (by omega)]
    · rw [sm_up_off (by omega)]
    · rw [sm_up_off (by omega)]
    · rw [sm_up_ne _ _ _ _ _ (by omega)]
    · rw [p_up_at]
    · rw [sm_up_off (by omega)]
