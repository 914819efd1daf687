-- LOAD: BOTH SIDES IN STEP
section n_lock
variable {b : Nat → Nat} {L T p i e s τ c : Nat} {g h0 h : sm_H} {u q w : Nat → Int32} {le : Bool} {W : List Nat}
def n_S (b : Nat → Nat) (L T p : Nat) (h0 : sm_H) (i e : Nat) (le : Bool) (τ : Nat) (W : List Nat) (s : Nat) (h : sm_H) (u : Nat → Int32) : Prop := n_G p h0 i h ∧ n_TK b L T h0 i e le τ W s ∧ (1 ≤ τ → τ ≤ 3 → ∃ m, n_TA b L T (h0 20) (h0 21) (h0 22) (h0 23) m (i + 1) (s + W.length) (decide (τ ≤ 2))) ∧ n_U L u e le s
def n_SS (b : Nat → Nat) (L T p : Nat) (h0 : sm_H) (i e : Nat) (le : Bool) (h : sm_H) (u : Nat → Int32) : Prop := ∃ τ W s, n_S b L T p h0 i e le τ W s h u
theorem n_TA.unf {m : Nat} {kd st sz vl : Nat → Int32} (A : n_TA b L T kd st sz vl m i e le) : ∃ τ W s, n_T1 b L T kd st sz vl i e le τ W s ∧ (1 ≤ τ → τ ≤ 3 → ∃ m, n_TA b L T kd st sz vl m (i + 1) (s + W.length) (decide (τ ≤ 2))) := by
  cases m with
  | zero => exact A.elim
  | succ m =>
    obtain ⟨τ, W, s, t, n⟩ := A
    exact ⟨τ, W, s, t, fun z1 z2 => ⟨m, n z1 z2⟩⟩
theorem n_next (S : n_S b L T p h0 i e le τ W s h u) (t1 : 1 ≤ τ) (t3 : τ ≤ 3) {h' : sm_H} {u' : Nat → Int32} (G : n_G p h0 (i + 1) h') (e10 : u' 10 = nI (s + W.length)) (e12 : u' 12 = if decide (τ ≤ 2) = true then nI (s + W.length) else -1) (e11 : u' 11 = nI L) : n_SS b L T p h0 (i + 1) (s + W.length) (decide (τ ≤ 2)) h' u' := by
  obtain ⟨m, A⟩ := S.2.2.1 t1 t3
  obtain ⟨τ', W', s', K', n'⟩ := A.unf
  exact ⟨τ', W', s', G, K', n', e11, ⟨_, Nat.le_refl _, K'.1, e10⟩, e12⟩
theorem n_dv_lt (s : Nat) : ∀ n, (∀ k, k < n → n_ty (b (s + k)) = 2) → n_dv b s n < 10 ^ n := by
  intro n
  induction n with
  | zero => intro _; exact Nat.zero_lt_one
  | succ n ih =>
    intro hd
    have h1 := ih (fun k hk => hd k (by omega))
    have h2 := n_ty2.mp (hd n (by omega))
    show 10 * n_dv b s n + (b (s + n) - 48) < 10 ^ (n + 1)
    rw [Nat.pow_succ]
    omega
def n_bad (p : Nat) (h0 h' : sm_H) (u u' : Nat → Int32) : Prop := ∃ c s, n_E p h0 c s h' ∧ n_ub c s u u'
theorem n_num (B : n_B0 b L T p h0) (R : n_RB b L g) (S : n_SS b L T p h0 i e le h u) (P : n_KA p h) (lo hi : Int32) : (∃ u' v e', f_re_needNumber 17 lo hi h = some (nI v, sm_up h 18 7 (nI (i + 1))) ∧ f_mo_readNumber 114 lo hi (n_rr g u q w) = some (1, n_rr g u' q w) ∧ n_uf u u' ∧ u' 14 = nI v ∧ v < 1000 ∧ lo ≤ nI v ∧ nI v ≤ hi ∧ e + 1 ≤ e' ∧ (le = true → e + 2 ≤ e') ∧ e' ≤ L ∧ n_SS b L T p h0 (i + 1) e' true (sm_up h 18 7 (nI (i + 1))) u') ∨ (∃ h' u', f_re_needNumber 17 lo hi h = some (lo, h') ∧ f_mo_readNumber 114 lo hi (n_rr g u q w) = some (0, n_rr g u' q w) ∧ n_bad p h0 h' u u') := by
  obtain ⟨τ, W, s, S⟩ := S
  obtain ⟨G, K, nx, U⟩ := id S
  obtain ⟨c1, c2⟩ := n_needNumber B G K P lo hi
  obtain ⟨r1, r2⟩ := n_rnumF (g := g) (q := q) (w := w) R K U lo hi
  by_cases z : τ = 2 ∧ lo ≤ nI (n_dv b s W.length) ∧ nI (n_dv b s W.length) ≤ hi
  · obtain ⟨u', v1, v2, v3, v4, v5, v6⟩ := r1 z
    obtain ⟨z1, z2, z3⟩ := z
    obtain ⟨m1, m2, m3, m4, m5⟩ := K.2.2.2.2.2.2.2.2.1 (Or.inr z1)
    have hw := (K.2.2.2.2.2.2.2.2.2.2.1 z1).1
    have hlt := n_dv_lt (b := b) s W.length (fun k hk => (m3 k hk).2.trans z1)
    have h10 : 10 ^ W.length ≤ 10 ^ 3 := Nat.pow_le_pow_right (by omega) hw
    have hT := (K.2.2.2.2.2.2.2.1 (by rw [z1]; decide)).2
    have hes : e ≤ s := K.1
    refine Or.inl ⟨u', n_dv b s W.length, s + W.length, c1 ⟨z1, z2, z3⟩, v1, v2, v3, Nat.lt_of_lt_of_le hlt h10, z2, z3, by omega, fun z => by
      have : s ≠ e := fun y => m5 ⟨z, y⟩
      omega, m2, ?_⟩
    have := n_next S (by rw [z1]; decide) (by rw [z1]; decide) (n_adv B G hT).2 v4 (by rw [z1]; exact v5) v6
    rw [z1] at this
    exact this
  · obtain ⟨h', v1, v2⟩ := c2 z
    obtain ⟨u', w1, w2⟩ := r2 z
    exact Or.inr ⟨h', u', v1, w1, _, _, v2, w2⟩
theorem n_sgn (B : n_B0 b L T p h0) (R : n_RB b L g) (S : n_SS b L T p h0 i e le h u) (P : n_KA p h) (hc : n_ty c = 3) : (∃ u' e', f_re_needSign 17 (nI c) h = some (sm_up h 18 7 (nI (i + 1))) ∧ f_mo_readSign 114 (nI c) (n_rr g u q w) = some (1, n_rr g u' q w) ∧ n_uf u u' ∧ e + 1 ≤ e' ∧ e' ≤ L ∧ n_SS b L T p h0 (i + 1) e' false (sm_up h 18 7 (nI (i + 1))) u') ∨ (∃ h' u', f_re_needSign 17 (nI c) h = some h' ∧ f_mo_readSign 114 (nI c) (n_rr g u q w) = some (0, n_rr g u' q w) ∧ n_bad p h0 h' u u') := by
  have c128 : c < 128 := by
    rcases n_ty3.mp hc with z | z | z | z <;> omega
  obtain ⟨τ, W, s, S⟩ := S
  obtain ⟨G, K, nx, U⟩ := id S
  obtain ⟨c1, c2⟩ := n_needSign B G K P c128
  obtain ⟨r1, r2⟩ := n_rsign (g := g) (q := q) (w := w) R K U hc
  by_cases z : τ = 3 ∧ W = [c]
  · obtain ⟨u', v1, v2, v4, v5, v6⟩ := r1 z
    obtain ⟨z1, z2⟩ := z
    obtain ⟨hs, hT⟩ := K.2.2.2.2.2.2.2.1 (by rw [z1]; decide)
    have hes : e ≤ s := K.1
    have hl : W.length = 1 := by rw [z2]; rfl
    refine Or.inl ⟨u', s + W.length, c1 ⟨z1, z2⟩, v1, v2, by omega, by omega, ?_⟩
    have := n_next S (by rw [z1]; decide) (by rw [z1]; decide) (n_adv B G hT).2 (by rw [hl]; exact v4) (by rw [z1]; exact v5) v6
    rw [z1] at this
    exact this
  · obtain ⟨h', v1, v2⟩ := c2 z
    obtain ⟨u', w1, w2⟩ := r2 z
    exact Or.inr ⟨h', u', v1, w1, _, _, v2, w2⟩
-- a word is seen
theorem n_see (R : n_RB b L g) (S : n_S b L T p h0 i e le τ W s h u) (ht : τ = 1) : ∃ u', f_mo_seesWord 114 (n_rr g u q w) = some (1, n_rr g u' q w) ∧ n_uf u u' ∧ n_S b L T p h0 i e le τ W s h u' ∧ u' 10 = nI s ∧ u' 13 = nI s ∧ ∀ a, a < 28 → ∀ c, c = n_kc a → (lg_cmp (sm_jn (u' 17) (u' 1017)) c = 0 ↔ W = n_kw a) := by
  obtain ⟨G, K, nx, U⟩ := S
  obtain ⟨u', v1, v2, v3, v4, v5, v6, v7⟩ := n_sees1 (g := g) (q := q) (w := w) R K U ht
  obtain ⟨m1, m2, m3, m4, m5⟩ := K.2.2.2.2.2.2.2.2.1 (Or.inl ht)
  refine ⟨u', v1, v2, ⟨G, K, nx, v6⟩, v3, v4, fun a ha c hc => ?_⟩
  rw [v7]
  exact n_word ha m1 (fun k hk => ⟨(m3 k hk).1, (m3 k hk).2.trans ht⟩) hc
-- and passed, by both
theorem n_psw (B : n_B0 b L T p h0) (R : n_RB b L g) (S : n_S b L T p h0 i e le τ W s h u) (ht : τ = 1) (h10 : u 10 = nI s) : ∃ u', f_mo_passWord 114 (n_rr g u q w) = some (n_rr g u' q w) ∧ n_uf u u' ∧ (∀ k, k ≠ 10 → k ≠ 12 → u' k = u k) ∧ s + W.length ≤ L ∧ n_SS b L T p h0 (i + 1) (s + W.length) true (sm_up h 18 7 (nI (i + 1))) u' := by
  obtain ⟨G, K, nx, U⟩ := id S
  obtain ⟨u', v1, v2, v3, v4, v5, v6⟩ := n_pass (g := g) (q := q) (w := w) R K ht U.1 h10
  obtain ⟨m1, m2, m3, m4, m5⟩ := K.2.2.2.2.2.2.2.2.1 (Or.inl ht)
  have hT := (K.2.2.2.2.2.2.2.1 (by rw [ht]; decide)).2
  refine ⟨u', v1, v2, v6, m2, ?_⟩
  have := n_next S (by rw [ht]; decide) (by rw [ht]; decide) (n_adv B G hT).2 v3 (by rw [ht]; exact v4) v5
  rw [ht] at this
  exact this
theorem n_kc_eq : (27769011 : Int64) = n_kc 0 ∧ (135708850 : Int64) = n_kc 1 ∧ (660095385 : Int64) = n_kc 2 ∧ (6182458996 : Int64) = n_kc 3 ∧ (508078 : Int64) = n_kc 4 ∧ (6190 : Int64) = n_kc 5 ∧ (20579634 : Int64) = n_kc 6 ∧ (146930 : Int64) = n_kc 7 ∧ (672734388 : Int64) = n_kc 8 ∧ (17382886 : Int64) = n_kc 9 ∧ (611717 : Int64) = n_kc 10 ∧ (14836 : Int64) = n_kc 11 ∧ (1443405 : Int64) = n_kc 12 ∧ (6605428 : Int64) = n_kc 13 := by decide +kernel
theorem n_kc_eq2 : (43058 : Int64) = n_kc 14 ∧ (1265842 : Int64) = n_kc 15 ∧ (20047144391 : Int64) = n_kc 16 ∧ (22095235461 : Int64) = n_kc 17 ∧ (1476 : Int64) = n_kc 18 ∧ (498 : Int64) = n_kc 19 ∧ (143 : Int64) = n_kc 20 ∧ (631476 : Int64) = n_kc 21 ∧ (20579924 : Int64) = n_kc 22 ∧ (643568 : Int64) = n_kc 23 ∧ (6195577972 : Int64) = n_kc 24 ∧ (17372787 : Int64) = n_kc 25 ∧ (3554917 : Int64) = n_kc 26 ∧ (17484005 : Int64) = n_kc 27 := by decide +kernel
end n_lock
