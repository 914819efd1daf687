-- LOAD: THE REFERENCE LOOKS AT A TOKEN
def n_rr (g : sm_H) (u q w : Nat → Int32) : sm_H := sm_row (sm_row (sm_row g 114 u) 116 q) 121 w
section n_rr
variable {g : sm_H} {u q w : Nat → Int32}
theorem n_r114 : n_rr g u q w 114 = u := by unfold n_rr; rw [p_row_off (by decide), p_row_off (by decide), p_row_at]
theorem n_r116 : n_rr g u q w 116 = q := by unfold n_rr; rw [p_row_off (by decide), p_row_at]
theorem n_r121 : n_rr g u q w 121 = w := by unfold n_rr; rw [p_row_at]
theorem n_roff {r : Nat} (h : r ≠ 114 ∧ r ≠ 116 ∧ r ≠ 121) : n_rr g u q w r = g r := by unfold n_rr; rw [p_row_off h.2.2, p_row_off h.2.1, p_row_off h.1]
theorem n_u114 {k : Nat} {v : Int32} : sm_up (n_rr g u q w) 114 k v = n_rr g (upd u k v) q w := by
  funext r
  by_cases a : r = 114
  · rw [a, sm_up_self, n_r114, n_r114]
  · rw [sm_up_ne _ _ _ _ _ a]
    by_cases a2 : r = 116
    · rw [a2, n_r116, n_r116]
    · by_cases a3 : r = 121
      · rw [a3, n_r121, n_r121]
      · rw [n_roff ⟨a, a2, a3⟩, n_roff ⟨a, a2, a3⟩]
theorem n_u116 {k : Nat} {v : Int32} : sm_up (n_rr g u q w) 116 k v = n_rr g u (upd q k v) w := by
  funext r
  by_cases a : r = 116
  · rw [a, sm_up_self, n_r116, n_r116]
  · rw [sm_up_ne _ _ _ _ _ a]
    by_cases a2 : r = 114
    · rw [a2, n_r114, n_r114]
    · by_cases a3 : r = 121
      · rw [a3, n_r121, n_r121]
      · rw [n_roff ⟨a2, a, a3⟩, n_roff ⟨a2, a, a3⟩]
theorem n_u121 {k : Nat} {v : Int32} : sm_up (n_rr g u q w) 121 k v = n_rr g u q (upd w k v) := by
  funext r
  by_cases a : r = 121
  · rw [a, sm_up_self, n_r121, n_r121]
  · rw [sm_up_ne _ _ _ _ _ a]
    by_cases a2 : r = 114
    · rw [a2, n_r114, n_r114]
    · by_cases a3 : r = 116
      · rw [a3, n_r116, n_r116]
      · rw [n_roff ⟨a2, a3, a⟩, n_roff ⟨a2, a3, a⟩]
end n_rr
def n_ba (b : Nat → Nat) (L k : Nat) : Int32 := if k < L then nI (b k) else -1
-- what the scanner leaves alone
def n_uf (u u' : Nat → Int32) : Prop := ∀ k, k ≠ 10 → k ≠ 12 → k ≠ 13 → k ≠ 14 → k ≠ 17 → k ≠ 1017 → u' k = u k
theorem n_uf.refl (u : Nat → Int32) : n_uf u u := fun _ _ _ _ _ _ _ => rfl
theorem n_uf.trans {u u' u'' : Nat → Int32} (a : n_uf u u') (b : n_uf u' u'') : n_uf u u'' := fun k a1 a2 a3 a4 a5 a6 => (b k a1 a2 a3 a4 a5 a6).trans (a k a1 a2 a3 a4 a5 a6)
theorem n_ufu {u u' : Nat → Int32} (a : n_uf u u') {j : Nat} (v : Int32) (h : j = 10 ∨ j = 12 ∨ j = 13 ∨ j = 14 ∨ j = 17 ∨ j = 1017) : n_uf u (upd u' j v) := fun k a1 a2 a3 a4 a5 a6 => by
  rw [p_ud_off (by omega)]
  exact a k a1 a2 a3 a4 a5 a6
-- the reference after an error
def n_ub (c s : Nat) (u u' : Nat → Int32) : Prop := u' 15 = nI c ∧ u' 16 = nI s ∧ ∀ k, k ≤ 9 → u' k = u k
theorem n_uf.ub {u u' u'' : Nat → Int32} {c s : Nat} (a : n_uf u u') (b : n_ub c s u' u'') : n_ub c s u u'' := ⟨b.1, b.2.1, fun k hk => (b.2.2 k hk).trans (a k (by omega) (by omega) (by omega) (by omega) (by omega) (by omega))⟩
def n_RB (b : Nat → Nat) (L : Nat) (g : sm_H) : Prop := L ≤ 900 ∧ ∀ i, i < L → b i < 256 ∧ g 120 i = nI (b i)
-- where the reference stands: before the token at s
def n_U (L : Nat) (u : Nat → Int32) (e : Nat) (le : Bool) (s : Nat) : Prop := u 11 = nI L ∧ (∃ x, e ≤ x ∧ x ≤ s ∧ u 10 = nI x) ∧ u 12 = if le = true then nI e else -1
section n_scan
variable {b : Nat → Nat} {L T i e s τ c : Nat} {g : sm_H} {u q w : Nat → Int32} {le : Bool} {W : List Nat} {kd st sz vl : Nat → Int32}
theorem n_byteAt (B : n_RB b L g) (h : u 11 = nI L) {k : Nat} (hk : k < 2 ^ 30) : f_mo_byteAt 114 (nI k) (n_rr g u q w) = some (n_ba b L k, n_rr g u q w) := by
  have hL := B.1
  unfold f_mo_byteAt n_ba
  rw [n_r114, h]
  by_cases z : k < L
  · rw [if_pos z, if_neg (nI_ge z (by omega)), sm_gd_t (sm_inb_nI (k := k) (n := 900) (by omega) (by omega)), nI_clamp (n := k) (by omega), n_roff (r := 114 + 6) (by decide), (B.2 k z).2]
    rfl
  · rw [if_neg z, if_pos (nI_le (by omega) (by omega))]
    rfl
theorem n_in (a : Int32) (lo hi : Nat) (h1 : lo ≤ hi) (h2 : hi < 256) (k : Nat) (hb : k < L → b k < 256) (e : a = n_ba b L k) (h : sm_H) : f_mo_in a (nI lo) (nI hi) h = some (sm_b2i (decide (k < L ∧ lo ≤ b k ∧ b k ≤ hi)), h) := by
  rw [e_in, e]
  congr 3
  apply decide_eq_decide.mpr
  unfold n_ba
  by_cases z : k < L
  · have hk := hb z
    rw [if_pos z]
    constructor
    · rintro ⟨x, y⟩
      refine ⟨z, ?_, ?_⟩
      · by_cases v : lo ≤ b k
        · exact v
        · exact absurd x (nI_ge (by omega) (by omega))
      · by_cases v : b k ≤ hi
        · exact v
        · exact absurd y (nI_ge (by omega) (by omega))
    · rintro ⟨-, x, y⟩
      exact ⟨nI_le x (by omega), nI_le y (by omega)⟩
  · rw [if_neg z]
    constructor
    · rintro ⟨x, y⟩
      have x1 := Int32.le_iff_toInt_le.mp x
      rw [nI_toInt (by omega), show (-1 : Int32).toInt = -1 by decide] at x1
      omega
    · rintro ⟨x, -⟩
      exact absurd x z
theorem n_isLetter (B : n_RB b L g) (k : Nat) (h : sm_H) : f_mo_isLetter (n_ba b L k) h = some (sm_b2i (decide (k < L ∧ n_ty (b k) = 1)), h) := by
  unfold f_mo_isLetter
  refine w_b2 (n_in (b := b) (L := L) _ 97 122 (by omega) (by omega) k (fun z => (B.2 k z).1) rfl h) ?_
  rw [sm_gd_t (sm_b2i_bz _)]
  congr 3
  apply decide_eq_decide.mpr
  rw [n_ty1]
theorem n_isDigit (B : n_RB b L g) (k : Nat) (h : sm_H) : f_mo_isDigit (n_ba b L k) h = some (sm_b2i (decide (k < L ∧ n_ty (b k) = 2)), h) := by
  unfold f_mo_isDigit
  refine w_b2 (n_in (b := b) (L := L) _ 48 57 (by omega) (by omega) k (fun z => (B.2 k z).1) rfl h) ?_
  rw [sm_gd_t (sm_b2i_bz _)]
  congr 3
  apply decide_eq_decide.mpr
  rw [n_ty2]
theorem n_ba_eq (B : n_RB b L g) (k d : Nat) (hd : d < 2 ^ 30) : n_ba b L k = nI d ↔ k < L ∧ b k = d := by
  unfold n_ba
  by_cases z : k < L
  · have := (B.2 k z).1
    rw [if_pos z]
    constructor
    · intro y
      exact ⟨z, (nI_eq (by omega) (by omega)).mp y⟩
    · rintro ⟨-, y⟩
      rw [y]
  · rw [if_neg z]
    constructor
    · intro y
      have := congrArg Int32.toInt y
      rw [nI_toInt (by omega), show (-1 : Int32).toInt = -1 by decide] at this
      omega
    · rintro ⟨y, -⟩
      exact absurd y z
theorem n_fails (h : u 13 = nI s) : f_mo_fails 114 (nI c) (u 13) (n_rr g u q w) = some (0, n_rr g (upd (upd u 15 (nI c)) 16 (nI s)) q w) ∧ n_ub c s u (upd (upd u 15 (nI c)) 16 (nI s)) := by
  constructor
  · unfold f_mo_fails
    refine w_lt ?_
    refine w_lt ?_
    rw [n_u114, n_u114, h]
  · exact ⟨by rw [p_ud_off (by omega), p_ud_at], p_ud_at, fun k hk => by rw [p_ud_off (by omega), p_ud_off (by omega)]⟩
theorem n_peek (B : n_RB b L g) (K : n_T1 b L T kd st sz vl i e le τ W s) (U : n_U L u e le s) : ∃ u', f_mo_peek 114 (n_rr g u q w) = some (n_ba b L s, n_rr g u' q w) ∧ n_uf u u' ∧ u' 10 = nI s ∧ u' 13 = nI s ∧ u' 12 = u 12 ∧ n_U L u' e le s ∧ u' 14 = u 14 ∧ u' 17 = u 17 ∧ u' 1017 = u 1017 := by
  obtain ⟨k1, k2, k3, k4, k5, k6, k7, k8, k9, ka, kb, kc, kd⟩ := K
  have hL := B.1
  have ns : ¬ (s < L ∧ n_ty (b s) = 5) := by
    rintro ⟨z1, z2⟩
    have t : τ = 0 ∨ τ = 1 ∨ τ = 2 ∨ τ = 3 ∨ τ = 4 := by omega
    rcases t with t | t | t | t | t
    · have := k7 t; omega
    · have := ((k9 (Or.inl t)).2.2.1 0 (by have := (k9 (Or.inl t)).1; omega)).2
      rw [Nat.add_zero] at this
      omega
    · have := ((k9 (Or.inr t)).2.2.1 0 (by have := (k9 (Or.inr t)).1; omega)).2
      rw [Nat.add_zero] at this
      omega
    · have := (kc t).2; omega
    · have := (kd t).1; omega
  have D : ∀ n x u1, s - x < n → e ≤ x → x ≤ s → u1 11 = nI L → u1 10 = nI x → ∃ u', f_mo_peek_L0 n 114 (n_rr g u1 q w) = some (n_ba b L s, n_rr g u' q w) ∧ (∀ k, k ≠ 10 → k ≠ 13 → u' k = u1 k) ∧ u' 10 = nI s ∧ u' 13 = nI s := by
    intro n
    induction n with
    | zero => intro x u1 a1; omega
    | succ n ih =>
      intro x u1 a1 a2 a3 a4 a5
      have R1 : f_mo_byteAt 114 (n_rr g u1 q w 114 10) (n_rr g u1 q w) = some (n_ba b L x, n_rr g u1 q w) := by
        rw [n_r114, a5]
        exact n_byteAt B a4 (by omega)
      have step : n_ty (b x) = 5 → x < s → ∃ u', f_mo_peek_L26 (f_mo_peek_L0 n) 114 (n_rr g u1 q w) = some (n_ba b L s, n_rr g u' q w) ∧ (∀ k, k ≠ 10 → k ≠ 13 → u' k = u1 k) ∧ u' 10 = nI s ∧ u' 13 = nI s := by
        intro _ y
        obtain ⟨u', p1, p2, p3, p4⟩ := ih (x + 1) (upd u1 10 (nI (x + 1))) (by omega) (by omega) (by omega) (by rw [p_ud_off (by omega)]; exact a4) p_ud_at
        refine ⟨u', ?_, fun k y1 y2 => by rw [p2 k y1 y2, p_ud_off y1], p3, p4⟩
        unfold f_mo_peek_L26
        refine w_lt ?_
        rw [n_u114, n_r114, a5, nI_1]
        exact p1
      by_cases y : x = s
      · subst y
        refine ⟨upd u1 13 (nI x), ?_, fun k _ y2 => p_ud_off y2, by rw [p_ud_off (by omega)]; exact a5, p_ud_at⟩
        unfold f_mo_peek_L0
        refine w_b2 R1 ?_
        rw [if_neg (show ¬ n_ba b L x = 32 from fun z => ns ⟨((n_ba_eq B x 32 (by omega)).mp z).1, n_ty5.mpr (Or.inl ((n_ba_eq B x 32 (by omega)).mp z).2)⟩)]
        refine w_b2 R1 ?_
        rw [if_neg (show ¬ n_ba b L x = 10 from fun z => ns ⟨((n_ba_eq B x 10 (by omega)).mp z).1, n_ty5.mpr (Or.inr ((n_ba_eq B x 10 (by omega)).mp z).2)⟩)]
        unfold f_mo_peek_L39
        refine w_lt ?_
        rw [n_u114, n_r114, n_r114, a5]
        refine w_b2 (v := n_ba b L x) (g := n_rr g (upd u1 13 (nI x)) q w) ?_ rfl
        rw [p_ud_off (show ¬ 10 = 13 by decide), a5]
        exact n_byteAt B (by rw [p_ud_off (by omega)]; exact a4) (by omega)
      · have y1 : x < s := by omega
        have y2 := k3 x a2 y1
        obtain ⟨u', q1, q2, q3, q4⟩ := step y2 y1
        refine ⟨u', ?_, q2, q3, q4⟩
        unfold f_mo_peek_L0
        refine w_b2 R1 ?_
        rcases n_ty5.mp y2 with z | z
        · rw [if_pos (show n_ba b L x = 32 from (n_ba_eq B x 32 (by omega)).mpr ⟨by omega, z⟩)]
          exact q1
        · rw [if_neg (show ¬ n_ba b L x = 32 from fun v => by have := ((n_ba_eq B x 32 (by omega)).mp v).2; omega)]
          refine w_b2 R1 ?_
          rw [if_pos (show n_ba b L x = 10 from (n_ba_eq B x 10 (by omega)).mpr ⟨by omega, z⟩)]
          exact q1
  obtain ⟨v1, ⟨x, v2, v3, v4⟩, v5⟩ := U
  obtain ⟨u', q1, q2, q3, q4⟩ := D sm_N x u (by unfold sm_N; omega) v2 v3 v1 v4
  exact ⟨u', q1, fun k a1 a2 a3 a4 a5 a6 => q2 k a1 a3, q3, q4, q2 12 (by omega) (by omega), ⟨by rw [q2 11 (by omega) (by omega)]; exact v1, ⟨s, k1, Nat.le_refl _, q3⟩, by rw [q2 12 (by omega) (by omega)]; exact v5⟩, q2 14 (by omega) (by omega), q2 17 (by omega) (by omega), q2 1017 (by omega) (by omega)⟩
end n_scan
