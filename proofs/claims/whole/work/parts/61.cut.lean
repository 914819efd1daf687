-- LOAD: THE CUT
def n_CU (b : Nat → Nat) (L : Nat) (h : sm_H) : Prop := ∀ i, i < L → b i < 256 ∧ h 19 i = n_by (b i)
section n_cut
variable {b : Nat → Nat} {L : Nat}
theorem n_st1 {n k τ : Nat} {h : sm_H} (C : n_CU b L h) (hL : L ≤ 900) (hk : k < L) (e : n_ty (b k) = τ) (hr : τ = 1 ∨ τ = 2) : f_te_cut_L14 (n + 1) 18 (nI L) (nI τ) (nI k) h = Option.bind (f_te_lengthenToken 18 (h 19 k) h) (fun g => f_te_cut_L14 n 18 (nI L) (nI τ) (nI (k + 1)) g) := by
  show (if nI L ≤ nI k then _ else _) = _
  rw [if_neg (nI_ge hk (by omega)), if_neg (show ¬ (900 : Int32) ≤ nI k from nI_ge (b := 900) (by omega) (by omega)), sm_gd_t (sm_inb_nI (k := k) (n := 900) (by omega) (by omega)), nI_clamp (by omega)]
  refine w_b2 (v := nI τ) (g := h) ?_ ?_
  · rw [show h (18 + 1) k = n_by (b k) from (C k hk).2, n_kind (C k hk).1, e]
  · refine w_b2 (n_isRun (by omega) h) ?_
    rw [decide_eq_true hr]
    rw [if_neg (show ¬ sm_b2i true = 0 by decide), if_pos (show nI τ = nI τ from rfl), sm_gd_t (sm_inb_nI (k := k) (n := 900) (by omega) (by omega))]
    unfold f_te_cut_L101
    simp only [sm_let, nI_1]
theorem n_st2 {n k τ bef : Nat} {h : sm_H} (C : n_CU b L h) (hL : L ≤ 900) (hk : k < L) (e : n_ty (b k) = τ) (hb : bef ≤ 5) (hr : ¬ ((τ = 1 ∨ τ = 2) ∧ τ = bef)) : f_te_cut_L14 (n + 1) 18 (nI L) (nI bef) (nI k) h = if τ = 5 then f_te_cut_L14 n 18 (nI L) (nI τ) (nI (k + 1)) h else Option.bind (f_te_startToken 18 (if (τ = 1 ∨ τ = 2) ∧ (bef = 1 ∨ bef = 2) then 4 else nI τ) (nI k) h) (fun g => f_te_cut_L14 n 18 (nI L) (nI τ) (nI (k + 1)) g) := by
  have ht := n_ty_le (b k)
  rw [e] at ht
  show (if nI L ≤ nI k then _ else _) = _
  rw [if_neg (nI_ge hk (by omega)), if_neg (show ¬ (900 : Int32) ≤ nI k from nI_ge (b := 900) (by omega) (by omega)), sm_gd_t (sm_inb_nI (k := k) (n := 900) (by omega) (by omega)), nI_clamp (by omega)]
  refine w_b2 (v := nI τ) (g := h) ?_ ?_
  · rw [show h (18 + 1) k = n_by (b k) from (C k hk).2, n_kind (C k hk).1, e]
  · refine w_b2 (n_isRun (by omega) h) ?_
    have q : ∀ F : Nat → Int32 → Int32 → Int32 → sm_H → Option sm_H, f_te_cut_L64 F 18 (nI L) (nI bef) (nI k) (nI τ) h = if τ = 5 then F 18 (nI L) (nI τ) (nI (k + 1)) h else Option.bind (f_te_startToken 18 (if (τ = 1 ∨ τ = 2) ∧ (bef = 1 ∨ bef = 2) then 4 else nI τ) (nI k) h) (fun g => F 18 (nI L) (nI τ) (nI (k + 1)) g) := by
      intro F
      have q2 : f_te_cut_L88 F 18 (nI L) (nI k) (nI τ) h = if τ = 5 then F 18 (nI L) (nI τ) (nI (k + 1)) h else Option.bind (f_te_startToken 18 (nI τ) (nI k) h) (fun g => F 18 (nI L) (nI τ) (nI (k + 1)) g) := by
        unfold f_te_cut_L88
        by_cases z : τ = 5
        · rw [if_pos z, if_pos (show nI τ = 5 by rw [z]; rfl)]
          unfold f_te_cut_L101
          simp only [sm_let, nI_1]
        · rw [if_neg z, if_neg (show ¬ nI τ = 5 from fun y => z ((nI_eq (b := 5) (by omega) (by omega)).mp y))]
          unfold f_te_cut_L101
          simp only [sm_let, nI_1]
      unfold f_te_cut_L64
      refine w_b2 (n_isRun (by omega) h) ?_
      by_cases y : τ = 1 ∨ τ = 2
      · rw [decide_eq_true y, if_neg (show ¬ sm_b2i true = 0 by decide)]
        refine w_b2 (n_isRun (by omega) h) ?_
        by_cases x : bef = 1 ∨ bef = 2
        · rw [decide_eq_true x, if_neg (show ¬ sm_b2i true = 0 by decide), if_neg (by omega), if_pos ⟨y, x⟩]
          unfold f_te_cut_L101
          simp only [sm_let, nI_1]
        · rw [decide_eq_false x, if_pos (show sm_b2i false = 0 by decide), q2, if_neg (show ¬ ((τ = 1 ∨ τ = 2) ∧ (bef = 1 ∨ bef = 2)) from fun w => x w.2)]
      · rw [decide_eq_false y, if_pos (show sm_b2i false = 0 by decide), q2, if_neg (show ¬ ((τ = 1 ∨ τ = 2) ∧ (bef = 1 ∨ bef = 2)) from fun w => y w.1)]
    by_cases y : τ = 1 ∨ τ = 2
    · rw [decide_eq_true y, if_neg (show ¬ sm_b2i true = 0 by decide), if_neg (show ¬ nI τ = nI bef from fun x => hr ⟨y, (nI_eq (by omega) (by omega)).mp x⟩)]
      exact q _
    · rw [decide_eq_false y, if_pos (show sm_b2i false = 0 by decide)]
      exact q _
theorem n_max (τ : Nat) : ∀ m k, k + m = L → ∃ r, k + r ≤ L ∧ (∀ j, j < r → n_ty (b (k + j)) = τ) ∧ (k + r < L → n_ty (b (k + r)) ≠ τ) := by
  intro m
  induction m with
  | zero => intro k hk; exact ⟨0, by omega, fun j hj => absurd hj (by omega), fun z => absurd z (by omega)⟩
  | succ m ih =>
    intro k hk
    by_cases z : n_ty (b k) = τ
    · obtain ⟨r, r1, r2, r3⟩ := ih (k + 1) (by omega)
      refine ⟨r + 1, by omega, fun j hj => ?_, fun y => ?_⟩
      · cases j with
        | zero => exact z
        | succ j =>
          have := r2 j (by omega)
          rw [show k + 1 + j = k + (j + 1) by omega] at this
          exact this
      · rw [show k + (r + 1) = k + 1 + r by omega]
        exact r3 (by omega)
    · exact ⟨0, by omega, fun j hj => absurd hj (by omega), fun _ => z⟩
-- the last token, while it grows
def n_Q (b : Nat → Nat) (s t τ : Nat) (kd : Int32) (z : Nat) (h : sm_H) : Prop := (kd ≠ 2 ∧ h 20 t = kd) ∨ (kd = 2 ∧ τ = 2 ∧ z ≤ 3 ∧ h 20 t = 2 ∧ h 23 t = nI (n_dv b s z)) ∨ (kd = 2 ∧ 4 ≤ z ∧ h 20 t = 4)
theorem n_runs {t τ s : Nat} {kd : Int32} (hL : L ≤ 900) (ht : t ≤ 900) (hr : τ = 1 ∨ τ = 2) (n : Nat) : ∀ m k h z, k = s + z → k + m ≤ L → (∀ j, j < m → n_ty (b (k + j)) = τ) → n_CU b L h → h 18 6 = nI (t + 1) → h 22 t = nI z → n_Q b s t τ kd z h → ∃ h', f_te_cut_L14 (n + m) 18 (nI L) (nI τ) (nI k) h = f_te_cut_L14 n 18 (nI L) (nI τ) (nI (k + m)) h' ∧ n_fr t h h' ∧ h' 22 t = nI (z + m) ∧ n_Q b s t τ kd (z + m) h' := by
  intro m
  induction m with
  | zero => intro k h z k1 k2 k3 C h6 hz hq; exact ⟨h, rfl, ⟨fun _ _ => ⟨rfl, rfl, rfl⟩, fun _ _ => rfl⟩, hz, hq⟩
  | succ m ih =>
    intro k h z k1 k2 k3 C h6 hz hq
    have e := k3 0 (by omega)
    rw [Nat.add_zero] at e
    obtain ⟨g, g1, g2, g3, g4, g5⟩ := n_len h6 ht (h 19 k)
    have f19 : g 19 = h 19 := g2.2 19 (by omega)
    have C' : n_CU b L g := fun i hi => by rw [f19]; exact C i hi
    have hz' : g 22 t = nI (z + 1) := by rw [g3, hz, nI_1]
    have hq' : n_Q b s t τ kd (z + 1) g := by
      rcases hq with ⟨q1, q2⟩ | ⟨q1, q2, q3, q4, q5⟩ | ⟨q1, q2, q3⟩
      · exact Or.inl ⟨q1, by rw [g4 (by rw [q2]; exact q1)]; exact q2⟩
      · obtain ⟨w1, w2⟩ := g5 q4
        rw [hz, nI_1] at w2
        by_cases y : z + 1 ≤ 3
        · rw [if_pos (show nI (z + 1) ≤ 3 from nI_le (b := 3) y (by omega))] at w2
          refine Or.inr (Or.inl ⟨q1, q2, y, w2, ?_⟩)
          have c2 := n_ty2.mp (e.trans q2)
          rw [w1, q5, (C k (by omega)).2, n_by_nI (by omega), show (10 : Int32) = nI 10 from rfl, show (48 : Int32) = nI 48 from rfl, nI_mul, nI_add, nI_sub (by omega)]
          show _ = nI (10 * n_dv b s z + (b (s + z) - 48))
          rw [← k1]
          congr 1
          omega
        · rw [if_neg (show ¬ nI (z + 1) ≤ 3 from nI_ge (a := 3) (by omega) (by omega))] at w2
          exact Or.inr (Or.inr ⟨q1, by omega, w2⟩)
      · exact Or.inr (Or.inr ⟨q1, by omega, by rw [g4 (by rw [q3]; decide)]; exact q3⟩)
    obtain ⟨h', i1, i2, i3, i4⟩ := ih (k + 1) g (z + 1) (by omega) (by omega) (fun j hj => by have := k3 (j + 1) (by omega); rw [show k + (j + 1) = k + 1 + j by omega] at this; exact this) C' (by rw [g2.2 18 (by omega)]; exact h6) hz' hq'
    refine ⟨h', ?_, g2.trans i2, by rw [i3]; congr 1; omega, by rw [show z + (m + 1) = z + 1 + m by omega]; exact i4⟩
    rw [show n + (m + 1) = (n + m) + 1 by omega, n_st1 C hL (by omega) e hr]
    refine w_bd g1 ?_
    rw [show k + (m + 1) = k + 1 + m by omega]
    exact i1
end n_cut
