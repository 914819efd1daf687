-- LOAD: THE POINTS OF THE REFERENCE'S CONDITION, and its openings
def n_tail (n : Nat) (g13 : sm_H) : Option (Int32 × sm_H) := sm_b2 (f_mo_seesWord 114 g13) fun r15 g16 => if r15 = 0 then (some (0, g16)) else (if (lg_cmp (sm_jn (g16 114 17) (g16 114 1017)) 1476) = 0 then (f_mo_readCondition_L61 (f_mo_readCondition_L10 n) 114 g16) else (if (lg_cmp (sm_jn (g16 114 17) (g16 114 1017)) 498) = 0 then (f_mo_readCondition_L61 (f_mo_readCondition_L10 n) 114 g16) else (f_mo_readCondition_L66 (f_mo_readCondition_L10 n) 114 0 g16)))
def n_P5 (n m : Nat) (g : sm_H) : Option (Int32 × sm_H) := Option.bind (f_mo_passClosings_L5 m 114 g) (n_tail n)
def n_C (n k m : Nat) (g : sm_H) : Option (Int32 × sm_H) := Option.bind (f_mo_settle_L0 k 114 (nI 3) g) (fun g1 => n_P5 n m g1)
def n_T9 (n : Nat) (g6 : sm_H) : Option (Int32 × sm_H) := sm_b2 (f_mo_readTest 114 g6) fun r9 g10 => if r9 = 0 then (some (0, g10)) else n_C n sm_N sm_N g10
def n_A (n m : Nat) (g : sm_H) : Option (Int32 × sm_H) := sm_b2 (f_mo_readOpenings_L0 m 114 g) fun r5 g6 => if r5 = 0 then (some (0, g6)) else n_T9 n g6
theorem n_bind2 {α β γ : Type} (x : Option α) (F : α → Option β) (H : β → Option γ) : Option.bind (Option.bind x F) H = Option.bind x (fun a => Option.bind (F a) H) := by
  cases x <;> rfl
theorem n_pc (n : Nat) (g10 : sm_H) : Option.bind (f_mo_passClosings 114 g10) (n_tail n) = n_C n sm_N sm_N g10 := by
  unfold f_mo_passClosings n_C n_P5
  rw [n_bind2]
  rfl
theorem n_L10 (n : Nat) (g : sm_H) : f_mo_readCondition_L10 (n + 1) 114 g = n_A n sm_N g := by
  unfold n_A n_T9
  simp only [← n_pc]
  rfl
section n_open
variable {b : Nat → Nat} {L T p i e s τ m : Nat} {g h0 h : sm_H} {u q w : Nat → Int32} {le : Bool} {W S : List Nat}
-- which sign peek sees
theorem n_peekS (R : n_RB b L g) (Y : n_S b L T p h0 i e le τ W s h u) : ∃ u', f_mo_peek 114 (n_rr g u q w) = some (n_ba b L s, n_rr g u' q w) ∧ n_uf u u' ∧ n_S b L T p h0 i e le τ W s h u' ∧ u' 10 = nI s ∧ u' 13 = nI s ∧ ∀ c, n_ty c = 3 → (n_ba b L s = nI c ↔ τ = 3 ∧ W = [c]) := by
  obtain ⟨G, K, nx, U⟩ := Y
  obtain ⟨u', p1, p2, p3, p4, p5, p6, -⟩ := n_peek (q := q) (w := w) R K U
  refine ⟨u', p1, p2, ⟨G, K, nx, p6⟩, p3, p4, fun c hc => ?_⟩
  have c128 : c < 128 := by
    rcases n_ty3.mp hc with z | z | z | z <;> omega
  rw [n_ba_eq R s c (by omega), n_sign_iff K hc]
theorem n_see0 (R : n_RB b L g) (Y : n_S b L T p h0 i e le τ W s h u) (ht : τ ≠ 1) : ∃ u', f_mo_seesWord 114 (n_rr g u q w) = some (0, n_rr g u' q w) ∧ n_ub 1 s u u' := by
  obtain ⟨G, K, nx, U⟩ := Y
  exact n_sees0 R K U ht
theorem n_ro_bad (R : n_RB b L g) (Y : n_S b L T p h0 i e le τ W s h u) (ht : τ ≠ 1) (h40 : ¬ (τ = 3 ∧ W = [40])) : ∃ u', f_mo_readOpenings_L0 (m + 1) 114 (n_rr g u q w) = some (0, n_rr g u' q w) ∧ n_ub 1 s u u' := by
  obtain ⟨u1, p1, p2, p3, p4, p5, p6⟩ := n_peekS (q := q) (w := w) R Y
  obtain ⟨u2, s1, s2⟩ := n_see0 (q := q) (w := w) R p3 ht
  refine ⟨u2, ?_, p2.ub s2⟩
  unfold f_mo_readOpenings_L0
  refine w_b2 p1 ?_
  rw [if_neg (show ¬ n_ba b L s = 40 from fun z => h40 ((p6 40 (by decide)).mp z))]
  refine w_b2 s1 ?_
  rw [if_pos rfl]
theorem n_ro_word (R : n_RB b L g) (Y : n_S b L T p h0 i e le τ W s h u) (ht : τ = 1) (h11 : W ≠ n_kw 11) : ∃ u', f_mo_readOpenings_L0 (m + 1) 114 (n_rr g u q w) = some (1, n_rr g u' q w) ∧ n_uf u u' ∧ n_S b L T p h0 i e le τ W s h u' ∧ u' 10 = nI s ∧ u' 13 = nI s ∧ ∀ a, a < 28 → ∀ c, c = n_kc a → (lg_cmp (sm_jn (u' 17) (u' 1017)) c = 0 ↔ W = n_kw a) := by
  obtain ⟨u1, p1, p2, p3, p4, p5, p6⟩ := n_peekS (q := q) (w := w) R Y
  obtain ⟨u2, s1, s2, s3, s4, s5, s6⟩ := n_see (q := q) (w := w) R p3 ht
  refine ⟨u2, ?_, p2.trans s2, s3, s4, s5, s6⟩
  unfold f_mo_readOpenings_L0
  refine w_b2 p1 ?_
  rw [if_neg (show ¬ n_ba b L s = 40 from fun z => by have := ((p6 40 (by decide)).mp z).1; omega)]
  refine w_b2 s1 ?_
  rw [if_neg (show ¬ (1 : Int32) = 0 by decide), n_r114, if_neg (fun z => h11 ((s6 11 (by decide) _ n_kc_eq.2.2.2.2.2.2.2.2.2.2.2.1).mp z))]
theorem n_ro_not (B : n_B0 b L T p h0) (R : n_RB b L g) (Y : n_S b L T p h0 i e le τ W s h u) (ht : τ = 1) (h11 : W = n_kw 11) (r : n_R S u w) (hS : S.length < 30) : (n_dep S = 6 → ∃ u', f_mo_readOpenings_L0 (m + 1) 114 (n_rr g u q w) = some (0, n_rr g u' q w) ∧ n_ub 3 s u u') ∧ (n_dep S < 6 → ∃ u' w', f_mo_readOpenings_L0 (m + 1) 114 (n_rr g u q w) = f_mo_readOpenings_L0 m 114 (n_rr g u' q w') ∧ n_uc u u' ∧ n_R (6 :: S) u' w' ∧ n_SS b L T p h0 (i + 1) (s + 3) true (sm_up h 18 7 (nI (i + 1))) u') := by
  obtain ⟨u1, p1, p2, p3, p4, p5, p6⟩ := n_peekS (q := q) (w := w) R Y
  obtain ⟨u2, s1, s2, s3, s4, s5, s6⟩ := n_see (q := q) (w := w) R p3 ht
  have r2 : n_R S u2 w := (p2.trans s2).R r
  obtain ⟨o1, o2⟩ := n_opens (g := g) (q := q) (o := 6) r2 (Or.inl rfl) hS s5
  have n40 : ¬ n_ba b L s = 40 := fun z => by have := ((p6 40 (by decide)).mp z).1; omega
  constructor
  · intro z
    obtain ⟨u3, v1, v2⟩ := o1 z
    refine ⟨u3, ?_, (p2.trans s2).ub v2⟩
    unfold f_mo_readOpenings_L0
    refine w_b2 p1 ?_
    rw [if_neg n40]
    refine w_b2 s1 ?_
    rw [if_neg (show ¬ (1 : Int32) = 0 by decide), n_r114, if_pos ((s6 11 (by decide) _ n_kc_eq.2.2.2.2.2.2.2.2.2.2.2.1).mpr h11)]
    refine w_b2 v1 ?_
    rw [if_pos rfl]
  · intro z
    obtain ⟨u3, w', v1, v2, v3, v4⟩ := o2 z
    have s3' : n_S b L T p h0 i e le τ W s h u3 := by
      obtain ⟨G, K, nx, U1, U2, U3⟩ := s3
      refine ⟨G, K, nx, ?_, ?_, ?_⟩
      · rw [v4 11 (by decide) (by decide)]; exact U1
      · rw [v4 10 (by decide) (by decide)]; exact U2
      · rw [v4 12 (by decide) (by decide)]; exact U3
    obtain ⟨u4, x1, x2, x3, x4, x5⟩ := n_psw (g := g) (q := q) (w := w') B R s3' ht (by rw [v4 10 (by decide) (by decide)]; exact s4)
    refine ⟨u4, w', ?_, ((p2.trans s2).uc.trans v3).trans x2.uc, x2.R v2, ?_⟩
    · obtain ⟨Rr, hR⟩ : ∃ Rr, Rr = f_mo_readOpenings_L0 m 114 (n_rr g u4 q w') := ⟨_, rfl⟩
      rw [← hR]
      unfold f_mo_readOpenings_L0
      refine w_b2 p1 ?_
      rw [if_neg n40]
      refine w_b2 s1 ?_
      rw [if_neg (show ¬ (1 : Int32) = 0 by decide), n_r114, if_pos ((s6 11 (by decide) _ n_kc_eq.2.2.2.2.2.2.2.2.2.2.2.1).mpr h11)]
      refine w_b2 v1 ?_
      rw [if_neg (show ¬ (1 : Int32) = 0 by decide)]
      refine w_bd x1 ?_
      rw [hR]
    · rw [h11] at x5
      exact x5
theorem n_ro_par (B : n_B0 b L T p h0) (R : n_RB b L g) (Y : n_S b L T p h0 i e le τ W s h u) (ht : τ = 3) (h40 : W = [40]) (r : n_R S u w) (hS : S.length < 30) : (n_dep S = 6 → ∃ u', f_mo_readOpenings_L0 (m + 1) 114 (n_rr g u q w) = some (0, n_rr g u' q w) ∧ n_ub 3 s u u') ∧ (n_dep S < 6 → ∃ u' w', f_mo_readOpenings_L0 (m + 1) 114 (n_rr g u q w) = f_mo_readOpenings_L0 m 114 (n_rr g u' q w') ∧ n_uc u u' ∧ n_R (9 :: S) u' w' ∧ n_SS b L T p h0 (i + 1) (s + 1) false (sm_up h 18 7 (nI (i + 1))) u') := by
  obtain ⟨u1, p1, p2, p3, p4, p5, p6⟩ := n_peekS (q := q) (w := w) R Y
  obtain ⟨o1, o2⟩ := n_opens (g := g) (q := q) (o := 9) (p2.R r) (Or.inr rfl) hS p5
  have y40 : n_ba b L s = 40 := (p6 40 (by decide)).mpr ⟨ht, h40⟩
  constructor
  · intro z
    obtain ⟨u3, v1, v2⟩ := o1 z
    refine ⟨u3, ?_, p2.ub v2⟩
    unfold f_mo_readOpenings_L0
    refine w_b2 p1 ?_
    rw [if_pos y40]
    refine w_b2 v1 ?_
    rw [if_pos rfl]
  · intro z
    obtain ⟨u3, w', v1, v2, v3, v4⟩ := o2 z
    have h13 : u3 13 = nI s := by rw [v4 13 (by decide) (by decide)]; exact p5
    have k4 : n_uf u3 (upd (upd u3 10 (nI (s + 1))) 12 (-1)) := n_ufu (n_ufu (n_uf.refl u3) _ (Or.inl rfl)) _ (Or.inr (Or.inl rfl))
    refine ⟨upd (upd u3 10 (nI (s + 1))) 12 (-1), w', ?_, (p2.uc.trans v3).trans k4.uc, k4.R v2, ?_⟩
    · obtain ⟨Rr, hR⟩ : ∃ Rr, Rr = f_mo_readOpenings_L0 m 114 (n_rr g (upd (upd u3 10 (nI (s + 1))) 12 (-1)) q w') := ⟨_, rfl⟩
      rw [← hR]
      unfold f_mo_readOpenings_L0
      refine w_b2 p1 ?_
      rw [if_pos y40]
      refine w_b2 v1 ?_
      rw [if_neg (show ¬ (1 : Int32) = 0 by decide)]
      refine w_bd (n_passSign h13) ?_
      rw [hR]
    · obtain ⟨G, K, nx, U⟩ := id p3
      have hT := (K.2.2.2.2.2.2.2.1 (by rw [ht]; decide)).2
      have hl : W.length = 1 := by rw [h40]; rfl
      have := n_next p3 (by rw [ht]; decide) (by rw [ht]; decide) (n_adv B G hT).2 (u' := upd (upd u3 10 (nI (s + 1))) 12 (-1)) (by rw [hl, p_ud_off (by decide), p_ud_at]) (by rw [ht]; exact p_ud_at) (by rw [p_ud_off (by decide), p_ud_off (by decide), v4 11 (by decide) (by decide)]; exact p3.2.2.2.1)
      rw [ht, hl] at this
      exact this
end n_open
