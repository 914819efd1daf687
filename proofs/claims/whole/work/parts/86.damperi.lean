-- LOAD: HOW AN ITEM ENDS; the kinds; a damper's item
-- what the reference's item and the ";" behind it come to
def n_ro (x : Option (Int32 × sm_H)) (r : Int32) (G : sm_H) : Prop := (x = some (0, G) ∧ r = 0) ∨ ∃ G1, x = some (1, G1) ∧ f_mo_readSign 114 59 G1 = some (r, G)
-- an item behind its first word, with the ";": the class's c, the reference's x
def n_O (b : Nat → Nat) (L T p : Nat) (h0 g : sm_H) (i : Nat) (h : sm_H) (u : Nat → Int32) (c : Option sm_H) (x : Option (Int32 × sm_H)) : Prop := ∃ h', c = some h' ∧ ((∃ u' q' w' i' e' le' Z D F R N K A, n_ro x 1 (n_rr g u' q' w') ∧ n_uc u u' ∧ i + 1 ≤ i' ∧ 3 * K ≤ e' ∧ A ≤ 8 * N ∧ n_SS b L T p h0 i' e' le' h' u' ∧ n_IT Z D F R N K A p h' q' ∧ h' 17 = h 17) ∨ ∃ u' q' w', n_ro x 0 (n_rr g u' q' w') ∧ n_bad p h0 h' u u')
section n_damp
variable {b : Nat → Nat} {L T p i e s τ j l : Nat} {g h0 h h' : sm_H} {u q w : Nat → Int32} {le : Bool} {W : List Nat} {Z D F R N Kc A K c : Nat} {o v : Int32}
-- both sides before the ";"
theorem n_fin (B : n_B0 b L T p h0) (RB : n_RB b L g) {x : Option (Int32 × sm_H)} {i1 : Nat} {h1 : sm_H} {u1 q1 : Nat → Int32} (Y : n_SS b L T p h0 i1 e le h1 u1) (C : n_IT Z D F R N K A p h1 q1) (hx : x = some (1, n_rr g u1 q1 w)) (hu : n_uc u u1) (hi : i ≤ i1) (hK : 3 * K ≤ e) (hA : A ≤ 8 * N) (h17 : h1 17 = h 17) : n_O b L T p h0 g i h u (f_re_item_L216 17 h1) x := by
  have hp := B.2.2.2.2
  rcases n_sgn (g := g) (q := q1) (w := w) B RB Y C.KA (c := 59) (by decide) with ⟨u', e', a1, a2, a3, a4, a5, a6⟩ | ⟨h', u', a1, a2, c, s', a3, a4⟩
  · refine ⟨_, ?_, Or.inl ⟨u', q1, w, i1 + 1, e', false, Z, D, F, R, N, K, A, Or.inr ⟨_, hx, a2⟩, hu.trans a3.uc, by omega, by omega, hA, a6, C.at7 hp _, ?_⟩⟩
    · unfold f_re_item_L216
      exact w_bd a1 rfl
    · rw [sm_up_ne _ _ _ _ _ (by decide), h17]
  · refine ⟨h', ?_, Or.inr ⟨u', q1, w, Or.inr ⟨_, hx, a2⟩, c, s', a3, hu.ub a4⟩⟩
    unfold f_re_item_L216
    exact w_bd a1 rfl
-- the reference fails, and the class fails
theorem n_finE {x : Option (Int32 × sm_H)} {u1 q1 w1 : Nat → Int32} {h1 : sm_H} (X : n_E p h0 c s h1) (hx : x = some (0, n_rr g u1 q1 w1)) (hu : n_ub c s u u1) : n_O b L T p h0 g i h u (f_re_item_L216 17 h1) x :=
  ⟨h1, n_L216E X, Or.inr ⟨u1, q1, w1, Or.inl ⟨hx, rfl⟩, c, s, X, hu⟩⟩
-- the reference fails where the class finds no ";"
theorem n_finS (B : n_B0 b L T p h0) {x : Option (Int32 × sm_H)} {i1 : Nat} {u1 q1 w1 : Nat → Int32} {h1 : sm_H} (G : n_G p h0 i1 h1) (Kt : n_TK b L T h0 i1 e le τ W s) (P : n_KA p h1) (ht : ¬ τ = 3) (hx : x = some (0, n_rr g u1 q1 w1)) (hu : n_ub 1 s u u1) : n_O b L T p h0 g i h u (f_re_item_L216 17 h1) x := by
  obtain ⟨-, c2⟩ := n_needSign B G Kt P (a := 59) (by decide)
  obtain ⟨h', a1, a2⟩ := c2 (fun z => ht z.1)
  refine ⟨h', ?_, Or.inr ⟨u1, q1, w1, Or.inl ⟨hx, rfl⟩, 1, s, a2, hu⟩⟩
  unfold f_re_item_L216
  exact w_bd a1 rfl
-- kinds
def n_kk (k : Nat) : Nat := if k = 0 then 2 else if k = 1 then 3 else 6
theorem n_air (B : n_B0 b L T p h0) (G : n_G p h0 i h) (Kt : n_TK b L T h0 i e le τ W s) (P : n_KA p h) : (∀ k, k ≤ 1 → τ = 1 ∧ W = n_kw (n_kk k) → f_re_airKind 17 h = some (nI k, sm_up h 18 7 (nI (i + 1)))) ∧ ((∀ k, k ≤ 1 → ¬ (τ = 1 ∧ W = n_kw (n_kk k))) → ∃ h', f_re_airKind 17 h = some (1, h') ∧ n_E p h0 1 s h') := by
  have w2 := n_takeWord B G Kt (a := 2) (by decide)
  have w3 := n_takeWord B G Kt (a := 3) (by decide)
  have n1 : ¬ (1 : Int32) = 0 := by decide
  constructor
  · intro k hk z
    have c : k = 0 ∨ k = 1 := by omega
    rcases c with rfl | rfl
    · rw [if_pos (show τ = 1 ∧ W = n_kw 2 from z)] at w2
      unfold f_re_airKind
      refine w_b2 w2 ?_
      rw [if_neg n1]
      rfl
    · rw [if_neg (fun y => n_kw_ne (a := 2) (c := 3) (by decide) (by decide) (by decide) (y.2.symm.trans z.2))] at w2
      rw [if_pos (show τ = 1 ∧ W = n_kw 3 from z)] at w3
      unfold f_re_airKind
      refine w_b2 w2 ?_
      rw [if_pos rfl]
      refine w_b2 w3 ?_
      rw [if_neg n1]
      rfl
  · intro z
    rw [if_neg (show ¬ (τ = 1 ∧ W = n_kw 2) from z 0 (by decide))] at w2
    rw [if_neg (show ¬ (τ = 1 ∧ W = n_kw 3) from z 1 (by decide))] at w3
    obtain ⟨h', f1, f2⟩ := n_fail B G Kt P (c := 1) (by decide) (by decide)
    refine ⟨h', ?_, f2⟩
    unfold f_re_airKind
    refine w_b2 w2 ?_
    rw [if_pos rfl]
    refine w_b2 w3 ?_
    rw [if_pos rfl]
    exact w_bd f1 rfl
theorem n_airE (X : n_E p h0 c s h) : f_re_airKind 17 h = some (1, h) := by
  unfold f_re_airKind
  refine w_b2 (n_takeWordE X 2) ?_
  rw [if_pos rfl]
  refine w_b2 (n_takeWordE X 3) ?_
  rw [if_pos rfl]
  exact w_bd (n_failE X 1) rfl
theorem n_S.upd (Y : n_S b L T p h0 i e le τ W s h u) {m : Nat} (v : Int32) (h1 : m ≠ 10) (h2 : m ≠ 11) (h3 : m ≠ 12) : n_S b L T p h0 i e le τ W s h (upd u m v) := by
  obtain ⟨G, K, nx, U1, U2, U3⟩ := Y
  refine ⟨G, K, nx, by rw [p_ud_off (fun z => h2 z.symm)]; exact U1, ?_, by rw [p_ud_off (fun z => h3 z.symm)]; exact U3⟩
  rw [p_ud_off (fun z => h1 z.symm)]
  exact U2
theorem n_L56 (B : n_B0 b L T p h0) (RB : n_RB b L g) (Y : n_S b L T p h0 i e le τ W s h u) (ht : τ = 1) (h10 : u 10 = nI s) (h13 : u 13 = nI s) (l : Nat) (hl : l ≤ 2) : (∀ k, k ≤ l → ∃ u', f_mo_readKind_L56 114 (nI l) (nI k) 114 (n_rr g u q w) = some (1, n_rr g u' q w) ∧ n_uf u u' ∧ u' 14 = nI k ∧ s + W.length ≤ L ∧ n_SS b L T p h0 (i + 1) (s + W.length) true (sm_up h 18 7 (nI (i + 1))) u') ∧ (∀ v, ¬ (0 ≤ v ∧ v ≤ nI l) → ∃ u', f_mo_readKind_L56 114 (nI l) v 114 (n_rr g u q w) = some (0, n_rr g u' q w) ∧ n_ub 1 s u u') := by
  constructor
  · intro k hk
    obtain ⟨u', x1, x2, x3, x4, x5⟩ := n_psw (g := g) (q := q) (w := w) B RB (Y.upd (m := 14) (nI k) (by decide) (by decide) (by decide)) ht (by rw [p_ud_off (by decide)]; exact h10)
    refine ⟨u', ?_, (n_ufu (n_uf.refl u) (nI k) (Or.inr (Or.inr (Or.inr (Or.inl rfl))))).trans x2, by rw [x3 14 (by decide) (by decide), p_ud_at], x4, x5⟩
    unfold f_mo_readKind_L56
    refine w_lt ?_
    rw [n_u114, n_r114, p_ud_at]
    refine w_b2 (e_in (nI k) 0 (nI l) _) ?_
    rw [decide_eq_true ⟨nI_pos' (by omega), nI_le hk (by omega)⟩, if_neg (show ¬ sm_b2i true = 0 by decide)]
    exact w_bd x1 rfl
  · intro v hv
    obtain ⟨f1, f2⟩ := n_fails (g := g) (u := upd u 14 v) (q := q) (w := w) (c := 1) (s := s) (by rw [p_ud_off (by decide)]; exact h13)
    refine ⟨_, ?_, (n_ufu (n_uf.refl u) v (Or.inr (Or.inr (Or.inr (Or.inl rfl))))).ub f2⟩
    unfold f_mo_readKind_L56
    refine w_lt ?_
    rw [n_u114, n_r114, p_ud_at]
    refine w_b2 (e_in v 0 (nI l) _) ?_
    rw [decide_eq_false hv, if_pos (show sm_b2i false = 0 by decide), n_r114]
    exact w_b2 f1 rfl
theorem n_rkind (B : n_B0 b L T p h0) (RB : n_RB b L g) (Y : n_S b L T p h0 i e le τ W s h u) (l : Nat) (hl : l ≤ 2) : (∀ k, k ≤ l → τ = 1 ∧ W = n_kw (n_kk k) → ∃ u', f_mo_readKind 114 (nI l) (n_rr g u q w) = some (1, n_rr g u' q w) ∧ n_uf u u' ∧ u' 14 = nI k ∧ s + W.length ≤ L ∧ n_SS b L T p h0 (i + 1) (s + W.length) true (sm_up h 18 7 (nI (i + 1))) u') ∧ ((∀ k, k ≤ l → ¬ (τ = 1 ∧ W = n_kw (n_kk k))) → ∃ u', f_mo_readKind 114 (nI l) (n_rr g u q w) = some (0, n_rr g u' q w) ∧ n_ub 1 s u u') := by
  have n1 : ¬ (1 : Int32) = 0 := by decide
  obtain ⟨-, -, k2, k3, -, -, k6, -⟩ := n_kc_eq
  by_cases ht : τ = 1
  · obtain ⟨u1, s1, s2, s3, s4, s5, s6⟩ := n_see (g := g) (q := q) (w := w) RB Y ht
    obtain ⟨l1, l2⟩ := n_L56 (g := g) (q := q) (w := w) B RB s3 ht s4 s5 l hl
    have E : ∀ v, (W = n_kw 2 ∧ v = 0) ∨ (W = n_kw 3 ∧ v = 1) ∨ (W = n_kw 6 ∧ v = 2) ∨ (W ≠ n_kw 2 ∧ W ≠ n_kw 3 ∧ W ≠ n_kw 6 ∧ v = -1) → f_mo_readKind 114 (nI l) (n_rr g u q w) = f_mo_readKind_L56 114 (nI l) v 114 (n_rr g u1 q w) := by
      intro v hv
      unfold f_mo_readKind
      refine w_b2 s1 ?_
      rw [if_neg n1, n_r114]
      rcases hv with ⟨z, rfl⟩ | ⟨z, rfl⟩ | ⟨z, rfl⟩ | ⟨z1, z2, z3, rfl⟩
      · rw [if_pos ((s6 2 (by decide) _ k2).mpr z)]
      · rw [if_neg (fun y => n_kw_ne (a := 2) (c := 3) (by decide) (by decide) (by decide) (((s6 2 (by decide) _ k2).mp y).symm.trans z)), if_pos ((s6 3 (by decide) _ k3).mpr z)]
      · rw [if_neg (fun y => n_kw_ne (a := 2) (c := 6) (by decide) (by decide) (by decide) (((s6 2 (by decide) _ k2).mp y).symm.trans z)), if_neg (fun y => n_kw_ne (a := 3) (c := 6) (by decide) (by decide) (by decide) (((s6 3 (by decide) _ k3).mp y).symm.trans z)), if_pos ((s6 6 (by decide) _ k6).mpr z)]
      · rw [if_neg (fun y => z1 ((s6 2 (by decide) _ k2).mp y)), if_neg (fun y => z2 ((s6 3 (by decide) _ k3).mp y)), if_neg (fun y => z3 ((s6 6 (by decide) _ k6).mp y))]
    constructor
    · rintro k hk ⟨-, hW⟩
      have e1 : f_mo_readKind 114 (nI l) (n_rr g u q w) = f_mo_readKind_L56 114 (nI l) (nI k) 114 (n_rr g u1 q w) := by
        have c : k = 0 ∨ k = 1 ∨ k = 2 := by omega
        rcases c with rfl | rfl | rfl
        · exact E _ (Or.inl ⟨hW, rfl⟩)
        · exact E _ (Or.inr (Or.inl ⟨hW, rfl⟩))
        · exact E _ (Or.inr (Or.inr (Or.inl ⟨hW, rfl⟩)))
      obtain ⟨u', x1, x2, x3, x4, x5⟩ := l1 k hk
      exact ⟨u', by rw [e1]; exact x1, s2.trans x2, x3, x4, x5⟩
    · intro z
      have F : ∃ v, f_mo_readKind 114 (nI l) (n_rr g u q w) = f_mo_readKind_L56 114 (nI l) v 114 (n_rr g u1 q w) ∧ ¬ (0 ≤ v ∧ v ≤ nI l) := by
        have nl : ∀ k, k ≤ 2 → W = n_kw (n_kk k) → ¬ (0 ≤ nI k ∧ nI k ≤ nI l) := by
          intro k hk hW y
          by_cases x : k ≤ l
          · exact z k x ⟨ht, hW⟩
          · exact absurd y.2 (nI_ge (by omega) (by omega))
        by_cases z2 : W = n_kw 2
        · exact ⟨0, E _ (Or.inl ⟨z2, rfl⟩), nl 0 (by decide) z2⟩
        · by_cases z3 : W = n_kw 3
          · exact ⟨1, E _ (Or.inr (Or.inl ⟨z3, rfl⟩)), nl 1 (by decide) z3⟩
          · by_cases z6 : W = n_kw 6
            · exact ⟨2, E _ (Or.inr (Or.inr (Or.inl ⟨z6, rfl⟩))), nl 2 (by decide) z6⟩
            · exact ⟨-1, E _ (Or.inr (Or.inr (Or.inr ⟨z2, z3, z6, rfl⟩))), fun y => absurd y.1 (by decide)⟩
      obtain ⟨v, F1, F2⟩ := F
      obtain ⟨u', x1, x2⟩ := l2 v F2
      exact ⟨u', by rw [F1]; exact x1, s2.ub x2⟩
  · obtain ⟨u1, p1, p2⟩ := n_see0 (q := q) (w := w) RB Y ht
    refine ⟨fun k _ z => absurd z.1 ht, fun _ => ⟨u1, ?_, p2⟩⟩
    unfold f_mo_readKind
    refine w_b2 p1 ?_
    rw [if_pos rfl]
-- the class's damper item, cut
def n_dK4 (r1 r9 r12 : Int32) (g13 : sm_H) : Option sm_H := sm_b2 (f_re_takeWord 17 4 g13) fun r15 g16 => if (g16 17 2) = 0 then (sm_gd (sm_isP (g16 17 1)) <| sm_let (sm_p (g16 17 1)) fun p22 => Option.bind (f_pl_addDamper p22 r1 r9 r12 r15 g16) fun g24 => some g24) else (some g16)
def n_dK3 (r1 r9 : Int32) (g10 : sm_H) : Option sm_H := sm_b2 (f_re_needNumber 17 1 30 g10) fun r12 g13 => n_dK4 r1 r9 r12 g13
def n_dK2 (r1 : Int32) (g2 : sm_H) : Option sm_H := sm_gd (sm_isP (g2 17 1)) <| sm_let (sm_p (g2 17 1)) fun p7 => sm_b2 (f_re_needNumber 17 0 ((g2 p7 0) - 1) g2) fun r9 g10 => n_dK3 r1 r9 g10
theorem n_dK1 (h : sm_H) : f_re_damperItem 17 h = sm_b2 (f_re_airKind 17 h) fun r1 g2 => n_dK2 r1 g2 := rfl
theorem n_dK4E (X : n_E p h0 c s h) (r1 r9 r12 : Int32) : n_dK4 r1 r9 r12 h = some h := by
  obtain ⟨-, -, ⟨x1, x2, x3⟩, -⟩ := id X
  unfold n_dK4
  refine w_b2 (n_takeWordE X 4) ?_
  rw [x3, if_neg (nI_ne0 (by omega) (by omega))]
theorem n_dK3E (X : n_E p h0 c s h) (r1 r9 : Int32) : n_dK3 r1 r9 h = some h := by
  unfold n_dK3
  refine w_b2 (n_needNumberE X 1 30) ?_
  exact n_dK4E X _ _ _
theorem n_dK2E (hp : p = 1 ∨ p = 24) (X : n_E p h0 c s h) (r1 : Int32) : n_dK2 r1 h = some h := by
  obtain ⟨q1, q2⟩ := p_isPp hp
  unfold n_dK2
  rw [X.2.1, q1, s_true]
  refine w_lt ?_
  refine w_b2 (n_needNumberE X 0 _) ?_
  exact n_dK3E X _ _
-- the reference's
def n_dR5 (g30 : sm_H) (x2 : Int32) (r29 : Int32) : Option (Int32 × sm_H) := if r29 = 0 then (f_mo_readDamper_L119 114 g30) else (sm_b2 (f_mo_readKeyword 114 508078 g30) fun r33 g34 => if r33 = 0 then (some (0, g34)) else (sm_gd (sm_inb (x2 + 3) 1268) <| sm_let (sm_up g34 (114 + 2) (x2 + 3 : Int32).toNatClampNeg 1) fun g38 => f_mo_readDamper_L119 114 g38))
def n_dR4 (x2 : Int32) (g24 : sm_H) : Option (Int32 × sm_H) := sm_b2 (f_mo_peek 114 g24) fun r26 g27 => sm_b2 (f_mo_isLetter r26 g27) fun r29 g30 => n_dR5 g30 x2 r29
def n_dR3 (x2 : Int32) (g17 : sm_H) : Option (Int32 × sm_H) := sm_b2 (f_mo_readNumber 114 1 30 g17) fun r19 g20 => if r19 = 0 then (some (0, g20)) else (sm_gd (sm_inb (x2 + 2) 1268) <| sm_let (sm_up g20 (114 + 2) (x2 + 2 : Int32).toNatClampNeg (g20 114 14)) fun g24 => n_dR4 x2 g24)
def n_dR2 (x2 : Int32) (g9 : sm_H) : Option (Int32 × sm_H) := sm_gd (sm_inb 0 1268) <| sm_b2 (f_mo_readNumber 114 0 ((g9 (114 + 2) (0 : Int32).toNatClampNeg) - 1) g9) fun r12 g13 => if r12 = 0 then (some (0, g13)) else (sm_gd (sm_inb (x2 + 1) 1268) <| sm_let (sm_up g13 (114 + 2) (x2 + 1 : Int32).toNatClampNeg (g13 114 14)) fun g17 => n_dR3 x2 g17)
theorem n_dR1 (h : sm_H) : f_mo_readDamper 114 h = (sm_gd (sm_inb 1 1268) <| sm_let (10 + (4 * (h (114 + 2) (1 : Int32).toNatClampNeg))) fun x2 => sm_b2 (f_mo_readKind 114 1 h) fun r4 g5 => if r4 = 0 then (some (0, g5)) else (sm_gd (sm_inb (x2 + 0) 1268) <| sm_let (sm_up g5 (114 + 2) (x2 + 0 : Int32).toNatClampNeg (g5 114 14)) fun g9 => n_dR2 x2 g9)) := rfl
theorem n_L119 {Dd : Nat} (h1 : q 1 = nI Dd) : f_mo_readDamper_L119 114 (n_rr g u q w) = some (1, n_rr g u (upd q 1 (nI (Dd + 1))) w) := by
  unfold f_mo_readDamper_L119
  rw [s_i1, s_i1, s_c1, show (114 + 2 : Nat) = 116 from rfl, n_r116, h1, nI_1, n_u116]
  rfl
-- the class adds a damper
theorem n_cdam (hp : p = 1 ∨ p = 24) (h1 : h p 1 = nI D) (hD : D < 16) (a z t o : Int32) : ∃ h', f_pl_addDamper p a z t o h = some h' ∧ h' p 1 = nI (D + 1) ∧ h' p 6 = sm_wb (h p 6) D (!decide (o = 0)) ∧ (∀ j, j ≠ 1 → j ≠ 6 → h' p j = h p j) ∧ h' (p + 1) D = a ∧ h' (p + 3) D = z ∧ h' (p + 2) D = t ∧ (∀ j, j ≠ D → h' (p + 1) j = h (p + 1) j ∧ h' (p + 3) j = h (p + 3) j ∧ h' (p + 2) j = h (p + 2) j) ∧ ∀ r, r ≠ p → r ≠ p + 1 → r ≠ p + 2 → r ≠ p + 3 → h' r = h r := by
  refine ⟨sm_up (sm_up (sm_up (sm_up (sm_up h (p + 1) D a) (p + 3) D z) (p + 2) D t) p 6 (sm_wb (h p 6) D (!decide (o = 0)))) p 1 (nI (D + 1)), ?_, p_up_at, ?_, fun j j1 j2 => ?_, ?_, ?_, ?_, fun j hj => ⟨?_, ?_, ?_⟩, fun r r0 r1 r2 r3 => ?_⟩
  · unfold f_pl_addDamper
    rw [h1, if_neg (show ¬ (16 : Int32) ≤ nI D from nI_ge (b := 16) hD (by omega)), sm_gd_t (sm_inb_nI (k := D) (n := 23) (by omega) (by omega)), nI_clamp (n := D) (by omega)]
    refine w_lt ?_
    rw [show sm_up h (p + 1) D a p 1 = nI D by rw [sm_up_off (by omega)]; exact h1, sm_gd_t (sm_inb_nI (k := D) (n := 16) (by omega) (by omega)), nI_clamp (n := D) (by omega)]
    refine w_lt ?_
    rw [show sm_up (sm_up h (p + 1) D a) (p + 3) D z p 1 = nI D by rw [sm_up_off (by omega), sm_up_off (by omega)]; exact h1, sm_gd_t (sm_inb_nI (k := D) (n := 23) (by omega) (by omega)), nI_clamp (n := D) (by omega)]
    refine w_lt ?_
    rw [show sm_up (sm_up (sm_up h (p + 1) D a) (p + 3) D z) (p + 2) D t p 1 = nI D by rw [sm_up_off (by omega), sm_up_off (by omega), sm_up_off (by omega)]; exact h1, show sm_up (sm_up (sm_up h (p + 1) D a) (p + 3) D z) (p + 2) D t p 6 = h p 6 by rw [sm_up_off (by omega), sm_up_off (by omega), sm_up_off (by omega)]]
    refine w_b2 (e_with (h p 6) D o _) ?_
    refine w_lt ?_
    rw [show sm_up (sm_up (sm_up (sm_up h (p + 1) D a) (p + 3) D z) (p + 2) D t) p 6 (sm_wb (h p 6) D (!decide (o = 0))) p 1 = nI D by rw [sm_up_off (by omega), sm_up_off (by omega), sm_up_off (by omega), sm_up_off (by omega)]; exact h1, nI_1]
    rfl
  · rw [sm_up_off (by omega), p_up_at]
  · rw [sm_up_off (by omega), sm_up_off (by omega), sm_up_off (by omega), sm_up_off (by omega), sm_up_off (by omega)]
  · rw [sm_up_off (by omega), sm_up_off (by omega), sm_up_off (by omega), sm_up_off (by omega), p_up_at]
  · rw [sm_up_off (by omega), sm_up_off (by omega), sm_up_off (by omega), p_up_at]
  · rw [sm_up_off (by omega), sm_up_off (by omega), p_up_at]
  · rw [sm_up_off (by omega), sm_up_off (by omega), sm_up_off (by omega), sm_up_off (by omega), sm_up_off (by omega)]
  · rw [sm_up_off (by omega), sm_up_off (by omega), sm_up_off (by omega), sm_up_off (by omega), sm_up_off (by omega)]
  · rw [sm_up_off (by omega), sm_up_off (by omega), sm_up_off (by omega), sm_up_off (by omega), sm_up_off (by omega)]
  · rw [sm_up_ne _ _ _ _ _ r0, sm_up_ne _ _ _ _ _ r0, sm_up_ne _ _ _ _ _ r2, sm_up_ne _ _ _ _ _ r3, sm_up_ne _ _ _ _ _ r1]
end n_damp
