-- LOAD: AN ITEM, both sides
def n_Z (b : Nat → Nat) (L T p : Nat) (h0 g : sm_H) (i : Nat) (u : Nat → Int32) (c : Option sm_H) (x : Option (Int32 × sm_H)) : Prop := ∃ h', c = some h' ∧ ((∃ u' q' w' i' e' le' Z D F R N K A, n_ro x 1 (n_rr g u' q' w') ∧ (∀ k, k ≤ 9 ∨ k = 15 ∨ k = 16 ∨ k = 23 → u' k = u k) ∧ i + 2 ≤ i' ∧ 3 * K ≤ e' ∧ A ≤ 8 * N ∧ n_SS b L T p h0 i' e' le' h' u' ∧ n_IT Z D F R N K A p h' q' ∧ h' 17 4 = u' 21 ∧ h' 17 5 = u' 22) ∨ ∃ u' q' w', n_ro x 0 (n_rr g u' q' w') ∧ n_bad p h0 h' u u')
section n_itm
variable {b : Nat → Nat} {L T p i e s τ j l k z r v : Nat} {g h0 h h' : sm_H} {u q w : Nat → Int32} {le : Bool} {W : List Nat} {Z D F R N Kc A K c : Nat}
theorem n_O.up {h1 : sm_H} {u1 : Nat → Int32} {cc : Option sm_H} {x : Option (Int32 × sm_H)} (O : n_O b L T p h0 g (i + 1) h1 u1 cc x) (f : h1 17 4 = u1 21 ∧ h1 17 5 = u1 22) (hu : ∀ k, k ≤ 9 ∨ k = 15 ∨ k = 16 ∨ k = 23 → u1 k = u k) : n_Z b L T p h0 g i u cc x := by
  obtain ⟨h', a1, a2⟩ := O
  refine ⟨h', a1, ?_⟩
  rcases a2 with ⟨u', q', w', i', e', le', Z, D, F, R, N, K, A, b1, b2, b3, b4, b5, b6, b7, b8⟩ | ⟨u', q', w', b1, c, s, b2, b3, b4, b5⟩
  · have e21 : u' 21 = u1 21 := b2 21 (by decide) (by decide) (by decide) (by decide) (by decide) (by decide) (by decide) (by decide)
    have e22 : u' 22 = u1 22 := b2 22 (by decide) (by decide) (by decide) (by decide) (by decide) (by decide) (by decide) (by decide)
    refine Or.inl ⟨u', q', w', i', e', le', Z, D, F, R, N, K, A, b1, fun k hk => (b2 k (by omega) (by omega) (by omega) (by omega) (by omega) (by omega) (by omega) (by omega)).trans (hu k hk), by omega, b4, b5, b6, b7, ?_, ?_⟩
    · rw [b8, e21]; exact f.1
    · rw [b8, e22]; exact f.2
  · exact Or.inr ⟨u', q', w', b1, c, s, b2, b3, b4, fun k hk => (b5 k hk).trans (hu k (Or.inl hk))⟩
-- what readItem makes of it
theorem n_ro.wrap {x y : Option (Int32 × sm_H)} {r : Int32} {G : sm_H} (h : n_ro x r G) (e : y = sm_b2 x fun r g => sm_gd (sm_bz r) <| some (r, g)) : n_ro y r G := by
  rcases h with ⟨h1, h2⟩ | ⟨G1, h1, h2⟩
  · refine Or.inl ⟨?_, h2⟩
    rw [e]
    exact w_b2 h1 rfl
  · refine Or.inr ⟨G1, ?_, h2⟩
    rw [e]
    exact w_b2 h1 rfl
theorem n_Z.wrap {x y : Option (Int32 × sm_H)} {cc dd : Option sm_H} (h : n_Z b L T p h0 g i u cc x) (ec : dd = cc) (e : y = sm_b2 x fun r g => sm_gd (sm_bz r) <| some (r, g)) : n_Z b L T p h0 g i u dd y := by
  obtain ⟨h', a1, a2⟩ := h
  refine ⟨h', ec.trans a1, ?_⟩
  rcases a2 with ⟨u', q', w', i', e', le', Z, D, F, R, N, K, A, b1, b2⟩ | ⟨u', q', w', b1, b2⟩
  · exact Or.inl ⟨u', q', w', i', e', le', Z, D, F, R, N, K, A, b1.wrap e, b2⟩
  · exact Or.inr ⟨u', q', w', b1.wrap e, b2⟩
-- the class's item, cut
def n_i4 (g40 : sm_H) : Option sm_H := if (g40 17 4) = 0 then (sm_b2 (f_re_takeWord 17 8 g40) fun r44 g45 => if r44 = 0 then (f_re_item_L144 17 g45) else (sm_let (sm_up g45 17 4 1) fun g48 => sm_gd (sm_isP (g48 17 1)) <| sm_let (sm_p (g48 17 1)) fun p53 => sm_b2 (f_re_needNumber 17 1 200 g48) fun r55 g56 => sm_let (sm_up g56 p53 4 r55) fun g58 => f_re_item_L216 17 g58)) else (f_re_item_L144 17 g40)
def n_i3 (g31 : sm_H) : Option sm_H := sm_gd (sm_isP (g31 17 1)) <| sm_let (sm_p (g31 17 1)) fun p37 => sm_b2 (f_re_takeItem 17 7 (g31 p37 3) 10 g31) fun r39 g40 => if r39 = 0 then n_i4 g40 else (Option.bind (f_re_doorItem 17 g40) fun g60 => f_re_item_L216 17 g60)
def n_i2 (g22 : sm_H) : Option sm_H := sm_gd (sm_isP (g22 17 1)) <| sm_let (sm_p (g22 17 1)) fun p28 => sm_b2 (f_re_takeItem 17 5 (g22 p28 2) 6 g22) fun r30 g31 => if r30 = 0 then n_i3 g31 else (Option.bind (f_re_fanItem 17 g31) fun g62 => f_re_item_L216 17 g62)
theorem n_i1 (h : sm_H) : f_re_item_L30 17 h = (sm_gd (sm_isP (h 17 1)) <| sm_let (sm_p (h 17 1)) fun p19 => sm_b2 (f_re_takeItem 17 1 (h p19 1) 16 h) fun r21 g22 => if r21 = 0 then n_i2 g22 else (Option.bind (f_re_damperItem 17 g22) fun g64 => f_re_item_L216 17 g64)) := rfl
-- after an error
theorem n_i6E (hp : p = 1 ∨ p = 24) (X : n_E p h0 c s h) : f_re_item_L183 17 h = some h := by
  obtain ⟨q1, q2⟩ := p_isPp hp
  unfold f_re_item_L183
  rw [X.2.1, q1, s_true, q2]
  refine w_lt ?_
  refine w_b2 (n_takeItemE X 10 _ 12) ?_
  rw [if_pos rfl]
  refine w_bd (n_failE X 1) ?_
  exact n_L216E X
theorem n_i5E (hp : p = 1 ∨ p = 24) (X : n_E p h0 c s h) : f_re_item_L144 17 h = some h := by
  unfold f_re_item_L144
  by_cases z : h 17 5 = 0
  · rw [if_pos z]
    refine w_b2 (n_takeWordE X 9) ?_
    rw [if_pos rfl]
    exact n_i6E hp X
  · rw [if_neg z]
    exact n_i6E hp X
theorem n_i4E (hp : p = 1 ∨ p = 24) (X : n_E p h0 c s h) : n_i4 h = some h := by
  unfold n_i4
  by_cases z : h 17 4 = 0
  · rw [if_pos z]
    refine w_b2 (n_takeWordE X 8) ?_
    rw [if_pos rfl]
    exact n_i5E hp X
  · rw [if_neg z]
    exact n_i5E hp X
theorem n_i3E (hp : p = 1 ∨ p = 24) (X : n_E p h0 c s h) : n_i3 h = some h := by
  obtain ⟨q1, q2⟩ := p_isPp hp
  unfold n_i3
  rw [X.2.1, q1, s_true, q2]
  refine w_lt ?_
  refine w_b2 (n_takeItemE X 7 _ 10) ?_
  rw [if_pos rfl]
  exact n_i4E hp X
theorem n_i2E (hp : p = 1 ∨ p = 24) (X : n_E p h0 c s h) : n_i2 h = some h := by
  obtain ⟨q1, q2⟩ := p_isPp hp
  unfold n_i2
  rw [X.2.1, q1, s_true, q2]
  refine w_lt ?_
  refine w_b2 (n_takeItemE X 5 _ 6) ?_
  rw [if_pos rfl]
  exact n_i3E hp X
-- the first word of an item that may be too much
theorem n_takeItem (B : n_B0 b L T p h0) (G : n_G p h0 i h) (Kt : n_TK b L T h0 i e le τ W s) (P : n_KA p h) {a t m : Nat} (ha : a < 28) (ht : t < 100) (hm : m < 100) : (¬ (τ = 1 ∧ W = n_kw a) → f_re_takeItem 17 a (nI t) (nI m) h = some (0, h)) ∧ (τ = 1 ∧ W = n_kw a → t < m → f_re_takeItem 17 a (nI t) (nI m) h = some (1, sm_up h 18 7 (nI (i + 1)))) ∧ (τ = 1 ∧ W = n_kw a → ¬ t < m → ∃ h', f_re_takeItem 17 a (nI t) (nI m) h = some (0, h') ∧ n_E p h0 3 s h') := by
  have w1 := n_isWord B G Kt ha
  have w2 := n_takeWord B G Kt ha
  have n1 : ¬ (1 : Int32) = 0 := by decide
  refine ⟨fun z => ?_, fun z y => ?_, fun z y => ?_⟩
  · rw [decide_eq_false z] at w1
    unfold f_re_takeItem
    refine w_b2 w1 ?_
    rw [if_pos (show sm_b2i false = 0 by decide)]
    unfold f_re_takeItem_L25
    rw [if_pos (show sm_b2i false = 0 by decide)]
    rfl
  · rw [decide_eq_true z] at w1
    rw [if_pos z] at w2
    unfold f_re_takeItem
    refine w_b2 w1 ?_
    rw [if_neg (show ¬ sm_b2i true = 0 by decide), if_pos (nI_lt y (by omega))]
    unfold f_re_takeItem_L25
    rw [if_neg (show ¬ sm_b2i true = 0 by decide)]
    refine w_b2 w2 ?_
    rw [if_neg n1]
    rfl
  · obtain ⟨h', f1, f2⟩ := n_fail B G Kt P (c := 3) (by decide) (by decide)
    rw [decide_eq_true z] at w1
    refine ⟨h', ?_, f2⟩
    unfold f_re_takeItem
    refine w_b2 w1 ?_
    rw [if_neg (show ¬ sm_b2i true = 0 by decide), if_neg (nI_nlt (by omega) (by omega))]
    refine w_bd f1 ?_
    unfold f_re_takeItem_L25
    rw [if_neg (show ¬ sm_b2i true = 0 by decide)]
    refine w_b2 (n_takeWordE f2 a) ?_
    rw [if_pos rfl]
    rfl
-- steps over words that don't stand there
theorem n_sk0 (B : n_B0 b L T p h0) (G : n_G p h0 i h) (Kt : n_TK b L T h0 i e le τ W s) (fl : Int32) (z : fl = 0 ∨ ¬ (τ = 1 ∧ W = n_kw 0)) : f_re_item 17 fl h = f_re_item_L30 17 h := by
  unfold f_re_item
  by_cases y : fl = 0
  · rw [if_pos y]
  · have w0 := n_takeWord B G Kt (a := 0) (by decide)
    rw [if_neg (by rcases z with z | z; exact absurd z y; exact z)] at w0
    rw [if_neg y]
    refine w_b2 w0 ?_
    rw [if_pos rfl]
theorem n_sk1 (B : n_B0 b L T p h0) (G : n_G p h0 i h) (Kt : n_TK b L T h0 i e le τ W s) (P : n_KA p h) (h1 : h p 1 = nI D) (hD : D < 100) (z : ¬ (τ = 1 ∧ W = n_kw 1)) : f_re_item_L30 17 h = n_i2 h := by
  obtain ⟨q1, q2⟩ := p_isPp B.2.2.2.2
  obtain ⟨t1, -⟩ := n_takeItem B G Kt P (a := 1) (t := D) (m := 16) (by decide) hD (by decide)
  rw [n_i1, G.1, q1, s_true, q2]
  refine w_lt ?_
  rw [h1]
  refine w_b2 (t1 z) ?_
  rw [if_pos rfl]
theorem n_sk2 (B : n_B0 b L T p h0) (G : n_G p h0 i h) (Kt : n_TK b L T h0 i e le τ W s) (P : n_KA p h) (h1 : h p 2 = nI F) (hF : F < 100) (z : ¬ (τ = 1 ∧ W = n_kw 5)) : n_i2 h = n_i3 h := by
  obtain ⟨q1, q2⟩ := p_isPp B.2.2.2.2
  obtain ⟨t1, -⟩ := n_takeItem B G Kt P (a := 5) (t := F) (m := 6) (by decide) hF (by decide)
  unfold n_i2
  rw [G.1, q1, s_true, q2]
  refine w_lt ?_
  rw [h1]
  refine w_b2 (t1 z) ?_
  rw [if_pos rfl]
theorem n_sk3 (B : n_B0 b L T p h0) (G : n_G p h0 i h) (Kt : n_TK b L T h0 i e le τ W s) (P : n_KA p h) (h1 : h p 3 = nI R) (hR : R < 100) (z : ¬ (τ = 1 ∧ W = n_kw 7)) : n_i3 h = n_i4 h := by
  obtain ⟨q1, q2⟩ := p_isPp B.2.2.2.2
  obtain ⟨t1, -⟩ := n_takeItem B G Kt P (a := 7) (t := R) (m := 10) (by decide) hR (by decide)
  unfold n_i3
  rw [G.1, q1, s_true, q2]
  refine w_lt ?_
  rw [h1]
  refine w_b2 (t1 z) ?_
  rw [if_pos rfl]
theorem n_sk4 (B : n_B0 b L T p h0) (G : n_G p h0 i h) (Kt : n_TK b L T h0 i e le τ W s) (z : ¬ h 17 4 = 0 ∨ ¬ (τ = 1 ∧ W = n_kw 8)) : n_i4 h = f_re_item_L144 17 h := by
  unfold n_i4
  by_cases y : h 17 4 = 0
  · have w0 := n_takeWord B G Kt (a := 8) (by decide)
    rw [if_neg (by rcases z with z | z; exact absurd y z; exact z)] at w0
    rw [if_pos y]
    refine w_b2 w0 ?_
    rw [if_pos rfl]
  · rw [if_neg y]
theorem n_sk5 (B : n_B0 b L T p h0) (G : n_G p h0 i h) (Kt : n_TK b L T h0 i e le τ W s) (z : ¬ h 17 5 = 0 ∨ ¬ (τ = 1 ∧ W = n_kw 9)) : f_re_item_L144 17 h = f_re_item_L183 17 h := by
  unfold f_re_item_L144
  by_cases y : h 17 5 = 0
  · have w0 := n_takeWord B G Kt (a := 9) (by decide)
    rw [if_neg (by rcases z with z | z; exact absurd y z; exact z)] at w0
    rw [if_pos y]
    refine w_b2 w0 ?_
    rw [if_pos rfl]
  · rw [if_neg y]
theorem n_sk6 (B : n_B0 b L T p h0) (G : n_G p h0 i h) (Kt : n_TK b L T h0 i e le τ W s) (P : n_KA p h) (h1 : h (p + 9) 0 = nI N) (hN : N < 100) (z : ¬ (τ = 1 ∧ W = n_kw 10)) : ∃ h', f_re_item_L183 17 h = some h' ∧ n_E p h0 1 s h' := by
  obtain ⟨q1, q2⟩ := p_isPp B.2.2.2.2
  obtain ⟨t1, -⟩ := n_takeItem B G Kt P (a := 10) (t := N) (m := 12) (by decide) hN (by decide)
  obtain ⟨h', f1, f2⟩ := n_fail B G Kt P (c := 1) (by decide) (by decide)
  refine ⟨h', ?_, f2⟩
  unfold f_re_item_L183
  rw [G.1, q1, s_true, q2]
  refine w_lt ?_
  rw [h1]
  refine w_b2 (t1 z) ?_
  rw [if_pos rfl]
  refine w_bd f1 ?_
  exact n_L216E f2
end n_itm
