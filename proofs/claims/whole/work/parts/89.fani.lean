-- LOAD: A FAN'S ITEM, both sides
section n_fn
variable {b : Nat → Nat} {L T p i e s τ j l k z r v : Nat} {g h0 h h' : sm_H} {u q w Q : Nat → Int32} {le : Bool} {W : List Nat} {Z D F R N Kc A K c : Nat} {kd st sz vl : Nat → Int32}
-- a number read: where it stood is still known
theorem n_rnum13 (B : n_RB b L g) (Kt : n_T1 b L T kd st sz vl i e le τ W s) (U : n_U L u e le s) (lo hi : Int32) (t2 : τ = 2) (z : lo ≤ nI (n_dv b s W.length) ∧ nI (n_dv b s W.length) ≤ hi) : ∃ u', f_mo_readNumber 114 lo hi (n_rr g u q w) = some (1, n_rr g u' q w) ∧ n_uf u u' ∧ u' 14 = nI (n_dv b s W.length) ∧ u' 10 = nI (s + W.length) ∧ u' 12 = nI (s + W.length) ∧ u' 11 = nI L ∧ u' 13 = nI s := by
  obtain ⟨u1, p1, p2, p3, p4, p5, p6, -⟩ := n_peek (q := q) (w := w) B Kt U
  have hL := B.1
  have hes : e ≤ s := Kt.1
  have hsL : s ≤ L := Kt.2.1
  obtain ⟨n1, n2, m3, n4', n5⟩ := Kt.2.2.2.2.2.2.2.2.1 (Or.inr t2)
  have n3 : ∀ k, k < W.length → n_ty (b (s + k)) = 2 := fun k hk => (m3 k hk).2.trans t2
  have n4 : s + W.length < L → n_ty (b (s + W.length)) ≠ 2 := fun z => by rw [← t2]; exact n4' z
  have hw3 := (Kt.2.2.2.2.2.2.2.2.2.2.1 t2).1
  obtain ⟨u', q1, q2, q3⟩ := n_dgt (g := g) (q := q) (w := w) (u := u1) B lo hi n2 n3 n4 sm_N 0 (upd u1 14 0) (by unfold sm_N; omega) (Nat.zero_le _) (by rw [p_ud_off (by decide)]; exact p6.1) (by rw [p_ud_off (by decide)]; exact p4) (by rw [p_ud_at]; rfl) (fun j j1 => by rw [p_ud_off j1])
  have r2 : u' 14 = nI (n_dv b s W.length) := by rw [q2, show min W.length 3 = W.length by omega]
  have r3 : n_uf u u' := fun k a1 a2 a3 a4 a5 a6 => (q3 k a4).trans (p2 k a1 a2 a3 a4 a5 a6)
  have r4 : u' 13 = nI s := (q3 13 (by decide)).trans p4
  have r5 : u' 11 = nI L := (q3 11 (by decide)).trans p6.1
  have E : f_mo_in (n_rr g u' q w 114 14) lo hi (n_rr g u' q w) = some (sm_b2i (decide (lo ≤ nI (n_dv b s W.length) ∧ nI (n_dv b s W.length) ≤ hi)), n_rr g u' q w) := by rw [n_r114, r2, e_in]
  refine ⟨upd (upd u' 10 (nI (s + W.length))) 12 (nI (s + W.length)), ?_, n_ufu (n_ufu r3 _ (Or.inl rfl)) _ (Or.inr (Or.inl rfl)), by rw [p_ud_off (by decide), p_ud_off (by decide)]; exact r2, by rw [p_ud_off (by decide), p_ud_at], p_ud_at, by rw [p_ud_off (by decide), p_ud_off (by decide)]; exact r5, by rw [p_ud_off (by decide), p_ud_off (by decide)]; exact r4⟩
  have c0 := n3 0 (by omega)
  rw [Nat.add_zero] at c0
  have E1 : f_mo_readNumber_L98 114 lo hi (nI W.length) (n_rr g u' q w) = some (1, n_rr g (upd (upd u' 10 (nI (s + W.length))) 12 (nI (s + W.length))) q w) := by
    unfold f_mo_readNumber_L98
    rw [if_pos (show nI W.length ≤ 3 from nI_le (b := 3) hw3 (by omega))]
    refine w_b2 E ?_
    rw [decide_eq_true z, if_neg (show ¬ sm_b2i true = 0 by decide)]
    refine w_lt ?_
    refine w_lt ?_
    rw [n_r114, r4, nI_add, n_u114, n_r114, p_ud_at, n_u114]
  unfold f_mo_readNumber
  refine w_b2 p1 ?_
  refine w_b2 (n_isDigit B s _) ?_
  rw [decide_eq_true ⟨show s < L by omega, c0⟩, if_neg (show ¬ sm_b2i true = 0 by decide), n_r114, p4, p6.2.2, if_neg (fun z => n5 ((n_nl (by omega) (by omega) le).mp z))]
  refine w_lt ?_
  rw [n_u114]
  exact q1.trans E1
-- the class adds a fan
theorem n_cfan (hp : p = 1 ∨ p = 24) (h1 : h p 2 = nI F) (hF : F < 6) (a f t o : Int32) : ∃ h', f_pl_addFan p a f t o h = some h' ∧ h' p 2 = nI (F + 1) ∧ (∀ j, j ≠ 2 → h' p j = h p j) ∧ h' (p + 1) (16 + F) = a ∧ h' (p + 2) (16 + F) = t ∧ h' (p + 4) F = f ∧ h' (p + 5) F = o ∧ (∀ j, j ≠ 16 + F → h' (p + 1) j = h (p + 1) j ∧ h' (p + 2) j = h (p + 2) j) ∧ (∀ j, j ≠ F → h' (p + 4) j = h (p + 4) j ∧ h' (p + 5) j = h (p + 5) j) ∧ ∀ r, r ≠ p → r ≠ p + 1 → r ≠ p + 2 → r ≠ p + 4 → r ≠ p + 5 → h' r = h r := by
  have s16 : (16 : Int32) + nI F = nI (16 + F) := nI_add 16 F
  refine ⟨sm_up (sm_up (sm_up (sm_up (sm_up h (p + 1) (16 + F) a) (p + 2) (16 + F) t) (p + 4) F f) (p + 5) F o) p 2 (nI (F + 1)), ?_, p_up_at, fun j j1 => ?_, ?_, ?_, ?_, ?_, fun j hj => ⟨?_, ?_⟩, fun j hj => ⟨?_, ?_⟩, fun r r0 r1 r2 r3 r4 => ?_⟩
  · unfold f_pl_addFan
    rw [h1, if_neg (show ¬ (6 : Int32) ≤ nI F from nI_ge (b := 6) hF (by omega)), s16, sm_gd_t (sm_inb_nI (k := 16 + F) (n := 23) (by omega) (by omega)), nI_clamp (n := 16 + F) (by omega)]
    refine w_lt ?_
    rw [show sm_up h (p + 1) (16 + F) a p 2 = nI F by rw [sm_up_off (by omega)]; exact h1, s16, sm_gd_t (sm_inb_nI (k := 16 + F) (n := 23) (by omega) (by omega)), nI_clamp (n := 16 + F) (by omega)]
    refine w_lt ?_
    rw [show sm_up (sm_up h (p + 1) (16 + F) a) (p + 2) (16 + F) t p 2 = nI F by rw [sm_up_off (by omega), sm_up_off (by omega)]; exact h1, sm_gd_t (sm_inb_nI (k := F) (n := 6) (by omega) (by omega)), nI_clamp (n := F) (by omega)]
    refine w_lt ?_
    rw [show sm_up (sm_up (sm_up h (p + 1) (16 + F) a) (p + 2) (16 + F) t) (p + 4) F f p 2 = nI F by rw [sm_up_off (by omega), sm_up_off (by omega), sm_up_off (by omega)]; exact h1, sm_gd_t (sm_inb_nI (k := F) (n := 6) (by omega) (by omega)), nI_clamp (n := F) (by omega)]
    refine w_lt ?_
    rw [show sm_up (sm_up (sm_up (sm_up h (p + 1) (16 + F) a) (p + 2) (16 + F) t) (p + 4) F f) (p + 5) F o p 2 = nI F by rw [sm_up_off (by omega), sm_up_off (by omega), sm_up_off (by omega), sm_up_off (by omega)]; exact h1, nI_1]
    rfl
  · rw [sm_up_off (by omega), sm_up_off (by omega), sm_up_off (by omega), sm_up_off (by omega), sm_up_off (by omega)]
  · rw [sm_up_off (by omega), sm_up_off (by omega), sm_up_off (by omega), sm_up_off (by omega), p_up_at]
  · rw [sm_up_off (by omega), sm_up_off (by omega), sm_up_off (by omega), p_up_at]
  · rw [sm_up_off (by omega), sm_up_off (by omega), p_up_at]
  · rw [sm_up_off (by omega), p_up_at]
  · rw [sm_up_off (by omega), sm_up_off (by omega), sm_up_off (by omega), sm_up_off (by omega), sm_up_off (by omega)]
  · rw [sm_up_off (by omega), sm_up_off (by omega), sm_up_off (by omega), sm_up_off (by omega), sm_up_off (by omega)]
  · rw [sm_up_off (by omega), sm_up_off (by omega), sm_up_off (by omega), sm_up_off (by omega), sm_up_off (by omega)]
  · rw [sm_up_off (by omega), sm_up_off (by omega), sm_up_off (by omega), sm_up_off (by omega), sm_up_off (by omega)]
  · rw [sm_up_ne _ _ _ _ _ r0, sm_up_ne _ _ _ _ _ r4, sm_up_ne _ _ _ _ _ r3, sm_up_ne _ _ _ _ _ r2, sm_up_ne _ _ _ _ _ r1]
-- after an error
theorem n_F85E (X : n_E p h0 c s h) (a1 a2 a3 a4 : Int32) : f_re_fanItem_L85 17 a1 a2 a3 a4 h = some h := by
  obtain ⟨-, -, ⟨x1, x2, x3⟩, -⟩ := X
  unfold f_re_fanItem_L85
  rw [x3, if_neg (nI_ne0 (by omega) (by omega))]
theorem n_F41E (X : n_E p h0 c s h) (n : Nat) (a1 a2 a3 a4 a5 : Int32) : f_re_fanItem_L41 (n + 1) 17 a1 a2 a3 a4 a5 h = some h := by
  obtain ⟨⟨i, x1, x2, x3⟩, -⟩ := id X
  show (if 16 < a5 then f_re_fanItem_L85 17 a1 a2 a3 a4 h else sm_gd (sm_inb (h 18 7) 901) (if h 20 (h 18 7).toNatClampNeg = 2 then _ else f_re_fanItem_L85 17 a1 a2 a3 a4 h)) = some h
  by_cases z : (16 : Int32) < a5
  · rw [if_pos z]
    exact n_F85E X _ _ _ _
  · rw [if_neg z, x2, sm_gd_t (sm_inb_nI (k := i) (n := 901) (by omega) (by omega)), nI_clamp (n := i) (by omega), x3, if_neg (show ¬ (4 : Int32) = 2 by decide)]
    exact n_F85E X _ _ _ _
theorem n_F17E (X : n_E p h0 c s h) (a : Int32) : f_re_fanItem_L17 17 a h = some h := by
  unfold f_re_fanItem_L17
  refine w_b2 (n_needNumberE X 1 999) ?_
  refine w_b2 (n_needNumberE X 1 30) ?_
  exact n_F41E X 19999 _ _ _ _ _
theorem n_L187 {Ff : Nat} (h1 : q 2 = nI Ff) : f_mo_readFan_L187 114 (n_rr g u q w) = some (1, n_rr g u (upd q 2 (nI (Ff + 1))) w) := by
  unfold f_mo_readFan_L187
  rw [s_i2, s_i2, s_c2, show (114 + 2 : Nat) = 116 from rfl, n_r116, h1, nI_1, n_u116]
  rfl
theorem n_wb_or (x : Int32) (m : Nat) : x ||| (1 <<< (nI m &&& 31)) = sm_wb x m true := by
  unfold sm_wb
  rw [if_pos rfl]
theorem n_cnt {x : Int32} {m n : Nat} (hm : m < 16) (h : sm_bt x m = false) (hn : p_cn (sm_bt x) 16 = n) : p_cn (sm_bt (sm_wb x m true)) 16 = n + 1 := by
  have e : p_cn (sm_bt (sm_wb x m true)) 16 = p_cn (fun k => if k = m then true else sm_bt x k) 16 := p_cn_ext (fun k hk => by
    show sm_bt (sm_wb x m true) k = if k = m then true else sm_bt x k
    rw [sm_bt_wb _ _ _ _ (by omega) (by omega)])
  rw [e, p_cn_add1 (P := sm_bt x) h (fun k => rfl) 16 hm, hn]
-- the list of a fan
theorem n_fanL (B : n_B0 b L T p h0) (RB : n_RB b L g) {i0 : Nat} {hh : sm_H} {u0 : Nat → Int32} (hF : F < 6) (hk : k ≤ 2) (v1 : 1 ≤ v) (v2 : v ≤ 999) (r1 : 1 ≤ r) (r2 : r ≤ 30) (hA : A ≤ 8 * N) : ∀ d n i e le h u Q (l : Int32), n + d = 16 → n_SS b L T p h0 i e le h u → n_IT Z D F R N K A p h q → (Q (74 + 4 * F) = nI k ∧ Q (75 + 4 * F) = nI v ∧ Q (76 + 4 * F) = nI r ∧ Q (77 + 4 * F) = l) → (∀ j, (j < 74 + 4 * F ∨ 77 + 4 * F < j) → Q j = q j) → (∀ x, x < 32 → sm_bt l x = true → x < D ∧ h (p + 1) x = nI k) → p_cn (sm_bt l) 16 = n → n_uc u0 u → i0 ≤ i → 3 * K ≤ e → h 17 = hh 17 → ∀ m1 m2, d + 2 ≤ m1 → d + 2 ≤ m2 → n_O b L T p h0 g i0 hh u0 (Option.bind (f_re_fanItem_L41 m1 17 (nI k) (nI v) (nI r) l (nI n) h) fun g64 => f_re_item_L216 17 g64) (f_mo_readFan_L85 m2 114 (nI (74 + 4 * F)) (nI k) (n_rr g u Q w)) := by
  have hp := B.2.2.2.2
  obtain ⟨q1, q2⟩ := p_isPp hp
  have n1 : ¬ (1 : Int32) = 0 := by decide
  -- no number: the fan is there
  have Stop : ∀ n i e le τ W s h u Q (l : Int32), n ≤ 16 → n_S b L T p h0 i e le τ W s h u → ¬ τ = 2 → n_IT Z D F R N K A p h q → (Q (74 + 4 * F) = nI k ∧ Q (75 + 4 * F) = nI v ∧ Q (76 + 4 * F) = nI r ∧ Q (77 + 4 * F) = l) → (∀ j, (j < 74 + 4 * F ∨ 77 + 4 * F < j) → Q j = q j) → (∀ x, x < 32 → sm_bt l x = true → x < D ∧ h (p + 1) x = nI k) → n_uc u0 u → i0 ≤ i → 3 * K ≤ e → h 17 = hh 17 → ∀ m1 m2, n_O b L T p h0 g i0 hh u0 (Option.bind (f_re_fanItem_L41 (m1 + 1) 17 (nI k) (nI v) (nI r) l (nI n) h) fun g64 => f_re_item_L216 17 g64) (f_mo_readFan_L85 (m2 + 1) 114 (nI (74 + 4 * F)) (nI k) (n_rr g u Q w)) := by
    intro n i e le τ W s h u Q l hn Y ht C QF Qo hl hu hi bud h17 m1 m2
    obtain ⟨G, Kt, nx, U⟩ := id Y
    have hes : e ≤ s := Kt.1
    have hi' := n_tk_lt B Kt
    obtain ⟨e19, e20, e21, e22, e23⟩ := G.row B
    have hc := C.1.2.1
    obtain ⟨h5, y1, y2, y3, y4, y5, y6, y7, y8, y9, ya⟩ := n_cfan (h := h) hp hc.2.2.2.2.1 hF (nI k) (nI v) (nI r) l
    have F1 : f_re_fanItem_L41 (m1 + 1) 17 (nI k) (nI v) (nI r) l (nI n) h = some h5 := by
      show (if 16 < nI n then f_re_fanItem_L85 17 (nI k) (nI v) (nI r) l h else sm_gd (sm_inb (h 18 7) 901) (if h 20 (h 18 7).toNatClampNeg = 2 then _ else f_re_fanItem_L85 17 (nI k) (nI v) (nI r) l h)) = some h5
      rw [if_neg (show ¬ (16 : Int32) < nI n from nI_nlt (a := 16) (by omega) (by omega)), G.2.2.2.1, sm_gd_t (sm_inb_nI (k := i) (n := 901) (by omega) (by omega)), nI_clamp (n := i) (by omega), e20, Kt.2.2.2.2.1, if_neg (show ¬ nI τ = 2 from fun x => ht ((nI_eq (b := 2) (Nat.lt_of_le_of_lt Kt.2.2.2.2.2.1 (by decide)) (by decide)).mp x))]
      unfold f_re_fanItem_L85
      rw [G.2.1, if_pos rfl, G.1, q1, s_true, q2]
      refine w_lt ?_
      exact w_bd y1 rfl
    have C5 : n_IT Z D (F + 1) R N K A p h5 (upd Q 2 (nI (F + 1))) := by
      refine C.fan (l := l) hF hk v1 v2 r1 r2 hl y2 y3 y4 y5 y6 y7 y8 y9 ya p_ud_at ?_ ?_ ?_ ?_ (fun j j1 j2 => ?_)
      · rw [p_ud_off (by omega)]; exact QF.1
      · rw [p_ud_off (by omega)]; exact QF.2.1
      · rw [p_ud_off (by omega)]; exact QF.2.2.1
      · rw [p_ud_off (by omega)]; exact QF.2.2.2
      · rw [p_ud_off j1]; exact Qo j j2
    obtain ⟨u4, p1, p2, p3, p4, p5, p6, -⟩ := n_peek (g := g) (q := Q) (w := w) RB Kt U
    have Y4 : n_S b L T p h0 i e le τ W s h u4 := ⟨G, Kt, nx, p6⟩
    have dg := n_isDigit RB s (n_rr g u4 Q w)
    rw [F1]
    by_cases hd : s < L ∧ n_ty (b s) = 2
    · have t3 : ¬ τ = 3 := by
        intro y
        have := (Kt.2.2.2.2.2.2.2.2.2.2.2.1 y).2
        rw [hd.2] at this
        exact absurd this (by decide)
      obtain ⟨-, rn⟩ := n_rnumF (g := g) (q := Q) (w := w) RB Kt p6 0 (nI D - 1)
      obtain ⟨u6, x1, x2⟩ := rn (fun y => ht y.1)
      rw [if_neg ht] at x2
      have F2 : f_mo_readFan_L85 (m2 + 1) 114 (nI (74 + 4 * F)) (nI k) (n_rr g u Q w) = some (0, n_rr g u6 Q w) := by
        show sm_b2 (f_mo_peek 114 (n_rr g u Q w)) _ = _
        refine w_b2 p1 ?_
        refine w_b2 dg ?_
        rw [decide_eq_true hd, if_neg (show ¬ sm_b2i true = 0 by decide), s_i1, s_c1, show (114 + 2 : Nat) = 116 from rfl, n_r116, Qo 1 (by omega), hc.2.2.2.1]
        refine w_b2 x1 ?_
        rw [if_pos rfl]
      exact n_finS B (G.pl hp (fun r hr => ya r (by omega) (by omega) (by omega) (by omega) (by omega))) Kt C5.KA t3 F2 ((hu.trans p2.uc).ub x2)
    · have F2 : f_mo_readFan_L85 (m2 + 1) 114 (nI (74 + 4 * F)) (nI k) (n_rr g u Q w) = some (1, n_rr g u4 (upd Q 2 (nI (F + 1))) w) := by
        show sm_b2 (f_mo_peek 114 (n_rr g u Q w)) _ = _
        refine w_b2 p1 ?_
        refine w_b2 dg ?_
        rw [decide_eq_false hd, if_pos (show sm_b2i false = 0 by decide)]
        exact n_L187 (by rw [Qo 2 (by omega)]; exact hc.2.2.2.2.2.1)
      have Y5 : n_SS b L T p h0 i e le h u4 := ⟨τ, W, s, Y4⟩
      exact n_fin (i1 := i) B RB (Y5.pl' hp (fun r hr => ya r (by omega) (by omega) (by omega) (by omega) (by omega))) C5 F2 (hu.trans p2.uc) hi bud hA (by rw [ya 17 (by omega) (by omega) (by omega) (by omega) (by omega)]; exact h17)
  -- a number that isn't good
  have Bad : ∀ n i e le W s h u Q (l : Int32), n ≤ 16 → n_S b L T p h0 i e le 2 W s h u → n_IT Z D F R N K A p h q → n_uc u0 u → ∀ m1, 1 ≤ m1 → f_re_listedDamper 17 (nI k) l h = f_re_listedDamper_L48 17 h → ∀ x u6, x = some (0, n_rr g u6 Q w) → n_ub 2 s u u6 → n_O b L T p h0 g i0 hh u0 (Option.bind (f_re_fanItem_L41 (m1 + 1) 17 (nI k) (nI v) (nI r) l (nI n) h) fun g64 => f_re_item_L216 17 g64) x := by
    intro n i e le W s h u Q l hn Y C hu m1 hm1 hl x u6 hx hb
    obtain ⟨m1, rfl⟩ : ∃ k, m1 = k + 1 := ⟨m1 - 1, by omega⟩
    obtain ⟨G, Kt, nx, U⟩ := id Y
    have hi' := n_tk_lt B Kt
    obtain ⟨e19, e20, e21, e22, e23⟩ := G.row B
    obtain ⟨h6, f1, f2⟩ := n_fail B G Kt C.KA (c := 2) (by decide) (by decide)
    have F1 : f_re_fanItem_L41 (m1 + 1 + 1) 17 (nI k) (nI v) (nI r) l (nI n) h = some h6 := by
      show (if 16 < nI n then f_re_fanItem_L85 17 (nI k) (nI v) (nI r) l h else sm_gd (sm_inb (h 18 7) 901) (if h 20 (h 18 7).toNatClampNeg = 2 then sm_b2 (f_re_listedDamper 17 (nI k) l h) _ else f_re_fanItem_L85 17 (nI k) (nI v) (nI r) l h)) = some h6
      rw [if_neg (show ¬ (16 : Int32) < nI n from nI_nlt (a := 16) (by omega) (by omega)), G.2.2.2.1, sm_gd_t (sm_inb_nI (k := i) (n := 901) (by omega) (by omega)), nI_clamp (n := i) (by omega), e20, Kt.2.2.2.2.1, if_pos (show nI 2 = 2 from rfl)]
      refine w_b2 (v := 0) (g := h6) ?_ ?_
      · rw [hl]
        unfold f_re_listedDamper_L48
        exact w_bd f1 rfl
      · refine w_lt ?_
        refine w_lt ?_
        exact n_F41E f2 m1 _ _ _ _ _
    rw [F1]
    exact n_finE f2 hx (hu.ub hb)
  -- which one it is
  have Cls : ∀ n i e le W s h u Q (l : Int32), n ≤ 16 → n_S b L T p h0 i e le 2 W s h u → n_IT Z D F R N K A p h q → (Q (74 + 4 * F) = nI k ∧ Q (75 + 4 * F) = nI v ∧ Q (76 + 4 * F) = nI r ∧ Q (77 + 4 * F) = l) → (∀ j, (j < 74 + 4 * F ∨ 77 + 4 * F < j) → Q j = q j) → ∀ m2, (f_re_listedDamper 17 (nI k) l h = f_re_listedDamper_L48 17 h ∧ ∃ u6, f_mo_readFan_L85 (m2 + 1) 114 (nI (74 + 4 * F)) (nI k) (n_rr g u Q w) = some (0, n_rr g u6 Q w) ∧ n_ub 2 s u u6) ∨ (∃ x u6, x < D ∧ h (p + 1) x = nI k ∧ sm_bt l x = false ∧ f_re_listedDamper 17 (nI k) l h = some (1 <<< (nI x &&& 31), sm_up h 18 7 (nI (i + 1))) ∧ f_mo_readFan_L85 (m2 + 1) 114 (nI (74 + 4 * F)) (nI k) (n_rr g u Q w) = f_mo_readFan_L85 m2 114 (nI (74 + 4 * F)) (nI k) (n_rr g u6 (upd Q (77 + 4 * F) (sm_wb l x true)) w) ∧ n_uf u u6 ∧ n_SS b L T p h0 (i + 1) (s + W.length) true (sm_up h 18 7 (nI (i + 1))) u6) := by
    intro n i e le W s h u Q l hn Y C QF Qo m2
    obtain ⟨G, Kt, nx, U⟩ := id Y
    have hi' := n_tk_lt B Kt
    obtain ⟨e19, e20, e21, e22, e23⟩ := G.row B
    have hc := C.1.2.1
    have cD := C.1.1.2.2.1
    obtain ⟨m1', m2', m3, m4, m5⟩ := Kt.2.2.2.2.2.2.2.2.1 (Or.inr rfl)
    have kb := Kt.2.2.2.2.2.2.2.2.2.2.1 rfl
    have hlt := n_dv_lt (b := b) s W.length (fun k hk => (m3 k hk).2)
    have h10 : 10 ^ W.length ≤ 10 ^ 3 := Nat.pow_le_pow_right (by omega) kb.1
    obtain ⟨x, hx⟩ : ∃ x, x = n_dv b s W.length := ⟨_, rfl⟩
    rw [← hx] at hlt kb
    have x3 : x < 1000 := Nat.lt_of_lt_of_le hlt h10
    have hT := (Kt.2.2.2.2.2.2.2.1 (by decide)).2
    obtain ⟨a1, a2⟩ := n_adv B G hT
    have fs := n_first Kt (Or.inr rfl)
    obtain ⟨u4, p1, p2, p3, p4, p5, p6, -⟩ := n_peek (g := g) (q := Q) (w := w) RB Kt U
    have dg := n_isDigit RB s (n_rr g u4 Q w)
    have LD : f_re_listedDamper 17 (nI k) l h = if nI D ≤ nI x then f_re_listedDamper_L48 17 h else (sm_gd (sm_inb (nI x) 23) <| if (h (p + 1) x) = nI k then (sm_b2 (f_sc_has l (nI x) h) fun r17 g18 => if r17 = 0 then (Option.bind (f_te_advance 18 g18) fun g21 => some (1 <<< (nI x &&& 31), g21)) else (f_re_listedDamper_L48 17 g18)) else (f_re_listedDamper_L48 17 h)) := by
      unfold f_re_listedDamper
      rw [show h (17 + 1) 7 = nI i from G.2.2.2.1, sm_gd_t (sm_inb_nI (k := i) (n := 901) (by omega) (by omega)), nI_clamp (n := i) (by omega), show h (17 + 1 + 5) i = nI x by rw [show h (17 + 1 + 5) = h0 23 from e23]; exact kb.2]
      refine w_lt ?_
      rw [G.1, q1]
      simp only [s_true]
      rw [q2]
      refine w_lt ?_
      rw [hc.2.2.1, nI_clamp (n := x) (by omega)]
      rfl
    have RD : ∀ r0 g0, f_mo_readNumber 114 0 (nI D - 1) (n_rr g u4 Q w) = some (r0, g0) → f_mo_readFan_L85 (m2 + 1) 114 (nI (74 + 4 * F)) (nI k) (n_rr g u Q w) = if r0 = 0 then (some ((0 : Int32), g0)) else (sm_gd (sm_inb ((10 + (4 * (g0 114 14))) + 0) 1268) <| if (g0 (114 + 2) ((10 + (4 * (g0 114 14))) + 0 : Int32).toNatClampNeg) = nI k then (sm_gd (sm_inb (nI (74 + 4 * F) + 3) 1268) <| sm_b2 (f_mo_hasBit (g0 (114 + 2) (nI (74 + 4 * F) + 3 : Int32).toNatClampNeg) (g0 114 14) g0) fun r42 g43 => if r42 = 0 then (sm_gd (sm_inb (nI (74 + 4 * F) + 3) 1268) <| sm_gd (sm_inb (nI (74 + 4 * F) + 3) 1268) <| sm_let (sm_up g43 (114 + 2) (nI (74 + 4 * F) + 3 : Int32).toNatClampNeg ((g43 (114 + 2) (nI (74 + 4 * F) + 3 : Int32).toNatClampNeg) ||| (1 <<< ((g43 114 14) &&& 31)))) fun g48 => f_mo_readFan_L85 m2 114 (nI (74 + 4 * F)) (nI k) g48) else (f_mo_readFan_L151 114 g43)) else (f_mo_readFan_L151 114 g0)) := by
      intro r0 g0 hr
      show sm_b2 (f_mo_peek 114 (n_rr g u Q w)) _ = _
      refine w_b2 p1 ?_
      refine w_b2 dg ?_
      rw [decide_eq_true fs, if_neg (show ¬ sm_b2i true = 0 by decide), s_i1, s_c1, show (114 + 2 : Nat) = 116 from rfl, n_r116, Qo 1 (by omega), hc.2.2.2.1]
      exact w_b2 hr rfl
    by_cases xD : x < D
    · have ge : ¬ nI D ≤ nI x := nI_ge xD (by omega)
      have le1 : nI (n_dv b s W.length) ≤ nI D - 1 := by
        rw [← hx, show nI D - 1 = nI (D - 1) from nI_sub (b := 1) (by omega)]
        exact nI_le (by omega) (by omega)
      obtain ⟨u6, x1, x2, x4, x5, x6, x7, x8⟩ := n_rnum13 (g := g) (q := Q) (w := w) RB Kt p6 0 (nI D - 1) rfl ⟨nI_pos' (by rw [← hx]; omega), le1⟩
      rw [← hx] at x4
      obtain ⟨kd, zd, rd, d1, d2, d3, d4, d5, d6, -⟩ := C.1.2.2.1 x xD
      have L151 : ∃ u7, f_mo_readFan_L151 114 (n_rr g u6 Q w) = some (0, n_rr g u7 Q w) ∧ n_ub 2 s u u7 := by
        obtain ⟨f1, f2⟩ := n_fails (g := g) (q := Q) (w := w) (c := 2) x8
        refine ⟨_, ?_, (p2.trans x2).ub f2⟩
        unfold f_mo_readFan_L151
        rw [n_r114]
        exact w_b2 f1 rfl
      obtain ⟨u7, g1, g2⟩ := L151
      have RD2 : f_mo_readFan_L85 (m2 + 1) 114 (nI (74 + 4 * F)) (nI k) (n_rr g u Q w) = if nI kd = nI k then (if sm_b2i (sm_bt l x) = 0 then f_mo_readFan_L85 m2 114 (nI (74 + 4 * F)) (nI k) (n_rr g u6 (upd Q (77 + 4 * F) (sm_wb l x true)) w) else some (0, n_rr g u7 Q w)) else some (0, n_rr g u7 Q w) := by
        rw [RD _ _ x1, if_neg n1, n_r114, x4, show (10 : Int32) + 4 * nI x + 0 = nI (10 + 4 * x) by rw [show (4 : Int32) = nI 4 from rfl, show (10 : Int32) = nI 10 from rfl, nI_mul, nI_add]; exact nI_add (10 + 4 * x) 0, sm_gd_t (sm_inb_nI (k := 10 + 4 * x) (n := 1268) (by omega) (by omega)), nI_clamp (n := 10 + 4 * x) (by omega), show (114 + 2 : Nat) = 116 from rfl, n_r116, Qo (10 + 4 * x) (by omega), d6, show nI (74 + 4 * F) + 3 = nI (77 + 4 * F) by rw [show (3 : Int32) = nI 3 from rfl, nI_add]; congr 1; omega, sm_gd_t (sm_inb_nI (k := 77 + 4 * F) (n := 1268) (by omega) (by omega)), nI_clamp (n := 77 + 4 * F) (by omega), QF.2.2.2, g1]
        by_cases y : nI kd = nI k
        · rw [if_pos y, if_pos y]
          refine w_b2 (e_hasBit l x _ (by omega)) ?_
          by_cases y2 : sm_b2i (sm_bt l x) = 0
          · rw [if_pos y2, if_pos y2, sm_gd_t (sm_inb_nI (k := 77 + 4 * F) (n := 1268) (by omega) (by omega)), sm_gd_t (sm_inb_nI (k := 77 + 4 * F) (n := 1268) (by omega) (by omega)), n_r116, n_r114, QF.2.2.2, x4, n_wb_or, n_u116]
            rfl
          · rw [if_neg y2, if_neg y2, g1]
        · rw [if_neg y, if_neg y]
      by_cases y : nI kd = nI k
      · by_cases y2 : sm_bt l x = true
        · refine Or.inl ⟨?_, u7, ?_, g2⟩
          · rw [LD, if_neg ge, sm_gd_t (sm_inb_nI (k := x) (n := 23) (by omega) (by omega)), d5, if_pos y]
            refine w_b2 (e_has l x h (by omega)) ?_
            rw [y2, if_neg (show ¬ sm_b2i true = 0 by decide)]
          · rw [RD2, if_pos y, y2, if_neg (show ¬ sm_b2i true = 0 by decide)]
        · have y3 : sm_bt l x = false := by
            cases hb : sm_bt l x
            · rfl
            · exact absurd hb y2
          refine Or.inr ⟨x, u6, xD, by rw [d5]; exact y, y3, ?_, ?_, p2.trans x2, ?_⟩
          · rw [LD, if_neg ge, sm_gd_t (sm_inb_nI (k := x) (n := 23) (by omega) (by omega)), d5, if_pos y]
            refine w_b2 (e_has l x h (by omega)) ?_
            rw [y3, if_pos (show sm_b2i false = 0 by decide)]
            exact w_bd a1 rfl
          · rw [RD2, if_pos y, y3, if_pos (show sm_b2i false = 0 by decide)]
          · exact n_next Y (by decide) (by decide) a2 x5 x6 x7
      · refine Or.inl ⟨?_, u7, ?_, g2⟩
        · rw [LD, if_neg ge, sm_gd_t (sm_inb_nI (k := x) (n := 23) (by omega) (by omega)), d5, if_neg y]
        · rw [RD2, if_neg y]
    · obtain ⟨-, rn⟩ := n_rnumF (g := g) (q := Q) (w := w) RB Kt p6 0 (nI D - 1)
      obtain ⟨u6, x1, x2⟩ := rn (fun y => by
        have := n_le_pred (by omega) (by omega) y.2.2
        omega)
      rw [if_pos rfl] at x2
      refine Or.inl ⟨?_, u6, ?_, p2.ub x2⟩
      · rw [LD, if_pos (nI_le (by omega) (by omega))]
      · rw [RD _ _ x1, if_pos rfl]
  intro d
  induction d with
  | zero =>
    intro n i e le h u Q l hn Y C QF Qo hl hcn hu hi bud h17 m1 m2 hm1 hm2
    obtain ⟨m1, rfl⟩ : ∃ k, m1 = k + 1 := ⟨m1 - 1, by omega⟩
    obtain ⟨m2, rfl⟩ : ∃ k, m2 = k + 1 := ⟨m2 - 1, by omega⟩
    obtain ⟨τ, W, s, Y⟩ := Y
    by_cases ht : τ = 2
    · subst ht
      rcases Cls n i e le W s h u Q l (by omega) Y C QF Qo m2 with ⟨c1, u6, c2, c3⟩ | ⟨x, u6, c1, c2, c3, c4, c5, c6, c7⟩
      · exact Bad n i e le W s h u Q l (by omega) Y C hu m1 (by omega) c1 _ u6 c2 c3
      · have := n_cnt (m := x) (by have := C.1.1.2.2.1; omega) c3 hcn
        have := p_cn_le (sm_bt (sm_wb l x true)) 16
        omega
    · exact Stop n i e le τ W s h u Q l (by omega) Y ht C QF Qo hl hu hi bud h17 m1 m2
  | succ d ih =>
    intro n i e le h u Q l hn Y C QF Qo hl hcn hu hi bud h17 m1 m2 hm1 hm2
    obtain ⟨m1, rfl⟩ : ∃ k, m1 = k + 1 := ⟨m1 - 1, by omega⟩
    obtain ⟨m2, rfl⟩ : ∃ k, m2 = k + 1 := ⟨m2 - 1, by omega⟩
    obtain ⟨τ, W, s, Y⟩ := Y
    by_cases ht : τ = 2
    · subst ht
      rcases Cls n i e le W s h u Q l (by omega) Y C QF Qo m2 with ⟨c1, u6, c2, c3⟩ | ⟨x, u6, c1, c2, c3, c4, c5, c6, c7⟩
      · exact Bad n i e le W s h u Q l (by omega) Y C hu m1 (by omega) c1 _ u6 c2 c3
      · obtain ⟨G, Kt, nx, U⟩ := id Y
        have hes : e ≤ s := Kt.1
        have hi' := n_tk_lt B Kt
        obtain ⟨e19, e20, e21, e22, e23⟩ := G.row B
        have F1 : f_re_fanItem_L41 (m1 + 1) 17 (nI k) (nI v) (nI r) l (nI n) h = f_re_fanItem_L41 m1 17 (nI k) (nI v) (nI r) (sm_wb l x true) (nI (n + 1)) (sm_up h 18 7 (nI (i + 1))) := by
          obtain ⟨Rr, hR⟩ : ∃ Rr, Rr = f_re_fanItem_L41 m1 17 (nI k) (nI v) (nI r) (sm_wb l x true) (nI (n + 1)) (sm_up h 18 7 (nI (i + 1))) := ⟨_, rfl⟩
          rw [← hR]
          show (if 16 < nI n then f_re_fanItem_L85 17 (nI k) (nI v) (nI r) l h else sm_gd (sm_inb (h 18 7) 901) (if h 20 (h 18 7).toNatClampNeg = 2 then sm_b2 (f_re_listedDamper 17 (nI k) l h) _ else f_re_fanItem_L85 17 (nI k) (nI v) (nI r) l h)) = Rr
          rw [if_neg (show ¬ (16 : Int32) < nI n from nI_nlt (a := 16) (by omega) (by omega)), G.2.2.2.1, sm_gd_t (sm_inb_nI (k := i) (n := 901) (by omega) (by omega)), nI_clamp (n := i) (by omega), e20, Kt.2.2.2.2.1, if_pos (show nI 2 = 2 from rfl)]
          refine w_b2 c4 ?_
          refine w_lt ?_
          refine w_lt ?_
          rw [n_wb_or, nI_1, hR]
        rw [F1, c5]
        have cD := C.1.1.2.2.1
        refine ih (n + 1) (i + 1) (s + W.length) true _ u6 _ _ (by omega) c7 (C.at7 hp _) ⟨?_, ?_, ?_, p_ud_at⟩ (fun j hj => ?_) (fun y y1 y2 => ?_) (n_cnt (by omega) c3 hcn) (hu.trans c6.uc) (by omega) (by omega) ?_ m1 m2 (by omega) (by omega)
        · rw [p_ud_off (by omega)]; exact QF.1
        · rw [p_ud_off (by omega)]; exact QF.2.1
        · rw [p_ud_off (by omega)]; exact QF.2.2.1
        · rw [p_ud_off (by omega)]; exact Qo j hj
        · rw [sm_up_ne _ _ _ _ _ (by omega)]
          rw [sm_bt_wb _ _ _ _ (by omega) (by omega)] at y2
          by_cases yx : y = x
          · rw [yx]
            exact ⟨c1, c2⟩
          · rw [if_neg yx] at y2
            exact hl y y1 y2
        · rw [sm_up_ne _ _ _ _ _ (by decide)]
          exact h17
    · exact Stop n i e le τ W s h u Q l (by omega) Y ht C QF Qo hl hu hi bud h17 m1 m2
end n_fn
