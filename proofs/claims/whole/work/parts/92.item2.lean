-- LOAD: AN ITEM, both sides: by its first word
section n_itm2
variable {b : Nat → Nat} {L T p i e s τ j l k z r v m : Nat} {g h0 h h' : sm_H} {u q w : Nat → Int32} {le : Bool} {W : List Nat} {Z D F R N Kc A K c : Nat} {fl : Int32}
theorem n_SS.flag {i' e' : Nat} {le' : Bool} (Y : n_SS b L T p h0 i' e' le' h u) (j : Nat) (hj : j = 4 ∨ j = 5) (v : Int32) : n_SS b L T p h0 i' e' le' (sm_up h 17 j v) u := by
  obtain ⟨τ, W, s, ⟨g1, g2, g3, g4, g5, g6⟩, K, nx, U⟩ := Y
  exact ⟨τ, W, s, ⟨by rw [sm_up_off (by omega)]; exact g1, by rw [sm_up_off (by omega)]; exact g2, by rw [sm_up_off (by omega)]; exact g3, by rw [sm_up_off (by omega)]; exact g4, fun j hj => by rw [sm_up_off (by omega)]; exact g5 j hj, fun r r1 r2 r3 => by rw [sm_up_ne _ _ _ _ _ r1]; exact g6 r r1 r2 r3⟩, K, nx, U⟩
theorem n_rule2 (B : n_B0 b L T p h0) (RB : n_RB b L g) (Y : n_SS b L T p h0 i e le h u) (C : n_IT Z D F R N K A p h q) (hN : N ≤ 11) (hA : A ≤ 8 * N) (bud : 3 * K ≤ e) : n_O b L T p h0 g i h u (Option.bind (f_re_ruleItem 17 h) fun g94 => f_re_item_L216 17 g94) (f_mo_readRule 114 (n_rr g u q w)) := by
  obtain ⟨h1, a1, a2⟩ := n_rule (w := w) B RB Y C hN hA bud
  rw [a1]
  rcases a2 with ⟨u', q', w', i', e', le', K', A', b1, b2, b3, b4, b5, b6, b7, b8⟩ | ⟨u', q', w', b1, c, s, b2, b3⟩
  · exact n_fin (i1 := i') B RB b5 b6 b1 b2 (by omega) b4 b7 b8
  · exact n_finE b2 b1 b3
theorem n_wordFail {x : Option (Int32 × sm_H)} {cc : Option sm_H} {h3 : sm_H} {u3 : Nat → Int32} {y : Int32} (hc : cc = some h3) (X : n_E p h0 c s h3) (h13 : u3 13 = nI s) (hy : y = nI s) (hu : ∀ k, k ≤ 9 → u3 k = u k) (hx : x = sm_b2 (f_mo_fails 114 (nI c) y (n_rr g u3 q w)) fun r g => sm_gd (sm_bz r) <| some (r, g)) : n_Z b L T p h0 g i u cc x := by
  obtain ⟨f1, f2, f3, f4⟩ := n_fails (g := g) (q := q) (w := w) (c := c) h13
  rw [h13] at f1
  refine ⟨h3, hc, Or.inr ⟨_, q, w, Or.inl ⟨?_, rfl⟩, c, s, X, f2, f3, fun k hk => (f4 k hk).trans (hu k hk)⟩⟩
  rw [hx, hy]
  exact w_b2 f1 rfl
theorem n_item (B : n_B0 b L T p h0) (RB : n_RB b L g) (Y : n_SS b L T p h0 i e le h u) (C : n_IT Z D F R N K A p h q) (bud : 3 * K ≤ e) (hA : A ≤ 8 * N) (f4 : h 17 4 = u 21) (f5 : h 17 5 = u 22) (h23 : u 23 = nI m) (hm : m < 1000) (hfl : (m = 0 ∧ fl = 1) ∨ (1 ≤ m ∧ fl = 0)) (h00 : m = 0 → D = 0 ∧ F = 0 ∧ R = 0 ∧ N = 0 ∧ K = 0 ∧ A = 0) : n_Z b L T p h0 g i u (f_re_item 17 fl h) (f_mo_readItem 114 (n_rr g u q w)) := by
  have hp := B.2.2.2.2
  obtain ⟨q1, q2⟩ := p_isPp hp
  have n1 : ¬ (1 : Int32) = 0 := by decide
  have hc := C.1.2.1
  obtain ⟨cZ1, cZ2, cD, cF, cR⟩ := C.1.1
  obtain ⟨cN, cA, cN0, cN4, -⟩ := C.2.1
  obtain ⟨τ, W, s, Y1⟩ := id Y
  obtain ⟨G, Kt, nx, U⟩ := id Y1
  have hes : e ≤ s := Kt.1
  have P := C.KA
  by_cases ht : τ = 1
  · obtain ⟨u1, s1, s2, s3, s4, s5, s6⟩ := n_see (g := g) (q := q) (w := w) RB Y1 ht
    obtain ⟨u2, x1, x2, x3, x4, x5⟩ := n_psw (g := g) (q := q) (w := w) B RB s3 ht s4
    have hu : ∀ k, k ≤ 9 ∨ k = 15 ∨ k = 16 ∨ k = 21 ∨ k = 22 ∨ k = 23 → u2 k = u k := fun k hk => (s2.trans x2) k (by omega) (by omega) (by omega) (by omega) (by omega) (by omega)
    have u13 : u2 13 = nI s := by rw [x3 13 (by decide) (by decide)]; exact s5
    have wd : ∀ a, a < 28 → ∀ c, c = n_kc a → (lg_cmp (sm_jn (u2 17) (u2 1017)) c = 0 ↔ W = n_kw a) := by
      intro a ha c hc
      rw [x3 17 (by decide) (by decide), x3 1017 (by decide) (by decide)]
      exact s6 a ha c hc
    have rw1 : f_mo_readWord 114 (n_rr g u q w) = some (1, n_rr g u2 q w) := by
      unfold f_mo_readWord
      refine w_b2 s1 ?_
      rw [if_neg n1]
      exact w_bd x1 rfl
    have e17 : sm_up h 18 7 (nI (i + 1)) 17 = h 17 := sm_up_ne _ _ _ _ _ (by decide)
    have C1 := C.at7 hp (nI (i + 1))
    have fg : sm_up h 18 7 (nI (i + 1)) 17 4 = u2 21 ∧ sm_up h 18 7 (nI (i + 1)) 17 5 = u2 22 := ⟨by rw [e17, hu 21 (by omega)]; exact f4, by rw [e17, hu 22 (by omega)]; exact f5⟩
    have hu' : ∀ k, k ≤ 9 ∨ k = 15 ∨ k = 16 ∨ k = 23 → u2 k = u k := fun k hk => hu k (by omega)
    have no : ∀ a c, a < 28 → c < 28 → a ≠ c → W = n_kw a → ¬ W = n_kw c := fun a c ha hc hac h1 h2 => n_kw_ne ha hc hac (h1.symm.trans h2)
    have no2 : ∀ a c, a < 28 → c < 28 → a ≠ c → W = n_kw a → ¬ (τ = 1 ∧ W = n_kw c) := fun a c ha hc hac h1 h2 => no a c ha hc hac h1 h2.2
    obtain ⟨k0, k1, -, -, -, k5, -, k7, k8, k9, k10, -⟩ := n_kc_eq
    have w0 := n_takeWord B G Kt (a := 0) (by decide)
    have w8 := n_takeWord B G Kt (a := 8) (by decide)
    have w9 := n_takeWord B G Kt (a := 9) (by decide)
    by_cases z0 : W = n_kw 0
    · have i0 := (wd 0 (by decide) _ k0).mpr z0
      by_cases hm0 : m = 0
      · obtain ⟨rfl, rfl, rfl, rfl, rfl, rfl⟩ := h00 hm0
        have fl1 : fl = 1 := by rcases hfl with y | y; exact y.2; omega
        rw [if_pos ⟨ht, z0⟩] at w0
        refine ((n_zones (w := w) B RB x5 C1).up fg hu').wrap ?_ ?_
        · rw [fl1]
          unfold f_re_item
          rw [if_neg n1]
          refine w_b2 w0 ?_
          rw [if_neg n1, e17, G.1, q1, s_true, q2]
          rfl
        · unfold f_mo_readItem
          refine w_b2 rw1 ?_
          rw [if_neg n1]
          refine w_lt ?_
          rw [n_r114, if_pos i0, hu 23 (by omega), h23, hm0, if_pos (show nI 0 = 0 from rfl)]
          rfl
      · obtain ⟨h3, a1, a2⟩ := n_sk6 B G Kt P cN0 (by omega) (no2 0 10 (by decide) (by decide) (by decide) z0)
        refine n_wordFail (u3 := u2) (c := 1) (y := u2 13) (q := q) (w := w) ?_ a2 u13 u13 (fun k hk => hu k (Or.inl hk)) ?_
        · have fl0 : fl = 0 := by rcases hfl with y | y; exact absurd y.1 hm0; exact y.2
          rw [n_sk0 B G Kt fl (Or.inl fl0), n_sk1 B G Kt P hc.2.2.1 (by omega) (no2 0 1 (by decide) (by decide) (by decide) z0), n_sk2 B G Kt P hc.2.2.2.2.1 (by omega) (no2 0 5 (by decide) (by decide) (by decide) z0), n_sk3 B G Kt P hc.2.2.2.2.2.2.1 (by omega) (no2 0 7 (by decide) (by decide) (by decide) z0), n_sk4 B G Kt (Or.inr (no2 0 8 (by decide) (by decide) (by decide) z0)), n_sk5 B G Kt (Or.inr (no2 0 9 (by decide) (by decide) (by decide) z0))]
          exact a1
        · unfold f_mo_readItem
          refine w_b2 rw1 ?_
          rw [if_neg n1]
          refine w_lt ?_
          rw [n_r114, if_pos i0, hu 23 (by omega), h23, if_neg (show ¬ nI m = 0 from nI_ne0 (by omega) (by omega))]
          rfl
    · have i0 : ¬ lg_cmp (sm_jn (u2 17) (u2 1017)) 27769011 = 0 := fun y => z0 ((wd 0 (by decide) _ k0).mp y)
      have z0' : ¬ (τ = 1 ∧ W = n_kw 0) := fun y => z0 y.2
      have S0 := n_sk0 B G Kt fl (Or.inr z0')
      by_cases z8 : W = n_kw 8
      · have i8 := (wd 8 (by decide) _ k8).mpr z8
        have S3 : f_re_item 17 fl h = n_i4 h := by rw [S0, n_sk1 B G Kt P hc.2.2.1 (by omega) (no2 8 1 (by decide) (by decide) (by decide) z8), n_sk2 B G Kt P hc.2.2.2.2.1 (by omega) (no2 8 5 (by decide) (by decide) (by decide) z8), n_sk3 B G Kt P hc.2.2.2.2.2.2.1 (by omega) (no2 8 7 (by decide) (by decide) (by decide) z8)]
        by_cases y4 : h 17 4 = 0
        · have O := n_setting (jj := 4) (m := 5) (lo := 1) (hi := 200) (w := w) B RB ((x5.flag 4 (Or.inl rfl) 1).uf (u' := upd u2 21 1) ⟨p_ud_off (by decide), p_ud_off (by decide), p_ud_off (by decide)⟩) (C1.adv (h' := sm_up (sm_up h 18 7 (nI (i + 1))) 17 4 1) (fun o ho => sm_up_ne _ _ _ _ _ (by omega))) (Or.inl ⟨rfl, rfl, rfl, rfl⟩) (by omega) hA
          refine (O.up (u := u) ⟨by rw [p_up_at, p_ud_at], by rw [sm_up_off (by decide), p_ud_off (by decide)]; exact fg.2⟩ (fun k hk => by rw [p_ud_off (by omega)]; exact hu' k hk)).wrap ?_ ?_
          · rw [if_pos ⟨ht, z8⟩] at w8
            rw [S3]
            unfold n_i4
            rw [if_pos y4]
            refine w_b2 w8 ?_
            rw [if_neg n1]
            refine w_lt ?_
            rw [show sm_up (sm_up h 18 7 (nI (i + 1))) 17 4 1 17 1 = nI p by rw [sm_up_off (by decide), e17]; exact G.1, q1, s_true, q2]
            rfl
          · unfold f_mo_readItem
            refine w_b2 rw1 ?_
            rw [if_neg n1]
            refine w_lt ?_
            rw [n_r114, if_neg i0, if_pos i8]
            refine w_lt ?_
            rw [n_u114]
            refine w_lt ?_
            rw [hu 21 (by omega), ← f4, y4, if_pos rfl]
            rfl
        · obtain ⟨h3, a1, a2⟩ := n_sk6 B G Kt P cN0 (by omega) (no2 8 10 (by decide) (by decide) (by decide) z8)
          refine n_wordFail (u3 := upd u2 21 1) (c := 1) (y := u2 13) (q := q) (w := w) ?_ a2 (by rw [p_ud_off (by decide)]; exact u13) u13 (fun k hk => by rw [p_ud_off (by omega)]; exact hu k (Or.inl hk)) ?_
          · rw [S3, n_sk4 B G Kt (Or.inl y4), n_sk5 B G Kt (Or.inr (no2 8 9 (by decide) (by decide) (by decide) z8))]
            exact a1
          · unfold f_mo_readItem
            refine w_b2 rw1 ?_
            rw [if_neg n1]
            refine w_lt ?_
            rw [n_r114, if_neg i0, if_pos i8]
            refine w_lt ?_
            rw [n_u114]
            refine w_lt ?_
            rw [hu 21 (by omega), ← f4, if_neg y4]
            rfl
      · have i8 : ¬ lg_cmp (sm_jn (u2 17) (u2 1017)) 672734388 = 0 := fun y => z8 ((wd 8 (by decide) _ k8).mp y)
        have z8' : ¬ (τ = 1 ∧ W = n_kw 8) := fun y => z8 y.2
        by_cases z9 : W = n_kw 9
        · have i9 := (wd 9 (by decide) _ k9).mpr z9
          have S4 : f_re_item 17 fl h = f_re_item_L144 17 h := by rw [S0, n_sk1 B G Kt P hc.2.2.1 (by omega) (no2 9 1 (by decide) (by decide) (by decide) z9), n_sk2 B G Kt P hc.2.2.2.2.1 (by omega) (no2 9 5 (by decide) (by decide) (by decide) z9), n_sk3 B G Kt P hc.2.2.2.2.2.2.1 (by omega) (no2 9 7 (by decide) (by decide) (by decide) z9), n_sk4 B G Kt (Or.inr z8')]
          by_cases y5 : h 17 5 = 0
          · have O := n_setting (jj := 5) (m := 6) (lo := 0) (hi := 999) (w := w) B RB ((x5.flag 5 (Or.inr rfl) 1).uf (u' := upd u2 22 1) ⟨p_ud_off (by decide), p_ud_off (by decide), p_ud_off (by decide)⟩) (C1.adv (h' := sm_up (sm_up h 18 7 (nI (i + 1))) 17 5 1) (fun o ho => sm_up_ne _ _ _ _ _ (by omega))) (Or.inr ⟨rfl, rfl, rfl, rfl⟩) (by omega) hA
            refine (O.up (u := u) ⟨by rw [sm_up_off (by decide), p_ud_off (by decide)]; exact fg.1, by rw [p_up_at, p_ud_at]⟩ (fun k hk => by rw [p_ud_off (by omega)]; exact hu' k hk)).wrap ?_ ?_
            · rw [if_pos ⟨ht, z9⟩] at w9
              rw [S4]
              unfold f_re_item_L144
              rw [if_pos y5]
              refine w_b2 w9 ?_
              rw [if_neg n1]
              refine w_lt ?_
              rw [show sm_up (sm_up h 18 7 (nI (i + 1))) 17 5 1 17 1 = nI p by rw [sm_up_off (by decide), e17]; exact G.1, q1, s_true, q2]
              rfl
            · unfold f_mo_readItem
              refine w_b2 rw1 ?_
              rw [if_neg n1]
              refine w_lt ?_
              rw [n_r114, if_neg i0, if_neg i8, if_pos i9]
              refine w_lt ?_
              rw [n_u114]
              refine w_lt ?_
              rw [hu 22 (by omega), ← f5, y5, if_pos rfl]
              rfl
          · obtain ⟨h3, a1, a2⟩ := n_sk6 B G Kt P cN0 (by omega) (no2 9 10 (by decide) (by decide) (by decide) z9)
            refine n_wordFail (u3 := upd u2 22 1) (c := 1) (y := u2 13) (q := q) (w := w) ?_ a2 (by rw [p_ud_off (by decide)]; exact u13) u13 (fun k hk => by rw [p_ud_off (by omega)]; exact hu k (Or.inl hk)) ?_
            · rw [S4, n_sk5 B G Kt (Or.inl y5)]
              exact a1
            · unfold f_mo_readItem
              refine w_b2 rw1 ?_
              rw [if_neg n1]
              refine w_lt ?_
              rw [n_r114, if_neg i0, if_neg i8, if_pos i9]
              refine w_lt ?_
              rw [n_u114]
              refine w_lt ?_
              rw [hu 22 (by omega), ← f5, if_neg y5]
              rfl
        · have i9 : ¬ lg_cmp (sm_jn (u2 17) (u2 1017)) 17382886 = 0 := fun y => z9 ((wd 9 (by decide) _ k9).mp y)
          have z9' : ¬ (τ = 1 ∧ W = n_kw 9) := fun y => z9 y.2
          by_cases z1 : W = n_kw 1
          · have i1 := (wd 1 (by decide) _ k1).mpr z1
            obtain ⟨-, t2, t3⟩ := n_takeItem B G Kt P (a := 1) (t := D) (m := 16) (by decide) (by omega) (by decide)
            by_cases y : D < 16
            · refine ((n_damper (w := w) B RB x5 C1 y (by omega) hA).up fg hu').wrap ?_ ?_
              · rw [S0, n_i1, G.1, q1, s_true, q2]
                refine w_lt ?_
                rw [hc.2.2.1]
                refine w_b2 (t2 ⟨ht, z1⟩ y) ?_
                rw [if_neg n1]
              · unfold f_mo_readItem
                refine w_b2 rw1 ?_
                rw [if_neg n1]
                refine w_lt ?_
                rw [n_r114, if_neg i0, if_neg i8, if_neg i9, if_pos i1, s_i1, s_c1, show (114 + 2 : Nat) = 116 from rfl, n_r116, hc.2.2.2.1, if_neg (show ¬ nI D = 16 from fun y2 => absurd ((nI_eq (b := 16) (by omega) (by decide)).mp y2) (by omega))]
                rfl
            · obtain ⟨h3, a1, a2⟩ := t3 ⟨ht, z1⟩ y
              refine n_wordFail (u3 := u2) (c := 3) (y := u2 13) (q := q) (w := w) ?_ a2 u13 u13 (fun k hk => hu k (Or.inl hk)) ?_
              · rw [S0, n_i1, G.1, q1, s_true, q2]
                refine w_lt ?_
                rw [hc.2.2.1]
                refine w_b2 a1 ?_
                rw [if_pos rfl]
                exact n_i2E hp a2
              · unfold f_mo_readItem
                refine w_b2 rw1 ?_
                rw [if_neg n1]
                refine w_lt ?_
                rw [n_r114, if_neg i0, if_neg i8, if_neg i9, if_pos i1, s_i1, s_c1, show (114 + 2 : Nat) = 116 from rfl, n_r116, hc.2.2.2.1, if_pos (show nI D = 16 from (nI_eq (b := 16) (by omega) (by decide)).mpr (by omega))]
                rfl
          · have i1 : ¬ lg_cmp (sm_jn (u2 17) (u2 1017)) 135708850 = 0 := fun y => z1 ((wd 1 (by decide) _ k1).mp y)
            have S1 : f_re_item 17 fl h = n_i2 h := by rw [S0, n_sk1 B G Kt P hc.2.2.1 (by omega) (fun y => z1 y.2)]
            by_cases z5 : W = n_kw 5
            · have i5 := (wd 5 (by decide) _ k5).mpr z5
              obtain ⟨-, t2, t3⟩ := n_takeItem B G Kt P (a := 5) (t := F) (m := 6) (by decide) (by omega) (by decide)
              by_cases y : F < 6
              · refine ((n_fan (w := w) B RB x5 C1 y (by omega) hA).up fg hu').wrap ?_ ?_
                · rw [S1]
                  unfold n_i2
                  rw [G.1, q1, s_true, q2]
                  refine w_lt ?_
                  rw [hc.2.2.2.2.1]
                  refine w_b2 (t2 ⟨ht, z5⟩ y) ?_
                  rw [if_neg n1]
                · unfold f_mo_readItem
                  refine w_b2 rw1 ?_
                  rw [if_neg n1]
                  refine w_lt ?_
                  rw [n_r114, if_neg i0, if_neg i8, if_neg i9, if_neg i1, if_pos i5, s_i2, s_c2, show (114 + 2 : Nat) = 116 from rfl, n_r116, hc.2.2.2.2.2.1, if_neg (show ¬ nI F = 6 from fun y2 => absurd ((nI_eq (b := 6) (by omega) (by decide)).mp y2) (by omega))]
                  rfl
              · obtain ⟨h3, a1, a2⟩ := t3 ⟨ht, z5⟩ y
                refine n_wordFail (u3 := u2) (c := 3) (y := u2 13) (q := q) (w := w) ?_ a2 u13 u13 (fun k hk => hu k (Or.inl hk)) ?_
                · rw [S1]
                  unfold n_i2
                  rw [G.1, q1, s_true, q2]
                  refine w_lt ?_
                  rw [hc.2.2.2.2.1]
                  refine w_b2 a1 ?_
                  rw [if_pos rfl]
                  exact n_i3E hp a2
                · unfold f_mo_readItem
                  refine w_b2 rw1 ?_
                  rw [if_neg n1]
                  refine w_lt ?_
                  rw [n_r114, if_neg i0, if_neg i8, if_neg i9, if_neg i1, if_pos i5, s_i2, s_c2, show (114 + 2 : Nat) = 116 from rfl, n_r116, hc.2.2.2.2.2.1, if_pos (show nI F = 6 from (nI_eq (b := 6) (by omega) (by decide)).mpr (by omega))]
                  rfl
            · have i5 : ¬ lg_cmp (sm_jn (u2 17) (u2 1017)) 6190 = 0 := fun y => z5 ((wd 5 (by decide) _ k5).mp y)
              have S2 : f_re_item 17 fl h = n_i3 h := by rw [S1, n_sk2 B G Kt P hc.2.2.2.2.1 (by omega) (fun y => z5 y.2)]
              by_cases z7 : W = n_kw 7
              · have i7 := (wd 7 (by decide) _ k7).mpr z7
                obtain ⟨-, t2, t3⟩ := n_takeItem B G Kt P (a := 7) (t := R) (m := 10) (by decide) (by omega) (by decide)
                by_cases y : R < 10
                · refine ((n_door (w := w) B RB x5 C1 y (by omega) hA).up fg hu').wrap ?_ ?_
                  · rw [S2]
                    unfold n_i3
                    rw [G.1, q1, s_true, q2]
                    refine w_lt ?_
                    rw [hc.2.2.2.2.2.2.1]
                    refine w_b2 (t2 ⟨ht, z7⟩ y) ?_
                    rw [if_neg n1]
                  · unfold f_mo_readItem
                    refine w_b2 rw1 ?_
                    rw [if_neg n1]
                    refine w_lt ?_
                    rw [n_r114, if_neg i0, if_neg i8, if_neg i9, if_neg i1, if_neg i5, if_pos i7, s_i3, s_c3, show (114 + 2 : Nat) = 116 from rfl, n_r116, hc.2.2.2.2.2.2.2.1, if_neg (show ¬ nI R = 10 from fun y2 => absurd ((nI_eq (b := 10) (by omega) (by decide)).mp y2) (by omega))]
                    rfl
                · obtain ⟨h3, a1, a2⟩ := t3 ⟨ht, z7⟩ y
                  refine n_wordFail (u3 := u2) (c := 3) (y := u2 13) (q := q) (w := w) ?_ a2 u13 u13 (fun k hk => hu k (Or.inl hk)) ?_
                  · rw [S2]
                    unfold n_i3
                    rw [G.1, q1, s_true, q2]
                    refine w_lt ?_
                    rw [hc.2.2.2.2.2.2.1]
                    refine w_b2 a1 ?_
                    rw [if_pos rfl]
                    exact n_i4E hp a2
                  · unfold f_mo_readItem
                    refine w_b2 rw1 ?_
                    rw [if_neg n1]
                    refine w_lt ?_
                    rw [n_r114, if_neg i0, if_neg i8, if_neg i9, if_neg i1, if_neg i5, if_pos i7, s_i3, s_c3, show (114 + 2 : Nat) = 116 from rfl, n_r116, hc.2.2.2.2.2.2.2.1, if_pos (show nI R = 10 from (nI_eq (b := 10) (by omega) (by decide)).mpr (by omega))]
                    rfl
              · have i7 : ¬ lg_cmp (sm_jn (u2 17) (u2 1017)) 146930 = 0 := fun y => z7 ((wd 7 (by decide) _ k7).mp y)
                have S6 : f_re_item 17 fl h = f_re_item_L183 17 h := by rw [S2, n_sk3 B G Kt P hc.2.2.2.2.2.2.1 (by omega) (fun y => z7 y.2), n_sk4 B G Kt (Or.inr z8'), n_sk5 B G Kt (Or.inr z9')]
                by_cases z10 : W = n_kw 10
                · have i10 := (wd 10 (by decide) _ k10).mpr z10
                  obtain ⟨-, t2, t3⟩ := n_takeItem B G Kt P (a := 10) (t := N) (m := 12) (by decide) (by omega) (by decide)
                  by_cases y : N < 12
                  · refine ((n_rule2 (w := w) B RB x5 C1 (by omega) hA (by omega)).up fg hu').wrap ?_ ?_
                    · rw [S6]
                      unfold f_re_item_L183
                      rw [G.1, q1, s_true, q2]
                      refine w_lt ?_
                      rw [cN0]
                      refine w_b2 (t2 ⟨ht, z10⟩ y) ?_
                      rw [if_neg n1]
                    · unfold f_mo_readItem
                      refine w_b2 rw1 ?_
                      rw [if_neg n1]
                      refine w_lt ?_
                      rw [n_r114, if_neg i0, if_neg i8, if_neg i9, if_neg i1, if_neg i5, if_neg i7, if_pos i10, s_i4, s_c4, show (114 + 2 : Nat) = 116 from rfl, n_r116, cN4, if_neg (show ¬ nI N = 12 from fun y2 => absurd ((nI_eq (b := 12) (by omega) (by decide)).mp y2) (by omega))]
                      rfl
                  · obtain ⟨h3, a1, a2⟩ := t3 ⟨ht, z10⟩ y
                    refine n_wordFail (u3 := u2) (c := 3) (y := u2 13) (q := q) (w := w) ?_ a2 u13 u13 (fun k hk => hu k (Or.inl hk)) ?_
                    · rw [S6]
                      unfold f_re_item_L183
                      rw [G.1, q1, s_true, q2]
                      refine w_lt ?_
                      rw [cN0]
                      refine w_b2 a1 ?_
                      rw [if_pos rfl]
                      refine w_bd (n_failE a2 1) ?_
                      exact n_L216E a2
                    · unfold f_mo_readItem
                      refine w_b2 rw1 ?_
                      rw [if_neg n1]
                      refine w_lt ?_
                      rw [n_r114, if_neg i0, if_neg i8, if_neg i9, if_neg i1, if_neg i5, if_neg i7, if_pos i10, s_i4, s_c4, show (114 + 2 : Nat) = 116 from rfl, n_r116, cN4, if_pos (show nI N = 12 from (nI_eq (b := 12) (by omega) (by decide)).mpr (by omega))]
                      rfl
                · have i10 : ¬ lg_cmp (sm_jn (u2 17) (u2 1017)) 611717 = 0 := fun y => z10 ((wd 10 (by decide) _ k10).mp y)
                  obtain ⟨h3, a1, a2⟩ := n_sk6 B G Kt P cN0 (by omega) (fun y => z10 y.2)
                  refine n_wordFail (u3 := u2) (c := 1) (y := u2 13) (q := q) (w := w) ?_ a2 u13 u13 (fun k hk => hu k (Or.inl hk)) ?_
                  · rw [S6]
                    exact a1
                  · unfold f_mo_readItem
                    refine w_b2 rw1 ?_
                    rw [if_neg n1]
                    refine w_lt ?_
                    rw [n_r114, if_neg i0, if_neg i8, if_neg i9, if_neg i1, if_neg i5, if_neg i7, if_neg i10]
                    rfl
  · obtain ⟨u1, p1, p2⟩ := n_see0 (g := g) (q := q) (w := w) RB Y1 ht
    have nw : ∀ a, ¬ (τ = 1 ∧ W = n_kw a) := fun a y => ht y.1
    obtain ⟨h3, a1, a2⟩ := n_sk6 B G Kt P cN0 (by omega) (nw 10)
    refine ⟨h3, ?_, Or.inr ⟨u1, q, w, Or.inl ⟨?_, rfl⟩, 1, s, a2, p2⟩⟩
    · rw [n_sk0 B G Kt fl (Or.inr (nw 0)), n_sk1 B G Kt P hc.2.2.1 (by omega) (nw 1), n_sk2 B G Kt P hc.2.2.2.2.1 (by omega) (nw 5), n_sk3 B G Kt P hc.2.2.2.2.2.2.1 (by omega) (nw 7), n_sk4 B G Kt (Or.inr (nw 8)), n_sk5 B G Kt (Or.inr (nw 9))]
      exact a1
    · unfold f_mo_readItem
      refine w_b2 (v := 0) (g := n_rr g u1 q w) ?_ ?_
      · unfold f_mo_readWord
        refine w_b2 p1 ?_
        rw [if_pos rfl]
      · rw [if_pos rfl]
end n_itm2
