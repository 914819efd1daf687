-- LOAD: WHAT AN ITEM OF THE PLAN CHANGES
theorem n_oka_mono {Z D F D' F' : Nat} {a v : Int32} (h : p_oka Z D F a v) (hD : D ≤ D') (hF : F ≤ F') : p_oka Z D' F' a v := by
  rcases h with ⟨d, d1, d2⟩ | ⟨d, d1, d2⟩ | ⟨d, d1, d2⟩
  · exact Or.inl ⟨d, by omega, d2⟩
  · exact Or.inr (Or.inl ⟨d, by omega, d2⟩)
  · exact Or.inr (Or.inr ⟨d, d1, d2⟩)
theorem n_okc_mono {Z R F R' F' : Nat} {a v : Int32} (h : p_okc Z R F a v) (hR : R ≤ R') (hF : F ≤ F') : p_okc Z R' F' a v := by
  rcases h with ⟨z, z1, z2⟩ | ⟨z, z1, z2⟩ | z | ⟨z, z1, z2⟩ | z
  · exact Or.inl ⟨z, z1, z2⟩
  · exact Or.inr (Or.inl ⟨z, by omega, z2⟩)
  · exact Or.inr (Or.inr (Or.inl z))
  · exact Or.inr (Or.inr (Or.inr (Or.inl ⟨z, by omega, z2⟩)))
  · exact Or.inr (Or.inr (Or.inr (Or.inr z)))
theorem n_wf_mono {Z R F R' F' i j : Nat} {c : Nat → Int32 × Int32} (h : p_wf Z R F c i j) (hR : R ≤ R') (hF : F ≤ F') : p_wf Z R' F' c i j := by
  obtain ⟨H, H0, H1, H2⟩ := h
  refine ⟨H, H0, H1, fun k k1 k2 => ?_⟩
  obtain ⟨a1, a2⟩ := H2 k k1 k2
  refine ⟨a1, ?_⟩
  rcases a2 with ⟨a2, a3⟩ | a2
  · exact Or.inl ⟨n_okc_mono a2 hR hF, a3⟩
  · exact Or.inr a2
section n_items
variable {Z D F R N K A p k z r v : Nat} {h h' : sm_H} {q q' : Nat → Int32} {o : Bool}
theorem n_PU.mono {R' F' : Nat} (P : n_PU Z F R N K A p h q) (hR : R ≤ R') (hF : F ≤ F') : n_PU Z F' R' N K A p h q := by
  obtain ⟨C, B, c1, c2, c3, c4, c5⟩ := P
  refine ⟨C, B, c1, c2, c3, c4, fun r hr => ?_⟩
  obtain ⟨d1, d2, d3, d4, d5, d6, d7, d8, d9, da, db⟩ := c5 r hr
  exact ⟨d1, d2, d3, d4, d5, d6, d7, d8, d9, da, n_wf_mono db hR hF⟩
theorem n_PN.mono {D' F' : Nat} (P : n_PN Z D F N A p h q) (hD : D ≤ D') (hF : F ≤ F') : n_PN Z D' F' N A p h q := by
  obtain ⟨t1, t2, t3, t4, t5, t6, t7⟩ := P
  refine ⟨t1, t2, t3, t4, t5, t6, fun a ha => ?_⟩
  obtain ⟨a1, a2, a3⟩ := t7 a ha
  exact ⟨a1, a2, n_oka_mono a3 hD hF⟩
theorem n_PK.keep {X : List Nat} (P : n_PK K X p h q) (e9 : h' (p + 9) = h (p + 9)) (e10 : h' (p + 10) = h (p + 10)) (e11 : h' (p + 11) = h (p + 11)) (e : ∀ k, k = 8 ∨ (176 ≤ k ∧ k < 776) → q' k = q k) : n_PK K X p h' q' := by
  obtain ⟨k1, k2, k3, k4, k5⟩ := P
  refine ⟨k1, by rw [e9]; exact k2, by rw [e 8 (Or.inl rfl)]; exact k3, fun k hk => ?_, fun j hj => by rw [e10, e11]; exact k5 j hj⟩
  rw [e10, e11, e _ (Or.inr ⟨by omega, by omega⟩), e _ (Or.inr ⟨by omega, by omega⟩)]
  exact k4 k hk
-- rules, actions and codes while other things change
theorem n_IT.rest {D' F' R' : Nat} (C : n_IT Z D F R N K A p h q) (hD : D ≤ D') (hF : F ≤ F') (hR : R ≤ R') (e : ∀ o, 9 ≤ o → o ≤ 15 → h' (p + o) = h (p + o)) (eq : ∀ k, k = 4 ∨ k = 7 ∨ k = 8 ∨ 128 ≤ k → q' k = q k) : n_PN Z D' F' N A p h' q' ∧ n_PU Z F' R' N K A p h' q' ∧ n_PK K [] p h' q' := by
  obtain ⟨s1, s2, s3, s4⟩ := C
  refine ⟨(s2.mono hD hF).keep ⟨e 13 (by omega) (by omega), e 14 (by omega) (by omega)⟩ ⟨by rw [e 9 (by omega) (by omega)], by rw [e 9 (by omega) (by omega)]⟩ ⟨eq 4 (by omega), eq 7 (by omega)⟩ (fun k a1 a2 => eq k (by omega)), (s3.mono hR hF).keep ⟨e 12 (by omega) (by omega), e 15 (by omega) (by omega)⟩ (fun k hk => ⟨by rw [e 10 (by omega) (by omega)], by rw [e 11 (by omega) (by omega)]⟩) (fun k a1 a2 => eq k (by omega)), s4.keep (e 9 (by omega) (by omega)) (e 10 (by omega) (by omega)) (e 11 (by omega) (by omega)) (fun k hk => eq k (by omega))⟩
-- a damper more
theorem n_IT.damper (C : n_IT Z D F R N K A p h q) (hD : D < 16) (hk : k ≤ 1) (hz : z < Z) (r1 : 1 ≤ r) (r2 : r ≤ 30) (a1 : h' p 1 = nI (D + 1)) (a6 : h' p 6 = sm_wb (h p 6) D o) (a0 : ∀ j, j ≠ 1 → j ≠ 6 → h' p j = h p j) (b1 : h' (p + 1) D = nI k) (b3 : h' (p + 3) D = nI z) (b2 : h' (p + 2) D = nI r) (b0 : ∀ j, j ≠ D → h' (p + 1) j = h (p + 1) j ∧ h' (p + 3) j = h (p + 3) j ∧ h' (p + 2) j = h (p + 2) j) (e : ∀ r, r ≠ p → r ≠ p + 1 → r ≠ p + 2 → r ≠ p + 3 → h' r = h r) (c1 : q' 1 = nI (D + 1)) (c2 : q' (10 + 4 * D) = nI k) (c3 : q' (11 + 4 * D) = nI z) (c4 : q' (12 + 4 * D) = nI r) (c5 : q' (13 + 4 * D) = sm_b2i o) (c0 : ∀ j, j ≠ 1 → (j < 10 + 4 * D ∨ 13 + 4 * D < j) → q' j = q j) : n_IT Z (D + 1) F R N K A p h' q' := by
  obtain ⟨t1, t2, t3⟩ := C.rest (h' := h') (q' := q') (D' := D + 1) (F' := F) (R' := R) (by omega) (Nat.le_refl _) (Nat.le_refl _) (fun o o1 o2 => e _ (by omega) (by omega) (by omega) (by omega)) (fun k hk => c0 k (by omega) (by omega))
  obtain ⟨⟨⟨y1, y2, y3, y4, y5⟩, x2, x3, x4, x5, x6, x7⟩, -⟩ := C
  refine ⟨⟨⟨y1, y2, by omega, y4, y5⟩, ?_, fun d hd => ?_, fun f hf => ?_, fun j hj => ?_, fun d d1 d2 => ?_, fun f f1 f2 => ?_⟩, t1, t2, t3⟩
  · obtain ⟨p1, p2, p3, p4, p5, p6, p7, p8, p9⟩ := x2
    unfold p_Pc
    rw [a0 0 (by decide) (by decide), a0 2 (by decide) (by decide), a0 3 (by decide) (by decide), a0 4 (by decide) (by decide), a0 5 (by decide) (by decide), c0 0 (by decide) (by omega), c0 2 (by decide) (by omega), c0 3 (by decide) (by omega), c0 5 (by decide) (by omega), c0 6 (by decide) (by omega)]
    exact ⟨p1, p2, a1, c1, p5, p6, p7, p8, p9⟩
  · by_cases y : d = D
    · subst y
      exact ⟨k, z, r, hk, hz, r1, r2, b1, c2, b3, c3, b2, c4, by rw [c5, a6, sm_bt_wb _ _ _ _ (by omega) (by omega), if_pos rfl]⟩
    · rw [(b0 d y).1, (b0 d y).2.1, (b0 d y).2.2, c0 (10 + 4 * d) (by omega) (by omega), c0 (11 + 4 * d) (by omega) (by omega), c0 (12 + 4 * d) (by omega) (by omega), c0 (13 + 4 * d) (by omega) (by omega), a6, sm_bt_wb _ _ _ _ (by omega) (by omega), if_neg y]
      exact x3 d (by omega)
  · obtain ⟨k, v, r, m1, m2, m3, m4, m5, m6, m7, m8, m9, ma, mb, mc, md⟩ := x4 f hf
    rw [(b0 (16 + f) (by omega)).1, (b0 (16 + f) (by omega)).2.2, e (p + 4) (by omega) (by omega) (by omega) (by omega), e (p + 5) (by omega) (by omega) (by omega) (by omega), c0 (74 + 4 * f) (by omega) (by omega), c0 (75 + 4 * f) (by omega) (by omega), c0 (76 + 4 * f) (by omega) (by omega), c0 (77 + 4 * f) (by omega) (by omega)]
    refine ⟨k, v, r, m1, m2, m3, m4, m5, m6, m7, m8, m9, ma, mb, mc, fun d d1 d2 => ?_⟩
    obtain ⟨n1, n2⟩ := md d d1 d2
    exact ⟨by omega, by rw [(b0 d (by omega)).1]; exact n2⟩
  · rw [e (p + 6) (by omega) (by omega) (by omega) (by omega), e (p + 7) (by omega) (by omega) (by omega) (by omega), e (p + 8) (by omega) (by omega) (by omega) (by omega), c0 (98 + 3 * j) (by omega) (by omega), c0 (99 + 3 * j) (by omega) (by omega), c0 (100 + 3 * j) (by omega) (by omega)]
    exact x5 j hj
  · rw [c0 (13 + 4 * d) (by omega) (by omega)]
    exact x6 d (by omega) d2
  · rw [c0 (77 + 4 * f) (by omega) (by omega)]
    exact x7 f f1 f2
-- a fan more
theorem n_IT.fan {l : Int32} (C : n_IT Z D F R N K A p h q) (hF : F < 6) (hk : k ≤ 2) (v1 : 1 ≤ v) (v2 : v ≤ 999) (r1 : 1 ≤ r) (r2 : r ≤ 30) (hl : ∀ d, d < 32 → sm_bt l d = true → d < D ∧ h (p + 1) d = nI k) (a1 : h' p 2 = nI (F + 1)) (a0 : ∀ j, j ≠ 2 → h' p j = h p j) (b1 : h' (p + 1) (16 + F) = nI k) (b2 : h' (p + 2) (16 + F) = nI r) (b4 : h' (p + 4) F = nI v) (b5 : h' (p + 5) F = l) (b0 : ∀ j, j ≠ 16 + F → h' (p + 1) j = h (p + 1) j ∧ h' (p + 2) j = h (p + 2) j) (b6 : ∀ j, j ≠ F → h' (p + 4) j = h (p + 4) j ∧ h' (p + 5) j = h (p + 5) j) (e : ∀ r, r ≠ p → r ≠ p + 1 → r ≠ p + 2 → r ≠ p + 4 → r ≠ p + 5 → h' r = h r) (c1 : q' 2 = nI (F + 1)) (c2 : q' (74 + 4 * F) = nI k) (c3 : q' (75 + 4 * F) = nI v) (c4 : q' (76 + 4 * F) = nI r) (c5 : q' (77 + 4 * F) = l) (c0 : ∀ j, j ≠ 2 → (j < 74 + 4 * F ∨ 77 + 4 * F < j) → q' j = q j) : n_IT Z D (F + 1) R N K A p h' q' := by
  obtain ⟨t1, t2, t3⟩ := C.rest (h' := h') (q' := q') (D' := D) (F' := F + 1) (R' := R) (Nat.le_refl _) (by omega) (Nat.le_refl _) (fun o o1 o2 => e _ (by omega) (by omega) (by omega) (by omega) (by omega)) (fun k hk => c0 k (by omega) (by omega))
  obtain ⟨⟨⟨y1, y2, y3, y4, y5⟩, x2, x3, x4, x5, x6, x7⟩, -⟩ := C
  refine ⟨⟨⟨y1, y2, y3, by omega, y5⟩, ?_, fun d hd => ?_, fun f hf => ?_, fun j hj => ?_, fun d d1 d2 => ?_, fun f f1 f2 => ?_⟩, t1, t2, t3⟩
  · obtain ⟨p1, p2, p3, p4, p5, p6, p7, p8, p9⟩ := x2
    unfold p_Pc
    rw [a0 0 (by decide), a0 1 (by decide), a0 3 (by decide), a0 4 (by decide), a0 5 (by decide), c0 0 (by decide) (by omega), c0 1 (by decide) (by omega), c0 3 (by decide) (by omega), c0 5 (by decide) (by omega), c0 6 (by decide) (by omega)]
    exact ⟨p1, p2, p3, p4, a1, c1, p7, p8, p9⟩
  · rw [(b0 d (by omega)).1, (b0 d (by omega)).2, e (p + 3) (by omega) (by omega) (by omega) (by omega) (by omega), c0 (10 + 4 * d) (by omega) (by omega), c0 (11 + 4 * d) (by omega) (by omega), c0 (12 + 4 * d) (by omega) (by omega), c0 (13 + 4 * d) (by omega) (by omega), a0 6 (by decide)]
    exact x3 d hd
  · by_cases y : f = F
    · subst y
      refine ⟨k, v, r, hk, v1, v2, r1, r2, b1, c2, b4, c3, b2, c4, by rw [b5, c5], fun d d1 d2 => ?_⟩
      rw [b5] at d2
      obtain ⟨n1, n2⟩ := hl d d1 d2
      exact ⟨n1, by rw [(b0 d (by omega)).1]; exact n2⟩
    · obtain ⟨k, v, r, m1, m2, m3, m4, m5, m6, m7, m8, m9, ma, mb, mc, md⟩ := x4 f (by omega)
      rw [(b0 (16 + f) (by omega)).1, (b0 (16 + f) (by omega)).2, (b6 f y).1, (b6 f y).2, c0 (74 + 4 * f) (by omega) (by omega), c0 (75 + 4 * f) (by omega) (by omega), c0 (76 + 4 * f) (by omega) (by omega), c0 (77 + 4 * f) (by omega) (by omega)]
      refine ⟨k, v, r, m1, m2, m3, m4, m5, m6, m7, m8, m9, ma, mb, mc, fun d d1 d2 => ?_⟩
      obtain ⟨n1, n2⟩ := md d d1 d2
      exact ⟨n1, by rw [(b0 d (by omega)).1]; exact n2⟩
  · rw [e (p + 6) (by omega) (by omega) (by omega) (by omega) (by omega), e (p + 7) (by omega) (by omega) (by omega) (by omega) (by omega), e (p + 8) (by omega) (by omega) (by omega) (by omega) (by omega), c0 (98 + 3 * j) (by omega) (by omega), c0 (99 + 3 * j) (by omega) (by omega), c0 (100 + 3 * j) (by omega) (by omega)]
    exact x5 j hj
  · rw [c0 (13 + 4 * d) (by omega) (by omega)]
    exact x6 d d1 d2
  · rw [c0 (77 + 4 * f) (by omega) (by omega)]
    exact x7 f (by omega) f2
-- a door more
theorem n_IT.door {a y : Nat} (C : n_IT Z D F R N K A p h q) (hR : R < 10) (hz : z < Z) (z1 : 1 ≤ a) (z2 : a ≤ 50) (z3 : 51 ≤ y) (z4 : y ≤ 500) (a1 : h' p 3 = nI (R + 1)) (a0 : ∀ j, j ≠ 3 → h' p j = h p j) (b6 : h' (p + 6) R = nI z) (b7 : h' (p + 7) R = nI a) (b8 : h' (p + 8) R = nI y) (b0 : ∀ j, j ≠ R → h' (p + 6) j = h (p + 6) j ∧ h' (p + 7) j = h (p + 7) j ∧ h' (p + 8) j = h (p + 8) j) (e : ∀ r, r ≠ p → r ≠ p + 6 → r ≠ p + 7 → r ≠ p + 8 → h' r = h r) (c1 : q' 3 = nI (R + 1)) (c2 : q' (98 + 3 * R) = nI z) (c3 : q' (99 + 3 * R) = nI a) (c4 : q' (100 + 3 * R) = nI y) (c0 : ∀ j, j ≠ 3 → (j < 98 + 3 * R ∨ 100 + 3 * R < j) → q' j = q j) : n_IT Z D F (R + 1) N K A p h' q' := by
  obtain ⟨t1, t2, t3⟩ := C.rest (h' := h') (q' := q') (D' := D) (F' := F) (R' := R + 1) (Nat.le_refl _) (Nat.le_refl _) (by omega) (fun o o1 o2 => e _ (by omega) (by omega) (by omega) (by omega)) (fun k hk => c0 k (by omega) (by omega))
  obtain ⟨⟨⟨y1, y2, y3, y4, y5⟩, x2, x3, x4, x5, x6, x7⟩, -⟩ := C
  refine ⟨⟨⟨y1, y2, y3, y4, by omega⟩, ?_, fun d hd => ?_, fun f hf => ?_, fun j hj => ?_, fun d d1 d2 => ?_, fun f f1 f2 => ?_⟩, t1, t2, t3⟩
  · obtain ⟨p1, p2, p3, p4, p5, p6, p7, p8, p9⟩ := x2
    unfold p_Pc
    rw [a0 0 (by decide), a0 1 (by decide), a0 2 (by decide), a0 4 (by decide), a0 5 (by decide), c0 0 (by decide) (by omega), c0 1 (by decide) (by omega), c0 2 (by decide) (by omega), c0 5 (by decide) (by omega), c0 6 (by decide) (by omega)]
    exact ⟨p1, p2, p3, p4, p5, p6, a1, c1, p9⟩
  · rw [e (p + 1) (by omega) (by omega) (by omega) (by omega), e (p + 2) (by omega) (by omega) (by omega) (by omega), e (p + 3) (by omega) (by omega) (by omega) (by omega), c0 (10 + 4 * d) (by omega) (by omega), c0 (11 + 4 * d) (by omega) (by omega), c0 (12 + 4 * d) (by omega) (by omega), c0 (13 + 4 * d) (by omega) (by omega), a0 6 (by decide)]
    exact x3 d hd
  · rw [e (p + 1) (by omega) (by omega) (by omega) (by omega), e (p + 2) (by omega) (by omega) (by omega) (by omega), e (p + 4) (by omega) (by omega) (by omega) (by omega), e (p + 5) (by omega) (by omega) (by omega) (by omega), c0 (74 + 4 * f) (by omega) (by omega), c0 (75 + 4 * f) (by omega) (by omega), c0 (76 + 4 * f) (by omega) (by omega), c0 (77 + 4 * f) (by omega) (by omega)]
    exact x4 f hf
  · by_cases y : j = R
    · subst y
      exact ⟨z, a, _, hz, z1, z2, z3, z4, b6, c2, b7, c3, b8, c4⟩
    · rw [(b0 j y).1, (b0 j y).2.1, (b0 j y).2.2, c0 (98 + 3 * j) (by omega) (by omega), c0 (99 + 3 * j) (by omega) (by omega), c0 (100 + 3 * j) (by omega) (by omega)]
      exact x5 j (by omega)
  · rw [c0 (13 + 4 * d) (by omega) (by omega)]
    exact x6 d d1 d2
  · rw [c0 (77 + 4 * f) (by omega) (by omega)]
    exact x7 f f1 f2
-- the settings
theorem n_IT.set (C : n_IT Z D F R N K A p h q) {j m : Nat} (hv : (j = 4 ∧ m = 5 ∧ 1 ≤ v ∧ v ≤ 200) ∨ (j = 5 ∧ m = 6 ∧ v ≤ 999)) (a1 : h' p j = nI v) (a0 : ∀ l, l ≠ j → h' p l = h p l) (e : ∀ r, r ≠ p → h' r = h r) (c1 : q' m = nI v) (c0 : ∀ l, l ≠ m → q' l = q l) : n_IT Z D F R N K A p h' q' := by
  obtain ⟨t1, t2, t3⟩ := C.rest (h' := h') (q' := q') (D' := D) (F' := F) (R' := R) (Nat.le_refl _) (Nat.le_refl _) (Nat.le_refl _) (fun o o1 o2 => e _ (by omega)) (fun k hk => c0 k (by omega))
  obtain ⟨⟨y0, x2, x3, x4, x5, x6, x7⟩, -⟩ := C
  refine ⟨⟨y0, ?_, fun d hd => ?_, fun f hf => ?_, fun j hj => ?_, fun d d1 d2 => ?_, fun f f1 f2 => ?_⟩, t1, t2, t3⟩
  · obtain ⟨p1, p2, p3, p4, p5, p6, p7, p8, G, w, p9, pa, pb, pc, pd, pe, pf⟩ := x2
    unfold p_Pc
    rw [a0 0 (by omega), a0 1 (by omega), a0 2 (by omega), a0 3 (by omega), c0 0 (by omega), c0 1 (by omega), c0 2 (by omega), c0 3 (by omega)]
    refine ⟨p1, p2, p3, p4, p5, p6, p7, p8, ?_⟩
    rcases hv with ⟨rfl, rfl, v1, v2⟩ | ⟨rfl, rfl, v1⟩
    · exact ⟨v, w, v1, v2, pb, a1, c1, by rw [a0 5 (by decide)]; exact pe, by rw [c0 6 (by decide)]; exact pf⟩
    · exact ⟨G, v, p9, pa, v1, by rw [a0 4 (by decide)]; exact pc, by rw [c0 5 (by decide)]; exact pd, a1, c1⟩
  · rw [e (p + 1) (by omega), e (p + 2) (by omega), e (p + 3) (by omega), c0 (10 + 4 * d) (by omega), c0 (11 + 4 * d) (by omega), c0 (12 + 4 * d) (by omega), c0 (13 + 4 * d) (by omega), a0 6 (by omega)]
    exact x3 d hd
  · rw [e (p + 1) (by omega), e (p + 2) (by omega), e (p + 4) (by omega), e (p + 5) (by omega), c0 (74 + 4 * f) (by omega), c0 (75 + 4 * f) (by omega), c0 (76 + 4 * f) (by omega), c0 (77 + 4 * f) (by omega)]
    exact x4 f hf
  · rw [e (p + 6) (by omega), e (p + 7) (by omega), e (p + 8) (by omega), c0 (98 + 3 * j) (by omega), c0 (99 + 3 * j) (by omega), c0 (100 + 3 * j) (by omega)]
    exact x5 j hj
  · rw [c0 (13 + 4 * d) (by omega)]
    exact x6 d d1 d2
  · rw [c0 (77 + 4 * f) (by omega)]
    exact x7 f f1 f2
theorem n_IT.zones (C : n_IT Z 0 0 0 0 0 0 p h q) (v1 : 1 ≤ v) (v2 : v ≤ 8) (a1 : h' p 0 = nI v) (a0 : ∀ l, l ≠ 0 → h' p l = h p l) (e : ∀ r, r ≠ p → h' r = h r) (c1 : q' 0 = nI v) (c0 : ∀ l, l ≠ 0 → q' l = q l) : n_IT v 0 0 0 0 0 0 p h' q' := by
  obtain ⟨t1, t2, t3⟩ := C.rest (h' := h') (q' := q') (D' := 0) (F' := 0) (R' := 0) (Nat.le_refl _) (Nat.le_refl _) (Nat.le_refl _) (fun o o1 o2 => e _ (by omega)) (fun k hk => c0 k (by omega))
  obtain ⟨⟨y0, x2, x3, x4, x5, x6, x7⟩, -⟩ := C
  obtain ⟨m1, m2, m3, m4, m5, m6, m7⟩ := t1
  obtain ⟨C1, B1, l1, l2, l3, l4, l5⟩ := t2
  refine ⟨⟨⟨v1, v2, by omega, by omega, by omega⟩, ?_, fun d hd => absurd hd (Nat.not_lt_zero _), fun f hf => absurd hf (Nat.not_lt_zero _), fun j hj => absurd hj (Nat.not_lt_zero _), fun d d1 d2 => ?_, fun f f1 f2 => ?_⟩, ⟨m1, m2, m3, m4, m5, m6, fun a ha => absurd ha (Nat.not_lt_zero _)⟩, ⟨C1, B1, l1, l2, l3, l4, fun r hr => absurd hr (Nat.not_lt_zero _)⟩, t3⟩
  · obtain ⟨p1, p2, p3, p4, p5, p6, p7, p8, p9⟩ := x2
    unfold p_Pc
    rw [a0 1 (by decide), a0 2 (by decide), a0 3 (by decide), a0 4 (by decide), a0 5 (by decide), c0 1 (by decide), c0 2 (by decide), c0 3 (by decide), c0 5 (by decide), c0 6 (by decide)]
    exact ⟨a1, c1, p3, p4, p5, p6, p7, p8, p9⟩
  · rw [c0 (13 + 4 * d) (by omega)]
    exact x6 d d1 d2
  · rw [c0 (77 + 4 * f) (by omega)]
    exact x7 f f1 f2
end n_items
