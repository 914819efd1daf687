-- THE WHOLE RELATION between the two sides, and what keeps it
def p_okc (Z R F : Nat) (a b : Int32) : Prop := (∃ z, z < Z ∧ b = nI z ∧ (a = 0 ∨ a = 1)) ∨ (∃ z, z < R ∧ b = nI z ∧ a = 2) ∨ a = 3 ∨ (∃ z, z < F ∧ b = nI z ∧ a = 4) ∨ a = 5
def p_wf (Z R F : Nat) (c : Nat → Int32 × Int32) (i j : Nat) : Prop := ∃ H : Nat → Nat, H i = 0 ∧ H j = 1 ∧ ∀ k, i ≤ k → k < j → H k ≤ 40 ∧ ((p_okc Z R F (c k).1 (c k).2 ∧ H (k + 1) = H k + 1) ∨ ((c k).1 = 6 ∧ 1 ≤ H k ∧ H (k + 1) = H k) ∨ (((c k).1 = 7 ∨ (c k).1 = 8) ∧ 2 ≤ H k ∧ H (k + 1) + 1 = H k))
def p_oka (Z D F : Nat) (a b : Int32) : Prop := (∃ d, d < D ∧ b = nI d ∧ (a = 0 ∨ a = 1)) ∨ (∃ d, d < F ∧ b = nI d ∧ (a = 2 ∨ a = 3)) ∨ (∃ d, d < Z ∧ b = nI d ∧ (a = 4 ∨ a = 5 ∨ a = 6 ∨ a = 7))
-- the plan: rows p .. p + 15 of h, and the row q of the reference
def p_Pc (Z D F R p : Nat) (h : sm_H) (q : Nat → Int32) : Prop := h p 0 = nI Z ∧ q 0 = nI Z ∧ h p 1 = nI D ∧ q 1 = nI D ∧ h p 2 = nI F ∧ q 2 = nI F ∧ h p 3 = nI R ∧ q 3 = nI R ∧ ∃ g w, 1 ≤ g ∧ g ≤ 200 ∧ w ≤ 999 ∧ h p 4 = nI g ∧ q 5 = nI g ∧ h p 5 = nI w ∧ q 6 = nI w
def p_Pd (Z D p : Nat) (h : sm_H) (q : Nat → Int32) : Prop := ∀ d, d < D → ∃ k z r, k ≤ 1 ∧ z < Z ∧ 1 ≤ r ∧ r ≤ 30 ∧ h (p + 1) d = nI k ∧ q (10 + 4 * d) = nI k ∧ h (p + 3) d = nI z ∧ q (11 + 4 * d) = nI z ∧ h (p + 2) d = nI r ∧ q (12 + 4 * d) = nI r ∧ q (13 + 4 * d) = sm_b2i (sm_bt (h p 6) d)
def p_Pf (D F p : Nat) (h : sm_H) (q : Nat → Int32) : Prop := ∀ f, f < F → ∃ k v r, k ≤ 2 ∧ 1 ≤ v ∧ v ≤ 999 ∧ 1 ≤ r ∧ r ≤ 30 ∧ h (p + 1) (16 + f) = nI k ∧ q (74 + 4 * f) = nI k ∧ h (p + 4) f = nI v ∧ q (75 + 4 * f) = nI v ∧ h (p + 2) (16 + f) = nI r ∧ q (76 + 4 * f) = nI r ∧ h (p + 5) f = q (77 + 4 * f) ∧ ∀ d, d < 32 → sm_bt (h (p + 5) f) d = true → d < D ∧ h (p + 1) d = nI k
def p_Pr (Z R p : Nat) (h : sm_H) (q : Nat → Int32) : Prop := ∀ d, d < R → ∃ z a b, z < Z ∧ 1 ≤ a ∧ a ≤ 50 ∧ 51 ≤ b ∧ b ≤ 500 ∧ h (p + 6) d = nI z ∧ q (98 + 3 * d) = nI z ∧ h (p + 7) d = nI a ∧ q (99 + 3 * d) = nI a ∧ h (p + 8) d = nI b ∧ q (100 + 3 * d) = nI b
def p_Pu (Z D F R p : Nat) (h : sm_H) (q : Nat → Int32) : Prop := ∃ N K A, N ≤ 12 ∧ K ≤ 300 ∧ A ≤ 96 ∧ h (p + 9) 0 = nI N ∧ q 4 = nI N ∧ h (p + 9) 1 = nI K ∧ q 8 = nI K ∧ h (p + 9) 2 = nI A ∧ q 7 = nI A ∧
  (∃ C B : Nat → Nat, C 0 = 0 ∧ B 0 = 0 ∧ ∀ r, r < N → C r ≤ C (r + 1) ∧ C (r + 1) ≤ K ∧ B r ≤ B (r + 1) ∧ B (r + 1) ≤ A ∧ q (128 + 4 * r) = nI (C r) ∧ q (129 + 4 * r) = nI (C (r + 1)) ∧ q (130 + 4 * r) = nI (B r) ∧ q (131 + 4 * r) = nI (B (r + 1)) ∧ h (p + 12) r = nI (C (r + 1)) ∧ h (p + 15) r = nI (B (r + 1)) ∧ p_wf Z R F (fun k => (h (p + 10) k, h (p + 11) k)) (C r) (C (r + 1))) ∧
  (∀ k, k < K → h (p + 10) k = q (176 + 2 * k) ∧ h (p + 11) k = q (177 + 2 * k)) ∧ ∀ a, a < A → h (p + 13) a = q (1076 + 2 * a) ∧ h (p + 14) a = q (1077 + 2 * a) ∧ p_oka Z D F (h (p + 13) a) (h (p + 14) a)
def p_PL (Z D F R p : Nat) (h : sm_H) (q : Nat → Int32) : Prop := p_CT Z D F R ∧ p_Pc Z D F R p h q ∧ p_Pd Z D p h q ∧ p_Pf D F p h q ∧ p_Pr Z R p h q ∧ p_Pu Z D F R p h q
theorem p_PL.rows {Z D F R p : Nat} {h h' : sm_H} {q : Nat → Int32} (P : p_PL Z D F R p h q) (e : ∀ o, o ≤ 15 → h' (p + o) = h (p + o)) : p_PL Z D F R p h' q := by
  have e0 : h' p = h p := e 0 (by omega)
  obtain ⟨a1, a2, a3, a4, a5, a6⟩ := P
  refine ⟨a1, ?_, ?_, ?_, ?_, ?_⟩
  · unfold p_Pc at a2 ⊢
    rw [e0]
    exact a2
  · unfold p_Pd at a3 ⊢
    rw [e0, e 1 (by omega), e 2 (by omega), e 3 (by omega)]
    exact a3
  · unfold p_Pf at a4 ⊢
    rw [e 1 (by omega), e 2 (by omega), e 4 (by omega), e 5 (by omega)]
    exact a4
  · unfold p_Pr at a5 ⊢
    rw [e 6 (by omega), e 7 (by omega), e 8 (by omega)]
    exact a5
  · unfold p_Pu at a6 ⊢
    rw [e 9 (by omega), e 10 (by omega), e 11 (by omega), e 12 (by omega), e 13 (by omega), e 14 (by omega), e 15 (by omega)]
    exact a6
-- ranges of a state
def p_RG (Z D F s : Nat) (h : sm_H) (q : Nat → Int32) (w : Nat → Int32) (t j : Nat) : Prop :=
  ((q 1 = 0 ∨ q 1 = 1) ∧ ∃ v, v ≤ 100 ∧ q 2 = nI v) ∧ (∃ x, x ≤ 9999 ∧ q 0 = nI x ∧ t ≤ 64 * x + j) ∧
  (∀ d, d < D → (∃ P T, q (42 + 7 * d) = nI P ∧ w (12 + 4 * d) = nI T ∧ P ≤ T ∧ T ≤ 30) ∧ (∃ v, v ≤ 2 ∧ q (44 + 7 * d) = nI v) ∧ ∃ v, v ≤ 2 ∧ q (45 + 7 * d) = nI v) ∧
  (∀ f, f < F → (∃ P T, q (154 + 6 * f) = nI P ∧ w (76 + 4 * f) = nI T ∧ P ≤ T ∧ T ≤ 30) ∧ (∃ v, v ≤ 2 ∧ q (156 + 6 * f) = nI v) ∧ ∃ v, v ≤ 2 ∧ q (157 + 6 * f) = nI v) ∧
  (∀ j, j < 32 → sm_bt (h (s + 8) 0) j = true → j < Z) ∧ (∀ j, j < 32 → sm_bt (h s 8) j = true → j < D ∨ (16 ≤ j ∧ j < 16 + F) ∨ j = 22) ∧
  ((q 7 = -1 ∧ h (s + 8) 0 = 0) ∨ ∃ z, z < Z ∧ q 7 = nI z ∧ sm_bt (h (s + 8) 0) z = true)
def p_SO (Z D F R s : Nat) (h : sm_H) (q w : Nat → Int32) (j : Nat) : Prop := ∃ t, p_ST Z Z D F R s h q t ∧ p_RG Z D F s h q w t j
theorem p_SO.rows {Z D F R s j : Nat} {h h' : sm_H} {q w : Nat → Int32} (S : p_SO Z D F R s h q w j) (e : ∀ o, o ≤ 12 → h' (s + o) = h (s + o)) : p_SO Z D F R s h' q w j := by
  obtain ⟨t, S1, S2⟩ := S
  refine ⟨t, S1.rows e, ?_⟩
  have e0 : h' s = h s := e 0 (by omega)
  unfold p_RG at S2 ⊢
  rw [e0, e 8 (by omega)]
  exact S2
theorem p_SO.mono {Z D F R s j : Nat} {h : sm_H} {q w : Nat → Int32} (S : p_SO Z D F R s h q w j) : p_SO Z D F R s h q w (j + 6) := by
  obtain ⟨t, S1, S2, ⟨x, x1, x2, x3⟩, S3⟩ := S
  exact ⟨t, S1, S2, ⟨x, x1, x2, by omega⟩, S3⟩
-- the text that is fed
def p_sx (x : Int32) : Int32 := (Int8.ofInt x.toInt).toInt32
def p_TX (h : sm_H) : Prop := ∃ B, B ≤ 900 ∧ h 18 1 = nI B ∧ h 114 9 = nI B ∧ ∀ i, i < B → ∃ v, v < 256 ∧ h 120 i = nI v ∧ h 19 i = (Int8.ofNat v).toInt32
def p_SL (Z D F R p : Nat) (h : sm_H) (j : Nat) : Prop := ∀ k, k < 3 → h 66 k = nI (67 + 13 * k) ∧ h 114 (5 + k) = sm_b2i (sm_bt (h 0 4) k) ∧ (sm_bt (h 0 4) k = true → h (67 + 13 * k) 0 = nI p ∧ p_SO Z D F R (67 + 13 * k) h (fun i => h 119 (350 * k + i)) (h 115) j)
def p_R0 (j p Z D F R : Nat) (h : sm_H) : Prop := (p = 1 ∨ p = 24) ∧ h 40 0 = nI p ∧ h 17 1 = nI (25 - p) ∧ p_PL Z D F R p h (h 115) ∧ p_SO Z D F R 40 h (h 117) (h 115) j ∧ p_SL Z D F R p h j ∧ p_TX h ∧ h 17 2 = h 114 15 ∧ h 17 3 = h 114 16
def p_RR (j : Nat) (h : sm_H) : Prop := ∃ p Z D F R, p_R0 j p Z D F R h
def p_fr (h h' : sm_H) : Prop := (∀ i, i ≤ 39 ∨ (66 ≤ i ∧ i ≤ 105) ∨ i = 115 ∨ i = 119 ∨ i = 120 → h' i = h i) ∧ ∀ k, k ≤ 16 → h' 114 k = h 114 k
theorem p_fr.refl (h : sm_H) : p_fr h h := ⟨fun _ _ => rfl, fun _ _ => rfl⟩
theorem p_fr.trans {h h' h'' : sm_H} (a : p_fr h h') (b : p_fr h' h'') : p_fr h h'' := ⟨fun i z => (b.1 i z).trans (a.1 i z), fun k z => (b.2 k z).trans (a.2 k z)⟩
theorem p_R0.step {j p Z D F R : Nat} {h h' : sm_H} (G : p_R0 j p Z D F R h) (f : p_fr h h') (h0 : h' 40 0 = nI p) (S : p_SO Z D F R 40 h' (h' 117) (h 115) (j + 6)) : p_R0 (j + 6) p Z D F R h' := by
  obtain ⟨g1, g2, g3, g4, g5, g6, g7, g8, g9⟩ := G
  have r115 : h' 115 = h 115 := f.1 115 (by omega)
  have r119 : h' 119 = h 119 := f.1 119 (by omega)
  refine ⟨g1, h0, by rw [f.1 17 (by omega)]; exact g3, ?_, by rw [r115]; exact S, fun k hk => ?_, ?_, by rw [f.1 17 (by omega), f.2 15 (by omega)]; exact g8, by rw [f.1 17 (by omega), f.2 16 (by omega)]; exact g9⟩
  · rw [r115]
    exact g4.rows (fun o ho => f.1 _ (by omega))
  · obtain ⟨a1, a2, a3⟩ := g6 k hk
    rw [f.1 66 (by omega), f.2 (5 + k) (by omega), f.1 0 (by omega)]
    refine ⟨a1, a2, fun z => ?_⟩
    obtain ⟨a4, a5⟩ := a3 z
    rw [f.1 (67 + 13 * k) (by omega), r115, r119]
    exact ⟨a4, (a5.rows (fun o ho => f.1 _ (by omega))).mono⟩
  · unfold p_TX at g7 ⊢
    rw [f.1 18 (by omega), f.2 9 (by omega), f.1 120 (by omega), f.1 19 (by omega)]
    exact g7
theorem p_R0.mono {j p Z D F R : Nat} {h : sm_H} (G : p_R0 j p Z D F R h) : p_R0 (j + 6) p Z D F R h := G.step (p_fr.refl h) G.2.1 G.2.2.2.2.1.mono
theorem p_RR.mono {j : Nat} {h : sm_H} (G : p_RR j h) : p_RR (j + 6) h := by
  obtain ⟨p, Z, D, F, R, g⟩ := G
  exact ⟨p, Z, D, F, R, g.mono⟩
-- a whole number in a range, or out of it
theorem p_idx (x : Int32) (n : Nat) (hn : n < 2 ^ 31) : (∃ k, k < n ∧ x = nI k) ∨ (x < 0 ∨ nI n ≤ x) := by
  by_cases h : x < 0
  · exact Or.inr (Or.inl h)
  · obtain ⟨k, hk, rfl⟩ := nI_of h
    by_cases z : k < n
    · exact Or.inl ⟨k, z, rfl⟩
    · exact Or.inr (Or.inr (nI_le (by omega) hk))
theorem e_inI {k n : Nat} (hk : k < n) (hn : n < 2 ^ 31) (h : sm_H) : f_mo_in (nI k) 0 (nI n - 1) h = some (1, h) := by
  rw [e_in]
  have e : nI n - 1 = nI (n - 1) := nI_sub (b := 1) (by omega)
  have e0 : (0 : Int32) = nI 0 := rfl
  rw [e, e0, decide_eq_true ⟨nI_le (by omega) (by omega), nI_le (by omega) (by omega)⟩]
  rfl
theorem e_inO {x : Int32} {n : Nat} (hx : x < 0 ∨ nI n ≤ x) (hn : n < 2 ^ 31) (h : sm_H) : f_mo_in x 0 (nI n - 1) h = some (0, h) := by
  rw [e_in]
  have : ¬ (0 ≤ x ∧ x ≤ nI n - 1) := by
    intro z
    rcases hx with hx | hx
    · exact absurd hx (Int32.not_lt.mpr z.1)
    · have e : (nI n - 1).toInt = (n : Int) - 1 := by
        cases n with
        | zero => decide
        | succ m =>
          rw [nI_pred, nI_toInt (by omega)]
          omega
      have h1 := Int32.le_iff_toInt_le.mp hx
      have h2 := Int32.le_iff_toInt_le.mp z.2
      rw [nI_toInt hn] at h1
      rw [e] at h2
      omega
  rw [decide_eq_false this]
  rfl
-- which zones, dampers, fans, doors there are: both sides alike
section p_is
variable {p Z D F R : Nat} {h : sm_H} {q : Nat → Int32}
theorem p_isPp (hp : p = 1 ∨ p = 24) : sm_isP (nI p) = true ∧ sm_p (nI p) = p := by rcases hp with rfl | rfl <;> exact ⟨by decide +kernel, by decide +kernel⟩
end p_is
