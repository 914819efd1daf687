-- LOAD: A NEW STATE IS IN THE RELATION
section n_frs
variable {b : Nat → Nat} {L T p D i j Z F R N K A : Nat} {g h0 h h' : sm_H} {u q w : Nat → Int32}
theorem n_SOn (C : p_CT Z D F R) (Pd : p_Pd Z D p h0 w) (Pf : p_Pf D F p h0 w) (S : n_S0 p D h0 h) (Q : n_Q0 D w q) (j : Nat) : p_SO Z D F R 40 h q w j := by
  obtain ⟨c1, c2, c3, c4, c5⟩ := C
  obtain ⟨⟨s0, s1, s2, s3, s4, s5, s6, s7, s8⟩, sa, sb, sc, sd, ⟨se0, se1, se2, se3⟩, sf⟩ := S
  obtain ⟨t2, t7, td, t0⟩ := Q
  have pos : ∀ d, d < D → ∃ P r, P ≤ r ∧ r ≤ 30 ∧ h 43 d = nI P ∧ q (42 + 7 * d) = nI P ∧ w (12 + 4 * d) = nI r := by
    intro d hd
    obtain ⟨k, z, r, e1, e2, e3, e4, e5, e6, e7, e8, e9, ea, eb⟩ := Pd d hd
    have q42 := (td d hd).1
    have c43 := sc d hd
    cases hb : sm_bt (h0 p 6) d
    · rw [hb, if_neg (by decide)] at c43
      rw [eb, hb, if_neg (show ¬ sm_b2i false = 1 by decide)] at q42
      exact ⟨0, r, Nat.zero_le _, e4, c43, q42, ea⟩
    · rw [hb, if_pos rfl, e9] at c43
      rw [eb, hb, if_pos (show sm_b2i true = 1 by decide), ea] at q42
      exact ⟨r, r, Nat.le_refl _, e4, c43, q42, ea⟩
  have zz : ∀ k, k < 350 → k ≠ 2 → k ≠ 7 → (k < 42 ∨ 154 ≤ k) → q k = 0 := fun k a1 a2 a3 a4 => t0 k a1 a2 a3 (fun d hd => ⟨by omega, by omega⟩)
  have bt0 : ∀ k, sm_b2i (sm_bt 0 k) = 0 := fun k => by rw [sm_bt0]; rfl
  refine ⟨0, ⟨fun o k m e => ?_, fun o k b m e => ?_, fun d hd => ?_, 0, ?_, ?_, rfl, fun e he => absurd he (Nat.not_lt_zero _)⟩, ⟨Or.inl ?_, 100, by omega, t2⟩, ⟨0, by omega, ?_, by omega⟩, fun d hd => ⟨?_, ⟨0, by omega, ?_⟩, ⟨0, by omega, ?_⟩⟩, fun f hf => ⟨?_, ⟨0, by omega, ?_⟩, ⟨0, by omega, ?_⟩⟩, fun i hi hb => ?_, fun i hi hb => ?_, Or.inl ⟨t7, se0⟩⟩
  · rcases e with ⟨rfl, rfl, rfl⟩ | ⟨rfl, rfl, rfl⟩ | ⟨rfl, rfl, rfl⟩ | ⟨rfl, rfl, rfl⟩ | ⟨rfl, rfl, rfl⟩ | ⟨rfl, rfl, rfl⟩ | ⟨rfl, rfl, rfl⟩ | ⟨rfl, rfl, rfl⟩ | ⟨rfl, k1, rfl⟩ | ⟨rfl, k1, rfl⟩ | ⟨rfl, k1, rfl⟩ | ⟨rfl, k1, rfl⟩ | ⟨rfl, k1, rfl⟩ | ⟨rfl, k1, rfl⟩ | ⟨rfl, k1, k2, rfl⟩ | ⟨rfl, k1, k2, rfl⟩ | ⟨rfl, k1, k2, rfl⟩ | ⟨rfl, k1, k2, rfl⟩
    · rw [zz 0 (by omega) (by omega) (by omega) (by omega)]; exact s1
    · rw [zz 1 (by omega) (by omega) (by omega) (by omega)]; exact s2
    · rw [zz 3 (by omega) (by omega) (by omega) (by omega)]; exact s3
    · rw [t2]; exact s4
    · rw [zz 4 (by omega) (by omega) (by omega) (by omega)]; exact s5
    · rw [zz 5 (by omega) (by omega) (by omega) (by omega)]; exact (sb 22 (by omega)).2.2.2
    · rw [t7]; exact se2
    · rw [zz 8 (by omega) (by omega) (by omega) (by omega)]; exact se3
    · rw [zz (10 + 4 * k) (by omega) (by omega) (by omega) (by omega)]; exact (sa k (by omega)).1
    · rw [zz (11 + 4 * k) (by omega) (by omega) (by omega) (by omega)]; exact (sa k (by omega)).2
    · obtain ⟨P, r, e1, e2, e3, e4, e5⟩ := pos k k1
      rw [e4]; exact e3
    · rw [t0 (44 + 7 * k) (by omega) (by omega) (by omega) (fun d hd => ⟨by omega, by omega⟩)]; exact (sb k (by omega)).1
    · rw [t0 (45 + 7 * k) (by omega) (by omega) (by omega) (fun d hd => ⟨by omega, by omega⟩)]; exact (sb k (by omega)).2.1
    · rw [t0 (47 + 7 * k) (by omega) (by omega) (by omega) (fun d hd => ⟨by omega, by omega⟩)]; exact (sb k (by omega)).2.2.2
    · rw [zz (154 + 6 * (k - 16)) (by omega) (by omega) (by omega) (by omega)]; exact sd k (by omega) (by omega)
    · rw [zz (156 + 6 * (k - 16)) (by omega) (by omega) (by omega) (by omega)]; exact (sb k (by omega)).1
    · rw [zz (157 + 6 * (k - 16)) (by omega) (by omega) (by omega) (by omega)]; exact (sb k (by omega)).2.1
    · rw [zz (158 + 6 * (k - 16)) (by omega) (by omega) (by omega) (by omega)]; exact (sb k (by omega)).2.2.2
  · rcases e with ⟨rfl, rfl, rfl, rfl⟩ | ⟨rfl, rfl, k1, rfl⟩ | ⟨rfl, rfl, k1, rfl⟩ | ⟨rfl, rfl, k1, rfl⟩ | ⟨rfl, rfl, k1, k2, rfl⟩ | ⟨rfl, rfl, k1, rfl⟩ | ⟨rfl, rfl, k1, k2, rfl⟩ | ⟨rfl, rfl, k1, rfl⟩
    · rw [zz 6 (by omega) (by omega) (by omega) (by omega), show h (40 + 0) 8 = 0 from s8, bt0]
    · rw [zz (12 + 4 * b) (by omega) (by omega) (by omega) (by omega), show h (40 + 8) 0 = 0 from se0, bt0]
    · rw [zz (13 + 4 * b) (by omega) (by omega) (by omega) (by omega), show h (40 + 8) 1 = 0 from se1, bt0]
    · rw [t0 (43 + 7 * b) (by omega) (by omega) (by omega) (fun d hd => ⟨by omega, by omega⟩), show h (40 + 0) 7 = 0 from s7, bt0]
    · rw [zz (155 + 6 * (b - 16)) (by omega) (by omega) (by omega) (by omega), show h (40 + 0) 7 = 0 from s7, bt0]
    · rw [t0 (48 + 7 * b) (by omega) (by omega) (by omega) (fun d hd => ⟨by omega, by omega⟩), show h (40 + 0) 8 = 0 from s8, bt0]
    · rw [zz (159 + 6 * (b - 16)) (by omega) (by omega) (by omega) (by omega), show h (40 + 0) 8 = 0 from s8, bt0]
    · rw [zz (190 + b) (by omega) (by omega) (by omega) (by omega), show h (40 + 0) 6 = 0 from s6, bt0]
  · exact Or.inl ⟨(sb d (by omega)).2.2.1, (td d hd).2⟩
  · exact sf
  · exact zz 9 (by omega) (by omega) (by omega) (by omega)
  · exact zz 1 (by omega) (by omega) (by omega) (by omega)
  · exact zz 0 (by omega) (by omega) (by omega) (by omega)
  · obtain ⟨P, r, e1, e2, e3, e4, e5⟩ := pos d hd
    exact ⟨P, r, e4, e5, e1, e2⟩
  · exact t0 (44 + 7 * d) (by omega) (by omega) (by omega) (fun d hd => ⟨by omega, by omega⟩)
  · exact t0 (45 + 7 * d) (by omega) (by omega) (by omega) (fun d hd => ⟨by omega, by omega⟩)
  · obtain ⟨k, v, r, e1, e2, e3, e4, e5, e6, e7, e8, e9, ea, eb, -⟩ := Pf f hf
    exact ⟨0, r, zz (154 + 6 * f) (by omega) (by omega) (by omega) (by omega), eb, Nat.zero_le _, e5⟩
  · exact zz (156 + 6 * f) (by omega) (by omega) (by omega) (by omega)
  · exact zz (157 + 6 * f) (by omega) (by omega) (by omega) (by omega)
  · rw [show h (40 + 8) 0 = 0 from se0, sm_bt0] at hb
    cases hb
  · rw [s8, sm_bt0] at hb
    cases hb
-- the plan read is a plan
theorem n_IT.PL (C : n_IT Z D F R N K A p h q) {q2 : Nat → Int32} (e : ∀ k, k < 1268 → q2 k = q k) : p_PL Z D F R p h q2 := by
  obtain ⟨⟨⟨c1, c2, c3, c4, c5⟩, x2, x3, x4, x5, -⟩, ⟨m1, m2, m3, m4, m5, m6, m7⟩, ⟨C0, B0, l1, l2, l3, l4, l5⟩, k1, k2, k3, k4, -⟩ := C
  replace k1 : K ≤ 300 := k1
  replace k2 : h (p + 9) 1 = nI K := k2
  refine ⟨⟨c1, c2, c3, c4, c5⟩, ?_, fun d hd => ?_, fun f hf => ?_, fun r hr => ?_, N, K, A, m1, k1, m2, m3, by rw [e 4 (by omega)]; exact m4, k2, by rw [e 8 (by omega)]; exact k3, m5, by rw [e 7 (by omega)]; exact m6, ⟨C0, B0, l1, l2, fun r hr => ?_⟩, fun k hk => ?_, fun a ha => ?_⟩
  · unfold p_Pc at x2 ⊢
    rw [e 0 (by omega), e 1 (by omega), e 2 (by omega), e 3 (by omega), e 5 (by omega), e 6 (by omega)]
    exact x2
  · rw [e (10 + 4 * d) (by omega), e (11 + 4 * d) (by omega), e (12 + 4 * d) (by omega), e (13 + 4 * d) (by omega)]
    exact x3 d hd
  · rw [e (74 + 4 * f) (by omega), e (75 + 4 * f) (by omega), e (76 + 4 * f) (by omega), e (77 + 4 * f) (by omega)]
    exact x4 f hf
  · rw [e (98 + 3 * r) (by omega), e (99 + 3 * r) (by omega), e (100 + 3 * r) (by omega)]
    exact x5 r hr
  · rw [e (128 + 4 * r) (by omega), e (129 + 4 * r) (by omega), e (130 + 4 * r) (by omega), e (131 + 4 * r) (by omega)]
    exact l5 r hr
  · rw [e (176 + 2 * k) (by omega), e (177 + 2 * k) (by omega)]
    exact k4 k hk
  · rw [e (1076 + 2 * a) (by omega), e (1077 + 2 * a) (by omega)]
    exact m7 a ha
theorem n_rr_self (g : sm_H) : n_rr g (g 114) (g 116) (g 121) = g := by
  funext r
  by_cases a : r = 114
  · rw [a, n_r114]
  · by_cases b : r = 116
    · rw [b, n_r116]
    · by_cases c : r = 121
      · rw [c, n_r121]
      · rw [n_roff ⟨a, b, c⟩]
end n_frs
