-- LOAD: CODES IN STEP
def n_CS (Z D F R N Kc A p K : Nat) (X : List Nat) (n : Nat) (h : sm_H) (q : Nat → Int32) : Prop := n_PA Z D F R p h q ∧ n_PN Z D F N A p h q ∧ n_PU Z F R N Kc A p h q ∧ n_PK K X p h q ∧ Kc ≤ K ∧ n_wq Z R F q Kc K n ∧ N ≤ 11 ∧ q (128 + 4 * N) = nI Kc
section n_codes
variable {Z D F R N Kc A p K n m : Nat} {X : List Nat} {h h' : sm_H} {q u w : Nat → Int32} {g : sm_H} {o v : Int32}
theorem n_qe_off {k : Nat} (h8 : k ≠ 8) (h1 : k ≠ 176 + 2 * K) (h2 : k ≠ 177 + 2 * K) : n_qe q K o v k = q k := by
  unfold n_qe
  rw [p_ud_off h8, p_ud_off h2, p_ud_off h1]
theorem n_qe8 : n_qe q K o v 8 = nI (K + 1) := by
  unfold n_qe
  rw [p_ud_at]
theorem n_qe0 : n_qe q K o v (176 + 2 * K) = o := by
  unfold n_qe
  rw [p_ud_off (by omega), p_ud_off (by omega), p_ud_at]
theorem n_qe1 : n_qe q K o v (177 + 2 * K) = v := by
  unfold n_qe
  rw [p_ud_off (by omega), p_ud_at]
theorem n_CS.adv (S : n_CS Z D F R N Kc A p K X n h q) (e : ∀ o, o ≤ 15 → h' (p + o) = h (p + o)) : n_CS Z D F R N Kc A p K X n h' q := by
  obtain ⟨s1, s2, s3, s4, s5, s6, s7⟩ := S
  refine ⟨s1.keep (fun o ho => e o (by omega)) (fun _ _ _ _ _ => rfl), s2.keep ⟨e 13 (by omega), e 14 (by omega)⟩ ⟨by rw [e 9 (by omega)], by rw [e 9 (by omega)]⟩ ⟨rfl, rfl⟩ (fun _ _ _ => rfl), s3.keep ⟨e 12 (by omega), e 15 (by omega)⟩ (fun k _ => ⟨by rw [e 10 (by omega)], by rw [e 11 (by omega)]⟩) (fun _ _ _ => rfl), ?_, s5, s6, s7⟩
  unfold n_PK at s4 ⊢
  rw [e 9 (by omega), e 10 (by omega), e 11 (by omega)]
  exact s4
theorem n_CS.both (hp : p = 1 ∨ p = 24) (S : n_CS Z D F R N Kc A p K [] n h q) (hK : K < 300) (hn : n ≤ 40) (s : (p_okc Z R F o v ∧ m = n + 1) ∨ (o = 6 ∧ 1 ≤ n ∧ m = n) ∨ ((o = 7 ∨ o = 8) ∧ 2 ≤ n ∧ m + 1 = n)) : ∃ h', f_ru_addCode (p + 9) o v h = some h' ∧ n_CS Z D F R N Kc A p (K + 1) [] m h' (n_qe q K o v) ∧ ∀ r, r ≠ p + 9 → r ≠ p + 10 → r ≠ p + 11 → h' r = h r := by
  obtain ⟨s1, s2, s3, s4, s5, s6, s7, s8⟩ := S
  obtain ⟨k1, k2, k3, k4, k5⟩ := s4
  obtain ⟨h', e1, e2, e3, e4, e5, e6, e7⟩ := n_cadd hp k2 hK o v
  refine ⟨h', e1, ⟨s1.keep (fun o ho => e7 _ (by omega) (by omega) (by omega)) (fun k a1 a2 a3 a4 => n_qe_off a4 (by omega) (by omega)), s2.keep ⟨e7 _ (by omega) (by omega) (by omega), e7 _ (by omega) (by omega) (by omega)⟩ ⟨e5 0 (by omega), e5 2 (by omega)⟩ ⟨n_qe_off (by omega) (by omega) (by omega), n_qe_off (by omega) (by omega) (by omega)⟩ (fun k a1 a2 => n_qe_off (by omega) (by omega) (by omega)), s3.keep ⟨e7 _ (by omega) (by omega) (by omega), e7 _ (by omega) (by omega) (by omega)⟩ (fun k hk => e6 k (by omega)) (fun k a1 a2 => n_qe_off (by omega) (by omega) (by omega)), ⟨by rw [List.length_nil]; omega, e2, n_qe8, fun k hk => ?_, fun j hj => absurd hj (Nat.not_lt_zero _)⟩, by omega, s6.push s5 (fun k hk => ⟨n_qe_off (by omega) (by omega) (by omega), n_qe_off (by omega) (by omega) (by omega)⟩) m hn (by rw [n_qe0, n_qe1]; exact s), s7, by rw [n_qe_off (by omega) (by omega) (by omega)]; exact s8⟩, e7⟩
  by_cases z : k = K
  · rw [z, n_qe0, n_qe1]
    exact ⟨e3, e4⟩
  · rw [(e6 k z).1, (e6 k z).2, n_qe_off (by omega) (by omega) (by omega), n_qe_off (by omega) (by omega) (by omega)]
    exact k4 k (by omega)
theorem n_CS.cls (hp : p = 1 ∨ p = 24) (S : n_CS Z D F R N Kc A p K X n h q) (hK : K + X.length < 300) (x : Nat) : ∃ h', f_ru_addCode (p + 9) (nI x) 0 h = some h' ∧ n_CS Z D F R N Kc A p K (X ++ [x]) n h' q ∧ ∀ r, r ≠ p + 9 → r ≠ p + 10 → r ≠ p + 11 → h' r = h r := by
  obtain ⟨s1, s2, s3, s4, s5, s6, s7⟩ := S
  obtain ⟨k1, k2, k3, k4, k5⟩ := s4
  obtain ⟨h', e1, e2, e3, e4, e5, e6, e7⟩ := n_cadd hp k2 hK (nI x) 0
  have hl : (X ++ [x]).length = X.length + 1 := by rw [List.length_append]; rfl
  refine ⟨h', e1, ⟨s1.keep (fun o ho => e7 _ (by omega) (by omega) (by omega)) (fun _ _ _ _ _ => rfl), s2.keep ⟨e7 _ (by omega) (by omega) (by omega), e7 _ (by omega) (by omega) (by omega)⟩ ⟨e5 0 (by omega), e5 2 (by omega)⟩ ⟨rfl, rfl⟩ (fun _ _ _ => rfl), s3.keep ⟨e7 _ (by omega) (by omega) (by omega), e7 _ (by omega) (by omega) (by omega)⟩ (fun k hk => e6 k (by omega)) (fun _ _ _ => rfl), ⟨by omega, by rw [hl]; exact e2, k3, fun k hk => ?_, fun j hj => ?_⟩, s5, s6, s7⟩, e7⟩
  · rw [(e6 k (by omega)).1, (e6 k (by omega)).2]
    exact k4 k hk
  · rw [hl] at hj
    by_cases z : j = X.length
    · rw [z, e3, e4]
      refine ⟨?_, rfl⟩
      rw [List.getD_eq_getElem?_getD, List.getElem?_append_right (Nat.le_refl _), Nat.sub_self]
      rfl
    · rw [(e6 (K + j) (by omega)).1, (e6 (K + j) (by omega)).2]
      have := k5 j (by omega)
      rw [List.getD_eq_getElem?_getD, List.getElem?_append_left (by omega), ← List.getD_eq_getElem?_getD]
      exact this
theorem n_CS.ref {x : Nat} (S : n_CS Z D F R N Kc A p K (x :: X) n h q) (hn : n ≤ 40) (s : (x = 6 ∧ 1 ≤ n ∧ m = n) ∨ ((x = 7 ∨ x = 8) ∧ 2 ≤ n ∧ m + 1 = n)) : K < 300 ∧ n_CS Z D F R N Kc A p (K + 1) X m h (n_qe q K (nI x) 0) := by
  obtain ⟨s1, s2, s3, s4, s5, s6, s7, s8⟩ := S
  obtain ⟨k1, k2, k3, k4, k5⟩ := s4
  rw [List.length_cons] at k1 k2
  have h0 := k5 0 (by rw [List.length_cons]; omega)
  have hK : K < 300 := by omega
  refine ⟨hK, s1.keep (fun _ _ => rfl) (fun k a1 a2 a3 a4 => n_qe_off a4 (by omega) (by omega)), s2.keep ⟨rfl, rfl⟩ ⟨rfl, rfl⟩ ⟨n_qe_off (by omega) (by omega) (by omega), n_qe_off (by omega) (by omega) (by omega)⟩ (fun k a1 a2 => n_qe_off (by omega) (by omega) (by omega)), s3.keep ⟨rfl, rfl⟩ (fun k hk => ⟨rfl, rfl⟩) (fun k a1 a2 => n_qe_off (by omega) (by omega) (by omega)), ⟨by omega, by rw [k2]; congr 1; omega, n_qe8, fun k hk => ?_, fun j hj => ?_⟩, by omega, s6.push s5 (fun k hk => ⟨n_qe_off (by omega) (by omega) (by omega), n_qe_off (by omega) (by omega) (by omega)⟩) m hn ?_, s7, by rw [n_qe_off (by omega) (by omega) (by omega)]; exact s8⟩
  · by_cases z : k = K
    · rw [z, n_qe0, n_qe1]
      exact h0
    · rw [n_qe_off (by omega) (by omega) (by omega), n_qe_off (by omega) (by omega) (by omega)]
      exact k4 k (by omega)
  · have := k5 (j + 1) (by rw [List.length_cons]; omega)
    rw [show K + 1 + j = K + (j + 1) by omega]
    exact this
  · rw [n_qe0, n_qe1]
    rcases s with ⟨s, t⟩ | ⟨s, t⟩
    · exact Or.inr (Or.inl ⟨by rw [s]; rfl, t⟩)
    · refine Or.inr (Or.inr ⟨?_, t⟩)
      rcases s with s | s <;> rw [s]
      · exact Or.inl rfl
      · exact Or.inr rfl
-- settle pops one that the class has already
theorem n_CS.pop {S : List Nat} {x k l : Nat} (C : n_CS Z D F R N Kc A p K (x :: X) n h q) (r : n_R (x :: S) u w) (hl : 1 ≤ l) (hl3 : l ≤ 3) (hs : l ≤ n_sg x) (hn : n ≤ 40) (s : (x = 6 ∧ 1 ≤ n ∧ m = n) ∨ ((x = 7 ∨ x = 8) ∧ 2 ≤ n ∧ m + 1 = n)) : ∃ u' q', f_mo_settle_L0 (k + 1) 114 (nI l) (n_rr g u q w) = f_mo_settle_L0 k 114 (nI l) (n_rr g u' q' w) ∧ n_R S u' w ∧ n_uc u u' ∧ (∀ j, j ≠ 19 → j ≠ 20 → u' j = u j) ∧ n_CS Z D F R N Kc A p (K + 1) X m h q' := by
  obtain ⟨hK, C'⟩ := C.ref hn s
  obtain ⟨u', e1, e2, e3, e4⟩ := n_set1 (g := g) (k := k) r hl hl3 hs C.2.2.2.1.2.2.1 hK
  exact ⟨u', _, e1, e2, e3, e4, C'⟩
end n_codes
