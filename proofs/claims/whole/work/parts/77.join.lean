-- LOAD: AND, OR IN STEP
-- what waits above the base: AND (a), OR (o)
def n_X (a o : Bool) : List Nat := (if a = true then [7] else []) ++ (if o = true then [8] else [])
def n_X1 (a : Bool) : List Nat := if a = true then [7] else []
def n_base (S : List Nat) : Prop := S = [] ∨ ∃ S1, S = 9 :: S1
section n_join
variable {p n k : Nat} {g h : sm_H} {u q w : Nat → Int32} {S0 : List Nat} {Z D F R N Kc A K : Nat}
theorem n_base_stop (hb : n_base S0) {l : Nat} (hl : 1 ≤ l) : S0 = [] ∨ ∃ o S', S0 = o :: S' ∧ n_sg o < l := by
  rcases hb with z | ⟨S1, z⟩
  · exact Or.inl z
  · exact Or.inr ⟨9, S1, z, by
      show 0 < l
      omega⟩
-- settle 2 with the class ahead by AND alone
theorem n_set2 (a o : Bool) (hb : n_base S0) (r : n_R (n_X a o ++ S0) u w) (C : n_CS Z D F R N Kc A p K (n_X1 a) (n_bin (n_X a o ++ S0) + 1) h q) : ∃ u' q' K', f_mo_settle_L0 (k + 2) 114 (nI 2) (n_rr g u q w) = some (n_rr g u' q' w) ∧ n_R (n_X false o ++ S0) u' w ∧ n_uc u u' ∧ (∀ j, j ≠ 19 → j ≠ 20 → u' j = u j) ∧ n_CS Z D F R N Kc A p K' [] (n_bin (n_X false o ++ S0) + 1) h q' ∧ K' + n_nop (n_X false o ++ S0) = K + n_nop (n_X a o ++ S0) := by
  have st : ∀ o : Bool, n_X false o ++ S0 = [] ∨ ∃ x S', n_X false o ++ S0 = x :: S' ∧ n_sg x < 2 := by
    intro o
    cases o with
    | false => exact n_base_stop hb (by decide)
    | true => exact Or.inr ⟨8, S0, rfl, by decide⟩
  cases a with
  | false => exact ⟨u, q, K, n_set0 (g := g) (k := k + 1) r (by decide) (by decide) (st o), r, n_uc.refl u, fun _ _ _ => rfl, C, rfl⟩
  | true =>
    have r' : n_R (7 :: (n_X false o ++ S0)) u w := by cases o <;> exact r
    have C' : n_CS Z D F R N Kc A p K (7 :: []) (n_bin (n_X false o ++ S0) + 2) h q := by
      have e : n_bin (n_X true o ++ S0) + 1 = n_bin (n_X false o ++ S0) + 2 := by
        cases o
        · show (1 + n_bin S0) + 1 = n_bin S0 + 2
          omega
        · show (1 + (1 + n_bin S0)) + 1 = (1 + n_bin S0) + 2
          omega
      rw [← e]
      exact C
    have hl := r'.2.2.2.1
    have hbn := (n_dep_le (n_X false o ++ S0)).2.2
    rw [List.length_cons] at hl
    obtain ⟨u', q', e1, e2, e3, e4, e5⟩ := C'.pop (g := g) (k := k + 1) (m := n_bin (n_X false o ++ S0) + 1) r' (l := 2) (by decide) (by decide) (by decide) (by omega) (Or.inr ⟨Or.inl rfl, by omega, rfl⟩)
    refine ⟨u', q', K + 1, ?_, e2, e3, e4, e5, ?_⟩
    · rw [e1]
      exact n_set0 (g := g) (k := k) e2 (by decide) (by decide) (st o)
    · cases o
      · show K + 1 + n_nop S0 = K + (1 + n_nop S0)
        omega
      · show K + 1 + (1 + n_nop S0) = K + (1 + (1 + n_nop S0))
        omega
-- settle 1 with the class ahead by all that waits
theorem n_set11 (a o : Bool) (hb : n_base S0) (r : n_R (n_X a o ++ S0) u w) (C : n_CS Z D F R N Kc A p K (n_X a o) (n_bin (n_X a o ++ S0) + 1) h q) : ∃ u' q' K', f_mo_settle_L0 (k + 3) 114 (nI 1) (n_rr g u q w) = some (n_rr g u' q' w) ∧ n_R S0 u' w ∧ n_uc u u' ∧ (∀ j, j ≠ 19 → j ≠ 20 → u' j = u j) ∧ n_CS Z D F R N Kc A p K' [] (n_bin S0 + 1) h q' ∧ K' + n_nop S0 = K + n_nop (n_X a o ++ S0) := by
  have O : ∀ k u q K, n_R (n_X false o ++ S0) u w → n_CS Z D F R N Kc A p K (n_X false o) (n_bin (n_X false o ++ S0) + 1) h q → ∃ u' q' K', f_mo_settle_L0 (k + 2) 114 (nI 1) (n_rr g u q w) = some (n_rr g u' q' w) ∧ n_R S0 u' w ∧ n_uc u u' ∧ (∀ j, j ≠ 19 → j ≠ 20 → u' j = u j) ∧ n_CS Z D F R N Kc A p K' [] (n_bin S0 + 1) h q' ∧ K' + n_nop S0 = K + n_nop (n_X false o ++ S0) := by
    intro k u q K r C
    cases o with
    | false => exact ⟨u, q, K, n_set0 (g := g) (k := k + 1) r (by decide) (by decide) (n_base_stop hb (by decide)), r, n_uc.refl u, fun _ _ _ => rfl, C, rfl⟩
    | true =>
      have r' : n_R (8 :: S0) u w := r
      have C' : n_CS Z D F R N Kc A p K (8 :: []) (n_bin S0 + 2) h q := by
        have e : n_bin (n_X false true ++ S0) + 1 = n_bin S0 + 2 := by
          show (1 + n_bin S0) + 1 = n_bin S0 + 2
          omega
        rw [← e]
        exact C
      have hl := r'.2.2.2.1
      have hbn := (n_dep_le S0).2.2
      rw [List.length_cons] at hl
      obtain ⟨u', q', e1, e2, e3, e4, e5⟩ := C'.pop (g := g) (k := k + 1) (m := n_bin S0 + 1) r' (l := 1) (by decide) (by decide) (by decide) (by omega) (Or.inr ⟨Or.inr rfl, by omega, rfl⟩)
      refine ⟨u', q', K + 1, ?_, e2, e3, e4, e5, ?_⟩
      · rw [e1]
        exact n_set0 (g := g) (k := k) e2 (by decide) (by decide) (n_base_stop hb (by decide))
      · show K + 1 + n_nop S0 = K + (1 + n_nop S0)
        omega
  cases a with
  | false =>
    exact O (k + 1) u q K r C
  | true =>
    have r' : n_R (7 :: (n_X false o ++ S0)) u w := by cases o <;> exact r
    have C' : n_CS Z D F R N Kc A p K (7 :: n_X false o) (n_bin (n_X false o ++ S0) + 2) h q := by
      cases o
      · have e : n_bin (n_X true false ++ S0) + 1 = n_bin (n_X false false ++ S0) + 2 := by
          show (1 + n_bin S0) + 1 = n_bin S0 + 2
          omega
        rw [← e]
        exact C
      · have e : n_bin (n_X true true ++ S0) + 1 = n_bin (n_X false true ++ S0) + 2 := by
          show (1 + (1 + n_bin S0)) + 1 = (1 + n_bin S0) + 2
          omega
        rw [← e]
        exact C
    have hl := r'.2.2.2.1
    have hbn := (n_dep_le (n_X false o ++ S0)).2.2
    rw [List.length_cons] at hl
    obtain ⟨u1, q1, e1, e2, e3, e4, e5⟩ := C'.pop (g := g) (k := k + 2) (m := n_bin (n_X false o ++ S0) + 1) r' (l := 1) (by decide) (by decide) (by decide) (by omega) (Or.inr ⟨Or.inl rfl, by omega, rfl⟩)
    obtain ⟨u', q', K', f1, f2, f3, f4, f5, f6⟩ := O k u1 q1 (K + 1) e2 e5
    refine ⟨u', q', K', by rw [e1]; exact f1, f2, e3.trans f3, fun j j1 j2 => (f4 j j1 j2).trans (e4 j j1 j2), f5, ?_⟩
    rw [f6]
    cases o
    · show K + 1 + n_nop S0 = K + (1 + n_nop S0)
      omega
    · show K + 1 + (1 + n_nop S0) = K + (1 + (1 + n_nop S0))
      omega
end n_join
