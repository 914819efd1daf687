-- A STATE COPIED; KEEP AND RESTORE
theorem e_copyRow {a b n : Nat} (ha : sm_len a = n) (hb : sm_len b = n) (hn : n < 2 ^ 31) (h : sm_H) : f_sc_copyRow b a h = some (sm_row h a (fun k => if k < n then h b k else h a k)) := by
  unfold f_sc_copyRow
  simp only [sm_b2, sm_let]
  have c0 : (0 : Int32).toNatClampNeg = 0 := by decide
  have ok : sm_cpOK 0 0 (nI n) n n = true := by
    unfold sm_cpOK
    rw [nI_clamp hn, c0]
    exact decide_eq_true ⟨by decide, by decide, nI_pos hn, by omega, by omega⟩
  rw [ha, hb]
  have em : f_jm_min (nI n) (nI n) h = some (nI n, h) := by
    unfold f_jm_min f_jm_min_L10
    rw [if_neg (nI_nlt (Nat.le_refl _) hn)]
  rw [em]
  simp only [Option.bind_some]
  rw [sm_gd_t ok, nI_clamp hn, c0]
  congr 2
  funext k
  unfold va_cpy
  by_cases z : k < n
  · rw [if_pos (by omega), if_pos z]
    congr 1
    omega
  · rw [if_neg (by omega), if_neg z]
def p_cI (a b : Nat) (h g : sm_H) (L : List (Nat × Nat × Nat)) : Prop := (∀ i, i < a ∨ a + 12 < i → g i = h i) ∧ ∀ x ∈ L, x.1 ≤ 12 ∧ ∀ k, x.2.1 ≤ k → k < x.2.2 → g (a + x.1) k = h (b + x.1) k
section p_copy
variable {a b : Nat} {h g : sm_H} {L : List (Nat × Nat × Nat)}
theorem p_cI.src (I : p_cI a b h g L) (hab : a + 13 ≤ b ∨ b + 13 ≤ a) {o : Nat} (ho : o ≤ 12) : g (b + o) = h (b + o) := I.1 _ (by omega)
theorem p_cI.up (I : p_cI a b h g L) (hab : a + 13 ≤ b ∨ b + 13 ≤ a) (o k : Nat) (ho : o ≤ 12) {v : Int32} (hv : v = h (b + o) k) : p_cI a b h (sm_up g (a + o) k v) ((o, k, k + 1) :: L) := by
  refine ⟨fun i hi => ?_, fun x hx => ?_⟩
  · rw [sm_up_ne _ _ _ _ _ (by omega)]
    exact I.1 i hi
  · rcases List.mem_cons.mp hx with rfl | hx
    · refine ⟨ho, fun k' h1 h2 => ?_⟩
      have e : k' = k := by
        simp only at h1 h2
        omega
      rw [e, p_up_at, hv]
    · obtain ⟨x1, x2⟩ := I.2 x hx
      refine ⟨x1, fun k' h1 h2 => ?_⟩
      by_cases z : a + x.1 = a + o ∧ k' = k
      · have e : x.1 = o := by omega
        rw [e, z.2, p_up_at, hv]
      · rw [sm_up_off z]
        exact x2 k' h1 h2
theorem p_cI.row (I : p_cI a b h g L) (hab : a + 13 ≤ b ∨ b + 13 ≤ a) (o n : Nat) (ho : o ≤ 12) : p_cI a b h (sm_row g (a + o) (fun k => if k < n then g (b + o) k else g (a + o) k)) ((o, 0, n) :: L) := by
  have hs := I.src hab ho
  refine ⟨fun i hi => ?_, fun x hx => ?_⟩
  · rw [p_row_off (by omega)]
    exact I.1 i hi
  · rcases List.mem_cons.mp hx with rfl | hx
    · refine ⟨ho, fun k' h1 h2 => ?_⟩
      simp only at h1 h2
      rw [p_row_at, if_pos h2, hs]
    · obtain ⟨x1, x2⟩ := I.2 x hx
      refine ⟨x1, fun k' h1 h2 => ?_⟩
      by_cases z : a + x.1 = a + o
      · have e : x.1 = o := by omega
        rw [e, p_row_at]
        by_cases y : k' < n
        · rw [if_pos y, hs]
        · rw [if_neg y, ← e]
          exact x2 k' h1 h2
      · rw [p_row_off z]
        exact x2 k' h1 h2
end p_copy
def p_ok (o k : Nat) : Prop := (o = 0 ∧ k ≤ 8) ∨ ((o = 1 ∨ o = 2) ∧ k < 8) ∨ (3 ≤ o ∧ o ≤ 7 ∧ k < 23) ∨ (o = 8 ∧ k ≤ 3) ∨ (o = 9 ∧ k = 0) ∨ (10 ≤ o ∧ o ≤ 12 ∧ k < 50)
def p_ln (o : Nat) : Nat := if o = 1 ∨ o = 2 then 8 else if 3 ≤ o ∧ o ≤ 7 then 23 else 50
section p_copy2
variable {a b : Nat} {h g : sm_H} {L : List (Nat × Nat × Nat)} {Q : sm_H → Prop} {F : sm_H → Option sm_H}
theorem p_cI.lt (I : p_cI a b h g L) (hab : a + 13 ≤ b ∨ b + 13 ≤ a) (o k : Nat) (ho : o ≤ 12) {v : Int32} (hv : v = g (b + o) k) (K : ∀ g', p_cI a b h g' ((o, k, k + 1) :: L) → ∃ r, F g' = some r ∧ Q r) : ∃ r, sm_let (sm_up g (a + o) k v) F = some r ∧ Q r :=
  K _ (I.up hab o k ho (hv.trans (congrFun (I.src hab ho) k)))
theorem p_letN {α : Type} {x : α} {F : α → Option sm_H} (K : ∃ r, F x = some r ∧ Q r) : ∃ r, sm_let x F = some r ∧ Q r := K
theorem p_cI.cr (I : p_cI a b h g L) (hab : a + 13 ≤ b ∨ b + 13 ≤ a) (o : Nat) (ho : o ≤ 12) (hla : sm_len (a + o) = p_ln o) (hlb : sm_len (b + o) = p_ln o) (K : ∀ g', p_cI a b h g' ((o, 0, p_ln o) :: L) → ∃ r, F g' = some r ∧ Q r) : ∃ r, Option.bind (f_sc_copyRow (b + o) (a + o) g) F = some r ∧ Q r := by
  rw [e_copyRow hla hlb (by unfold p_ln; split; omega; split <;> omega), Option.bind_some]
  exact K _ (I.row hab o (p_ln o) ho)
theorem p_cI.done (I : p_cI a b h g L) (hL : ∀ o k, p_ok o k → ∃ l u, (o, l, u) ∈ L ∧ l ≤ k ∧ k < u) : (∀ i, i < a ∨ a + 12 < i → g i = h i) ∧ ∀ o k, p_ok o k → g (a + o) k = h (b + o) k := by
  refine ⟨I.1, fun o k z => ?_⟩
  obtain ⟨l, u, m, h1, h2⟩ := hL o k z
  exact (I.2 _ m).2 k h1 h2
end p_copy2
theorem p_okL : ∀ o k, p_ok o k → ∃ l u, (o, l, u) ∈ ([(12, 0, 50), (11, 0, 50), (10, 0, 50), (9, 0, 1), (8, 3, 4), (8, 2, 3), (8, 1, 2), (8, 0, 1), (7, 0, 23), (6, 0, 23), (5, 0, 23), (4, 0, 23), (3, 0, 23), (2, 0, 8), (1, 0, 8), (0, 8, 9), (0, 7, 8), (0, 6, 7), (0, 5, 6), (0, 4, 5), (0, 3, 4), (0, 2, 3), (0, 1, 2), (0, 0, 1)] : List (Nat × Nat × Nat)) ∧ l ≤ k ∧ k < u := by
  intro o k hok
  unfold p_ok at hok
  rcases hok with ⟨rfl, y⟩ | ⟨rfl | rfl, y⟩ | ⟨x, y, z⟩ | ⟨rfl, y⟩ | ⟨rfl, rfl⟩ | ⟨x, y, z⟩
  · match k, y with
    | 0, _ => exact ⟨0, 1, by simp, by omega, by omega⟩
    | 1, _ => exact ⟨1, 2, by simp, by omega, by omega⟩
    | 2, _ => exact ⟨2, 3, by simp, by omega, by omega⟩
    | 3, _ => exact ⟨3, 4, by simp, by omega, by omega⟩
    | 4, _ => exact ⟨4, 5, by simp, by omega, by omega⟩
    | 5, _ => exact ⟨5, 6, by simp, by omega, by omega⟩
    | 6, _ => exact ⟨6, 7, by simp, by omega, by omega⟩
    | 7, _ => exact ⟨7, 8, by simp, by omega, by omega⟩
    | 8, _ => exact ⟨8, 9, by simp, by omega, by omega⟩
    | k + 9, z => omega
  · exact ⟨0, 8, by simp, by omega, by omega⟩
  · exact ⟨0, 8, by simp, by omega, by omega⟩
  · have : o = 3 ∨ o = 4 ∨ o = 5 ∨ o = 6 ∨ o = 7 := by omega
    rcases this with rfl | rfl | rfl | rfl | rfl <;> exact ⟨0, 23, by simp, by omega, by omega⟩
  · match k, y with
    | 0, _ => exact ⟨0, 1, by simp, by omega, by omega⟩
    | 1, _ => exact ⟨1, 2, by simp, by omega, by omega⟩
    | 2, _ => exact ⟨2, 3, by simp, by omega, by omega⟩
    | 3, _ => exact ⟨3, 4, by simp, by omega, by omega⟩
    | k + 4, z => omega
  · exact ⟨0, 1, by simp, by omega, by omega⟩
  · have : o = 10 ∨ o = 11 ∨ o = 12 := by omega
    rcases this with rfl | rfl | rfl <;> exact ⟨0, 50, by simp, by omega, by omega⟩
theorem e_copyFrom {a b p : Nat} {h : sm_H} (hp : p = 1 ∨ p = 24) (hab : a + 13 ≤ b ∨ b + 13 ≤ a) (hl : ∀ o, o ≤ 12 → 1 ≤ o → o ≠ 8 → o ≠ 9 → sm_len (a + o) = p_ln o ∧ sm_len (b + o) = p_ln o) (h0 : h b 0 = nI p) (h2 : sm_bz (h b 2) = true) : ∃ g, f_st_copyFrom a b h = some g ∧ ((∀ i, i < a ∨ a + 12 < i → g i = h i) ∧ ∀ o k, p_ok o k → g (a + o) k = h (b + o) k) := by
  obtain ⟨i1, i2⟩ := p_isPp hp
  have I0 : p_cI a b h h [] := ⟨fun _ _ => rfl, fun x hx => absurd hx List.not_mem_nil⟩
  have L := fun o (h1 : o ≤ 12) (h2 : 1 ≤ o) (h3 : o ≠ 8) (h4 : o ≠ 9) => (hl o h1 h2 h3 h4)
  unfold f_st_copyFrom
  rw [h0, sm_gd_t i1]
  rw [i2]
  refine p_letN ?_
  refine I0.lt hab 0 0 (by omega) h0.symm (fun g I => ?_)
  refine I.lt hab 0 1 (by omega) rfl (fun g I => ?_)
  have s2 : g b 2 = h b 2 := congrFun (I.1 b (by omega)) 2
  rw [sm_gd_t (by rw [s2]; exact h2)]
  refine I.lt hab 0 2 (by omega) rfl (fun g I => ?_)
  refine I.lt hab 0 3 (by omega) rfl (fun g I => ?_)
  refine I.lt hab 0 4 (by omega) rfl (fun g I => ?_)
  refine I.lt hab 0 5 (by omega) rfl (fun g I => ?_)
  refine I.lt hab 0 6 (by omega) rfl (fun g I => ?_)
  refine I.lt hab 0 7 (by omega) rfl (fun g I => ?_)
  refine I.lt hab 0 8 (by omega) rfl (fun g I => ?_)
  refine I.cr hab 1 (by omega) (L 1 (by omega) (by omega) (by omega) (by omega)).1 (L 1 (by omega) (by omega) (by omega) (by omega)).2 (fun g I => ?_)
  refine I.cr hab 2 (by omega) (L 2 (by omega) (by omega) (by omega) (by omega)).1 (L 2 (by omega) (by omega) (by omega) (by omega)).2 (fun g I => ?_)
  refine I.cr hab 3 (by omega) (L 3 (by omega) (by omega) (by omega) (by omega)).1 (L 3 (by omega) (by omega) (by omega) (by omega)).2 (fun g I => ?_)
  refine I.cr hab 4 (by omega) (L 4 (by omega) (by omega) (by omega) (by omega)).1 (L 4 (by omega) (by omega) (by omega) (by omega)).2 (fun g I => ?_)
  refine I.cr hab 5 (by omega) (L 5 (by omega) (by omega) (by omega) (by omega)).1 (L 5 (by omega) (by omega) (by omega) (by omega)).2 (fun g I => ?_)
  refine I.cr hab 6 (by omega) (L 6 (by omega) (by omega) (by omega) (by omega)).1 (L 6 (by omega) (by omega) (by omega) (by omega)).2 (fun g I => ?_)
  refine I.cr hab 7 (by omega) (L 7 (by omega) (by omega) (by omega) (by omega)).1 (L 7 (by omega) (by omega) (by omega) (by omega)).2 (fun g I => ?_)
  have hal : ∀ (g : sm_H) (M : List (Nat × Nat × Nat)) (F : sm_H → Option sm_H) (Q : sm_H → Prop), p_cI a b h g M → (∀ g', p_cI a b h g' ((8, 3, 3 + 1) :: (8, 2, 2 + 1) :: (8, 1, 1 + 1) :: (8, 0, 0 + 1) :: M) → ∃ r, F g' = some r ∧ Q r) → ∃ r, Option.bind (f_al_copyFrom (a + 8) (b + 8) g) F = some r ∧ Q r := by
    intro g M F Q I K
    have : ∃ r, f_al_copyFrom (a + 8) (b + 8) g = some r ∧ p_cI a b h r ((8, 3, 3 + 1) :: (8, 2, 2 + 1) :: (8, 1, 1 + 1) :: (8, 0, 0 + 1) :: M) := by
      unfold f_al_copyFrom
      refine I.lt hab 8 0 (by omega) rfl (fun g I => ?_)
      refine I.lt hab 8 1 (by omega) rfl (fun g I => ?_)
      refine I.lt hab 8 2 (by omega) rfl (fun g I => ?_)
      refine I.lt hab 8 3 (by omega) rfl (fun g I => ?_)
      exact ⟨g, rfl, I⟩
    obtain ⟨r, e, I2⟩ := this
    rw [e, Option.bind_some]
    exact K r I2
  refine hal _ _ _ _ I (fun g I => ?_)
  have hlo : ∃ r, f_lo_copyFrom (a + 9) (b + 9) g = some r ∧ ((∀ i, i < a ∨ a + 12 < i → r i = h i) ∧ ∀ o k, p_ok o k → r (a + o) k = h (b + o) k) := by
    unfold f_lo_copyFrom
    refine I.lt hab 9 0 (by omega) rfl (fun g I => ?_)
    refine I.cr hab 10 (by omega) (L 10 (by omega) (by omega) (by omega) (by omega)).1 (L 10 (by omega) (by omega) (by omega) (by omega)).2 (fun g I => ?_)
    refine I.cr hab 11 (by omega) (L 11 (by omega) (by omega) (by omega) (by omega)).1 (L 11 (by omega) (by omega) (by omega) (by omega)).2 (fun g I => ?_)
    refine I.cr hab 12 (by omega) (L 12 (by omega) (by omega) (by omega) (by omega)).1 (L 12 (by omega) (by omega) (by omega) (by omega)).2 (fun g I => ?_)
    exact ⟨g, rfl, I.done p_okL⟩
  obtain ⟨r, e, Q⟩ := hlo
  rw [e, Option.bind_some]
  exact ⟨r, rfl, Q⟩
-- the relation moves with the copy, and asks only the first 350 cells of the row
theorem p_SO.copy {Z D F R a b j : Nat} {h g : sm_H} {q q' w : Nat → Int32} (C : p_CT Z D F R) (S : p_SO Z D F R b h q w j) (e : ∀ o k, p_ok o k → g (a + o) k = h (b + o) k) (hq : ∀ k, k < 350 → q' k = q k) : p_SO Z D F R a g q' w j := by
  obtain ⟨c1, c2, c3, c4, c5⟩ := C
  obtain ⟨t, ⟨S1, S2, S3, n, l1, l2, l3, l4⟩, a1, ⟨x, x1, x2, x3⟩, a3, a4, a5, a6, a7⟩ := S
  have e80 : g (a + 8) 0 = h (b + 8) 0 := e 8 0 (by unfold p_ok; omega)
  have e08 : g a 8 = h b 8 := e 0 8 (by unfold p_ok; omega)
  refine ⟨t, ⟨fun o k m z => ?_, fun o k i m z => ?_, fun d hd => ?_, n, ?_, ?_, l3, fun i hi => ?_⟩, ?_, ⟨x, x1, ?_, x3⟩, fun d hd => ?_, fun f hf => ?_, by rw [e80]; exact a5, by rw [e08]; exact a6, ?_⟩
  · rw [e o k (by unfold p_eq at z; unfold p_ok; omega), hq m (by unfold p_eq at z; omega)]
    exact S1 o k m z
  · rw [e o k (by unfold p_bi at z; unfold p_ok; omega), hq m (by unfold p_bi at z; omega)]
    exact S2 o k i m z
  · rw [e 6 d (by unfold p_ok; omega), hq _ (by omega)]
    exact S3 d hd
  · rw [e 9 0 (by unfold p_ok; omega)]
    exact l1
  · rw [hq _ (by omega)]
    exact l2
  · have hm : (t - n + i) % 50 < 50 := Nat.mod_lt _ (by omega)
    rw [e 10 _ (by unfold p_ok; omega), e 11 _ (by unfold p_ok; omega), e 12 _ (by unfold p_ok; omega), hq _ (by omega), hq _ (by omega), hq _ (by omega)]
    exact l4 i hi
  · exact ⟨by rw [hq _ (by omega)]; exact a1.1, by rw [hq _ (by omega)]; exact a1.2⟩
  · rw [hq _ (by omega)]
    exact x2
  · rw [hq _ (by omega), hq _ (by omega), hq _ (by omega)]
    exact a3 d hd
  · rw [hq _ (by omega), hq _ (by omega), hq _ (by omega)]
    exact a4 f hf
  · rw [hq _ (by omega), e80]
    exact a7
