section p_query
variable {p Z D F R j : Nat} {h : sm_H}
-- what a relation gives of single cells
theorem p_RR.parts (G : p_R0 j p Z D F R h) : (1 ≤ Z ∧ Z ≤ 8 ∧ D ≤ 16 ∧ F ≤ 6 ∧ R ≤ 10) ∧ (h p 0 = nI Z ∧ h 115 0 = nI Z) ∧ (h p 1 = nI D ∧ h 115 1 = nI D) ∧ (h p 2 = nI F ∧ h 115 2 = nI F) ∧ (h p 3 = nI R ∧ h 115 3 = nI R) := by
  obtain ⟨-, -, -, ⟨c, ⟨a1, a2, a3, a4, a5, a6, a7, a8, -⟩, -⟩, -⟩ := G
  exact ⟨c, ⟨a1, a2⟩, ⟨a3, a4⟩, ⟨a5, a6⟩, a7, a8⟩
theorem p_SO.eq {s : Nat} {q w : Nat → Int32} (S : p_SO Z D F R s h q w j) {o k m : Nat} (e : p_eq Z Z D F o k m) : h (s + o) k = q m := by
  obtain ⟨t, S1, -⟩ := S
  exact S1.1 o k m e
theorem p_SO.bit {s : Nat} {q w : Nat → Int32} (S : p_SO Z D F R s h q w j) {o k b m : Nat} (e : p_bi Z D F R o k b m) : q m = sm_b2i (sm_bt (h (s + o) k) b) := by
  obtain ⟨t, S1, -⟩ := S
  exact S1.2.1 o k b m e
-- queries that change nothing
theorem s_time : sm_S17 p_RR := by
  intro j h _ hR
  obtain ⟨p, Z, D, F, R, G⟩ := hR
  have e : h 40 1 = h 117 0 := G.2.2.2.2.1.eq q_time
  have c : (0 : Int32).toNatClampNeg = 0 := by decide
  have e1 : f_sc_time 0 h = some (h 40 1, h) := by unfold f_sc_time; simp only [Nat.reduceAdd]
  have e2 : f_mo_time 114 h = some (h 40 1, h) := by
    unfold f_mo_time
    simp only [Nat.reduceAdd]
    rw [sm_gd_t (by decide), c, e]
  exact ⟨h 40 1, h, h, e1, e2, p, Z, D, F, R, G.mono⟩
end p_query
