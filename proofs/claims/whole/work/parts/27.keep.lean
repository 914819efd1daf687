-- THE KEY; KEEP AND RESTORE
section p_keep
variable {p Z D F R j : Nat} {h : sm_H}
theorem s_turnKey : sm_S10 p_RR := by
  intro j h x hj hR hx
  obtain ⟨p, Z, D, F, R, G⟩ := hR
  have C := G.2.2.2.1.1
  obtain ⟨t, S1, a1, ⟨y, y1, y2, y3⟩, a3, a4, a5, a6, a7⟩ := G.2.2.2.2.1
  have ht := p_tb y1 y3 hj
  have ek : h 40 2 = h 117 1 := S1.1 0 2 1 q_key
  have et : h 40 1 = h 117 0 := S1.1 0 1 0 q_time
  obtain ⟨c, hc⟩ : ∃ c, h 117 1 = sm_b2i c := by
    rcases a1.1 with e | e
    · exact ⟨false, e⟩
    · exact ⟨true, e⟩
  have hb : x = sm_b2i (!decide (x = 0)) := by
    rcases hx with rfl | rfl <;> decide
  have ef := e_flip (g := h) (q := h 117) (m := 1) (by omega) hc x
  rw [p_row_self] at ef
  by_cases hk : h 40 2 = x
  · refine ⟨0, h, h, ?_, ?_, p, Z, D, F, R, G.mono⟩
    · unfold f_sc_turnKey
      simp only [Nat.reduceAdd]
      rw [if_pos hk]
    · have e : c = !decide (x = 0) := sm_b2i_inj (by rw [← hc, ← ek, hk]; exact hb)
      unfold f_mo_turnKey f_mo_turnKey_L28
      simp only [sm_b2]
      rw [show (1 : Int32) = nI 1 from rfl, ef, ← e, p_ud_id hc, p_row_self]
      simp only [Option.bind_some]
      have : sm_b2i (c != c) = 0 := by cases c <;> rfl
      rw [this, if_neg (by decide)]
  · have e : (c != !decide (x = 0)) = true := by
      have : ¬ c = !decide (x = 0) := fun z => hk (by rw [ek, hc, z, ← hb])
      revert this
      cases c <;> cases (!decide (x = 0)) <;> intro this <;> first | rfl | exact absurd rfl this
    have S2 := S1.cell C (Nat.le_refl _) x q_key
    obtain ⟨n, n1, n2, S3⟩ := S2.log C (Nat.le_refl _) (h 40 1) (if x = 0 then 7 else 6) 0 (by rw [p_ud_off (by omega)]; exact et) ht
    have h9 : sm_up h 40 2 x 49 0 = nI t := by
      rw [sm_up_off (by omega)]
      obtain ⟨-, -, -, nn, l1, -⟩ := S1
      exact l1
    refine ⟨1, p_la 40 (sm_up h 40 2 x) t (h 40 1) (if x = 0 then 7 else 6) 0, sm_row (p_la 40 (sm_up h 40 2 x) t (h 40 1) (if x = 0 then 7 else 6) 0) 117 (p_lr (upd (h 117) 1 x) n (if x = 0 then 7 else 6) 0), ?_, ?_, p, Z, D, F, R, G.now (fun i hi => by rw [p_la_row (by omega), sm_up_ne _ _ _ _ _ (by omega)]) (by rw [p_la_row (by omega), sm_up_off (by omega)]) ⟨t + 1, S3, ?_⟩⟩
    · have hbz : sm_bz x = true := by
        rcases hx with rfl | rfl <;> decide
      have e1 : sm_up h 40 2 x 40 1 = h 40 1 := sm_up_off (by omega)
      unfold f_sc_turnKey f_sc_turnKey_L46
      simp only [Nat.reduceAdd]
      rw [if_neg hk, sm_gd_t hbz]
      simp only [sm_let]
      rw [e1]
      by_cases z : x = 0
      · rw [if_pos z, if_pos z, e_loadd (s := 40) ht h9, Option.bind_some]
      · rw [if_neg z, if_neg z, e_loadd (s := 40) ht h9, Option.bind_some]
    · have r117 : p_la 40 (sm_up h 40 2 x) t (h 40 1) (if x = 0 then 7 else 6) 0 117 = h 117 := by rw [p_la_row (by omega), sm_up_ne _ _ _ _ _ (by omega)]
      have ef2 := e_flip (g := p_la 40 (sm_up h 40 2 x) t (h 40 1) (if x = 0 then 7 else 6) 0) (q := h 117) (m := 1) (by omega) hc x
      rw [← r117, p_row_self, r117, e, ← hb] at ef2
      unfold f_mo_turnKey f_mo_turnKey_L28 f_mo_turnKey_L24
      simp only [sm_b2]
      rw [show (1 : Int32) = nI 1 from rfl, ef2]
      simp only [Option.bind_some]
      rw [if_pos (by decide)]
      by_cases z : x = 0
      · rw [if_pos z, if_pos z] at *
        rw [e_record n1 n2, Option.bind_some]
        rfl
      · rw [if_neg z, if_neg z] at *
        rw [e_record n1 n2, Option.bind_some]
        rfl
    · have u0 : ∀ k, k < 200 → k ≠ 9 → k ≠ 1 → p_lr (upd (h 117) 1 x) n (if x = 0 then 7 else 6) 0 k = h 117 k := fun k k1 k2 k3 => by rw [p_lr_off k1 k2, p_ud_off k3]
      obtain ⟨c1, c2, c3, c4, c5⟩ := C
      have r8 : p_la 40 (sm_up h 40 2 x) t (h 40 1) (if x = 0 then 7 else 6) 0 (40 + 8) 0 = h (40 + 8) 0 := by rw [p_la_row (by omega), sm_up_off (by omega)]
      have r0 : p_la 40 (sm_up h 40 2 x) t (h 40 1) (if x = 0 then 7 else 6) 0 40 8 = h 40 8 := by rw [p_la_row (by omega), sm_up_off (by omega)]
      refine ⟨⟨by rw [p_lr_off (by omega) (by omega), p_ud_at]; exact hx, by rw [u0 _ (by omega) (by omega) (by omega)]; exact a1.2⟩, ⟨y, y1, by rw [u0 _ (by omega) (by omega) (by omega)]; exact y2, by omega⟩, fun d hd => ?_, fun f hf => ?_, by rw [r8]; exact a5, by rw [r0]; exact a6, by rw [r8, u0 _ (by omega) (by omega) (by omega)]; exact a7⟩
      · rw [u0 _ (by omega) (by omega) (by omega), u0 _ (by omega) (by omega) (by omega), u0 _ (by omega) (by omega) (by omega)]
        exact a3 d hd
      · rw [u0 _ (by omega) (by omega) (by omega), u0 _ (by omega) (by omega) (by omega), u0 _ (by omega) (by omega) (by omega)]
        exact a4 f hf
end p_keep
