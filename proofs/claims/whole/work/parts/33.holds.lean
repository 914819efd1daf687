-- CONDITIONS: the loop over a rule's codes
def p_bl (a : Int64) (k : Nat) : Bool := a.toBitVec.getLsbD k
theorem l_not (a : Int64) (k : Nat) : p_bl (a ^^^ 1) k = if k = 0 then !p_bl a 0 else p_bl a k := by
  show (a.toBitVec ^^^ 1#64).getLsbD k = _
  rw [BitVec.getLsbD_xor, BitVec.getLsbD_one]
  unfold p_bl
  by_cases z : k = 0
  · rw [if_pos z, z]
    simp
  · rw [if_neg z]
    simp [z]
theorem l_shr (a : Int64) (k : Nat) (hk : k < 63) : p_bl (a >>> ((1 : Int32).toInt64 &&& 63)) k = p_bl a (k + 1) := by
  unfold p_bl
  rw [Int64.toBitVec_shiftRight]
  have e : ((1 : Int32).toInt64 &&& 63).toBitVec.smod 64 = 1#64 := by decide
  rw [e]
  show (a.toBitVec.sshiftRight 1).getLsbD k = _
  rw [BitVec.getLsbD_sshiftRight]
  rw [if_pos (by omega), show 1 + k = k + 1 by omega]
  simp
  omega
theorem l_shl (a : Int64) (k : Nat) (hk : k < 64) : p_bl (a <<< ((1 : Int32).toInt64 &&& 63)) k = if k = 0 then false else p_bl a (k - 1) := by
  unfold p_bl
  rw [Int64.toBitVec_shiftLeft]
  have e : ((1 : Int32).toInt64 &&& 63).toBitVec.smod 64 = 1#64 := by decide
  rw [e]
  show (a.toBitVec <<< 1).getLsbD k = _
  rw [BitVec.getLsbD_shiftLeft]
  by_cases z : k = 0
  · rw [if_pos z, z]
    simp
  · rw [if_neg z]
    simp [hk, z]
theorem l_or (a b : Int64) (k : Nat) : p_bl (a ||| b) k = (p_bl a k || p_bl b k) := by
  show (a.toBitVec ||| b.toBitVec).getLsbD k = _
  exact BitVec.getLsbD_or
theorem l_and (a b : Int64) (k : Nat) : p_bl (a &&& b) k = (p_bl a k && p_bl b k) := by
  show (a.toBitVec &&& b.toBitVec).getLsbD k = _
  exact BitVec.getLsbD_and
theorem l_one (k : Nat) : p_bl 1 k = decide (k = 0) := by
  show (1#64).getLsbD k = _
  rw [BitVec.getLsbD_one]
  simp
theorem l_zero (k : Nat) : p_bl 0 k = false := by
  show (0#64).getLsbD k = false
  exact BitVec.getLsbD_zero
theorem l_m2 (k : Nat) (hk : k < 64) : p_bl (-2) k = decide (k ≠ 0) := by
  have g : ((List.range 64).all fun k => p_bl (-2) k == decide (k ≠ 0)) = true := by decide +kernel
  exact eq_of_beq (List.all_eq_true.mp g k (List.mem_range.mpr hk))
theorem l_ext {a b : Int64} (h : ∀ k, k < 64 → p_bl a k = p_bl b k) : a = b := by
  apply Int64.toBitVec_inj.mp
  apply BitVec.eq_of_getLsbD_eq
  intro i hi
  exact h i hi
theorem l_low (a : Int64) : a &&& 1 = if p_bl a 0 = true then 1 else 0 := by
  apply l_ext
  intro k _
  rw [l_and, l_one]
  by_cases z : k = 0
  · rw [z, decide_eq_true rfl, Bool.and_true]
    cases p_bl a 0
    · exact (l_zero 0).symm
    · exact (l_one 0).symm
  · rw [decide_eq_false z, Bool.and_false]
    cases p_bl a 0
    · exact (l_zero k).symm
    · exact ((l_one k).trans (decide_eq_false z)).symm
theorem l_cmp (a : Int64) (h : sm_H) : f_co_holds_L143 a h = some (sm_b2i (p_bl a 0), h) := by
  unfold f_co_holds_L143 f_co_holds_L157
  rw [l_low]
  cases p_bl a 0
  · show (if lg_cmp (0 : Int64) 0 = 0 then _ else _) = _
    rw [if_pos (by decide), sm_gd_t (by decide)]
    rfl
  · show (if lg_cmp (1 : Int64) 0 = 0 then _ else _) = _
    rw [if_neg (by decide), sm_gd_t (by decide)]
    rfl
theorem l_zn (b : Bool) : sm_zn (sm_b2i b) = sm_b2i b := by cases b <;> decide
section p_hold
variable {s p Y Z D F R t : Nat} {h g : sm_H}
theorem e_codeStart {C : Nat → Nat} (h0 : C 0 = 0) {r N : Nat} (hr : r < N) (hN : N ≤ 12) (hC : ∀ r, r < N → h (p + 12) r = nI (C (r + 1))) : f_ru_codeStart (p + 9) (nI r) h = some (nI (C r), h) := by
  unfold f_ru_codeStart f_ru_codeStart_L16
  cases r with
  | zero =>
    rw [h0, if_pos (by decide)]
    rfl
  | succ r =>
    have e : nI (r + 1) - 1 = nI r := nI_pred r
    rw [if_neg (nI_nle (by omega) (by omega)), e, sm_gd_t (sm_inb_nI (by omega) (by omega)), nI_clamp (by omega)]
    rw [show h (p + 9 + 3) r = nI (C (r + 1)) from hC r (by omega)]
theorem e_actionStart {C : Nat → Nat} (h0 : C 0 = 0) {r N : Nat} (hr : r < N) (hN : N ≤ 12) (hC : ∀ r, r < N → h (p + 15) r = nI (C (r + 1))) : f_ru_actionStart (p + 9) (nI r) h = some (nI (C r), h) := by
  unfold f_ru_actionStart f_ru_actionStart_L16
  cases r with
  | zero =>
    rw [h0, if_pos (by decide)]
    rfl
  | succ r =>
    have e : nI (r + 1) - 1 = nI r := nI_pred r
    rw [if_neg (nI_nle (by omega) (by omega)), e, sm_gd_t (sm_inb_nI (by omega) (by omega)), nI_clamp (by omega)]
    rw [show h (p + 9 + 6) r = nI (C (r + 1)) from hC r (by omega)]
theorem t_holds (V : p_V s p Z D F R h (g 115)) (S : p_ST Y Z D F R s h (g 117) t) (K : p_RK Z D F s h (g 117) (g 115)) (c : Nat) {r N : Nat} (hN : h (p + 9) 0 = nI N) (hN2 : N ≤ 12) (hr : r < N) : ∃ v st, f_co_holds c s (nI r) h = some (sm_b2i v, h) ∧ f_mo_isHolding 114 (nI r) g = some (sm_b2i v, sm_row g 122 st) := by
  obtain ⟨i1, i2⟩ := V.isP
  obtain ⟨N', KK, A, n1, n2, n3, n4, n5, n6, n7, n8, n9, ⟨C, B, C0, B0, CB⟩, cd, ca⟩ := V.2.2.2.2.2.2.2.2
  have eN : N' = N := by
    rw [hN] at n4
    exact ((nI_eq (by omega) (by omega)).mp n4).symm
  subst eN
  obtain ⟨b1, b2, b3, b4, b5, b6, b7, b8, b9, b10, H, H0, H1, HH⟩ := CB r hr
  have L : ∀ n i a st, C (r + 1) - i < n → C r ≤ i → i ≤ C (r + 1) → (∀ k, k < H i → st (H i - 1 - k) = sm_b2i (p_bl a k)) → ∃ v st', f_co_holds_L18 n s (nI r) (p + 9) a (nI i) h = some (sm_b2i v, h) ∧ f_mo_isHolding_L15 n 114 (nI r) (nI (H i)) (nI i) (sm_row g 122 st) = some (sm_b2i v, sm_row g 122 st') := by
    intro n
    induction n with
    | zero => intro i a st z; omega
    | succ n ih =>
      intro i a st h1 h2 h3 hst
      have q1 : (128 : Int32) + 4 * nI r + 1 = nI (129 + 4 * r) := by
        rw [show (4 : Int32) * nI r = nI (4 * r) from nI_mul 4 r, show (128 : Int32) + nI (4 * r) = nI (128 + 4 * r) from nI_add 128 _, nI_1]
        congr 1; omega
      have q2 : (176 : Int32) + 2 * nI i = nI (176 + 2 * i) := by
        rw [show (2 : Int32) * nI i = nI (2 * i) from nI_mul 2 i]
        exact nI_add 176 _
      have r5 : sm_row g 122 st (114 + 1) = g 115 := p_row_off (i := 122) (j := 115) (by omega)
      have r8 : sm_row g 122 st (114 + 8) = st := p_row_at (i := 122)
      have ru : ∀ k v, sm_up (sm_row g 122 st) (114 + 8) k v = sm_row g 122 (upd st k v) := fun k v => p_row_up (i := 122)
      unfold f_co_holds_L18 f_mo_isHolding_L15
      rw [sm_gd_t (sm_inb_nI (k := r) (n := 12) (by omega) (by omega)), nI_clamp (n := r) (by omega), show h (p + 9 + 3) r = nI (C (r + 1)) from b9, q1, sm_gd_t (sm_inb_nI (k := 129 + 4 * r) (n := 1268) (by omega) (by omega)), nI_clamp (n := 129 + 4 * r) (by omega), r5, b6]
      by_cases z : i = C (r + 1)
      · rw [if_pos (nI_le (by omega) (by omega)), if_pos (nI_le (by omega) (by omega)), l_cmp]
        refine ⟨p_bl a 0, st, rfl, ?_⟩
        unfold f_mo_isHolding_L206
        have e := hst 0 (by rw [z, H1]; omega)
        rw [z, H1] at e
        have d0 : (0 : Int32).toNatClampNeg = 0 := by decide
        rw [sm_gd_t (by decide), d0, r8, e]
        exact t_gb _ _
      · rw [if_neg (nI_ge (by omega) (by omega)), if_neg (nI_ge (by omega) (by omega)), sm_gd_t (sm_inb_nI (k := i) (n := 300) (by omega) (by omega)), q2, sm_gd_t (sm_inb_nI (k := 176 + 2 * i) (n := 1268) (by omega) (by omega)), nI_clamp (n := i) (by omega), nI_clamp (n := 176 + 2 * i) (by omega)]
        obtain ⟨m1, m2⟩ := HH i h2 (by omega)
        obtain ⟨o1, o2⟩ := cd i (by omega)
        have o1' : h (p + 9 + 1) i = g 115 (176 + 2 * i) := o1
        have o2' : h (p + 9 + 2) i = g 115 (177 + 2 * i) := o2
        simp only [sm_let, o1', o2']
        simp only [o1, o2] at m2
        have mle : ∀ m : Nat, 1 ≤ m → nI m - 1 = nI (m - 1) := fun m hm => nI_sub (b := 1) hm
        rcases m2 with ⟨ok, m3⟩ | ⟨ok, m4, m3⟩ | ⟨ok, m4, m3⟩
        · -- a test
          have V' : p_V s p Z D F R h (sm_row g 122 st 115) := by rw [p_row_off (by omega)]; exact V
          have S' : p_ST Y Z D F R s h (sm_row g 122 st 117) t := by rw [p_row_off (by omega)]; exact S
          have K' : p_RK Z D F s h (sm_row g 122 st 117) (sm_row g 122 st 115) := by rw [p_row_off (by omega), p_row_off (by omega)]; exact K
          obtain ⟨v, v1, v2⟩ := t_test V' S' K' ok
          have nt : g 115 (176 + 2 * i) ≠ 6 ∧ g 115 (176 + 2 * i) ≠ 7 ∧ g 115 (176 + 2 * i) ≠ 8 := by
            rcases ok with ⟨_, _, _, e | e⟩ | ⟨_, _, _, e⟩ | e | ⟨_, _, _, e⟩ | e <;> rw [e] <;> decide
          have q3 : nI (176 + 2 * i) + 1 = nI (177 + 2 * i) := by rw [nI_1]; congr 1; omega
          rw [if_neg nt.1, if_neg nt.2.1, if_neg nt.2.2, if_neg nt.1, if_neg nt.2.1, if_neg nt.2.2, sm_gd_t (sm_inb_nI (by omega) (by omega)), sm_gd_t (sm_inb_nI (by omega) (by omega)), q3, sm_gd_t (sm_inb_nI (by omega) (by omega)), nI_clamp (by omega), v1]
          simp only [sm_b2]
          rw [v2]
          simp only [Option.bind_some]
          rw [sm_gd_t (sm_inb_nI (by omega) (by omega)), nI_clamp (by omega), ru, l_zn]
          have nx := ih (i + 1) ((a <<< ((1 : Int32).toInt64 &&& 63)) ||| (if v = true then 1 else 0)) (upd st (H i) (sm_b2i v)) (by omega) (by omega) (by omega) (fun k hk => by
            rw [m3] at hk ⊢
            rw [l_or, l_shl _ _ (by omega)]
            by_cases y : k = 0
            · rw [y, if_pos rfl, show H i + 1 - 1 - 0 = H i by omega, p_ud_at]
              cases v
              · rw [if_neg (by decide), l_zero]; rfl
              · rw [if_pos rfl, l_one]; rfl
            · rw [if_neg y, p_ud_off (by omega), show H i + 1 - 1 - k = H i - 1 - (k - 1) by omega, hst (k - 1) (by omega)]
              cases v
              · rw [if_neg (by decide), l_zero, Bool.or_false]
              · rw [if_pos rfl, l_one, decide_eq_false y, Bool.or_false])
          obtain ⟨v', st', w1, w2⟩ := nx
          refine ⟨v', st', ?_, ?_⟩
          · rw [← w1, ← nI_1]
            cases v <;> rfl
          · rw [← w2, m3, ← nI_1, ← nI_1]
            rfl
        · -- not
          rw [ok, if_pos rfl, if_pos rfl, mle _ m4, sm_gd_t (sm_inb_nI (by omega) (by omega)), nI_clamp (by omega), r8]
          have e := hst 0 (by omega)
          rw [show H i - 1 - 0 = H i - 1 by omega] at e
          have nx := ih (i + 1) (a ^^^ 1) (upd st (H i - 1) (sm_b2i (!p_bl a 0))) (by omega) (by omega) (by omega) (fun k hk => by
            rw [m3] at hk ⊢
            rw [l_not]
            by_cases y : k = 0
            · rw [y, if_pos rfl, show H i - 1 - 0 = H i - 1 by omega, p_ud_at]
            · rw [if_neg y, p_ud_off (by omega), hst k hk])
          obtain ⟨v', st', w1, w2⟩ := nx
          refine ⟨v', st', ?_, ?_⟩
          · rw [← w1, ← nI_1]
            rfl
          · rw [← w2, m3, ← nI_1, e]
            have gi : sm_inb (nI (H i - 1)) 450 = true := sm_inb_nI (by omega) (by omega)
            have ci : (nI (H i - 1)).toNatClampNeg = H i - 1 := nI_clamp (by omega)
            simp only [f_mo_isHolding_L77, f_mo_isHolding_L200, sm_let, gi, s_true, ci, ru]
            cases p_bl a 0
            · rw [if_pos (by decide)]
              rfl
            · rw [if_neg (by decide)]
              rfl
        · -- and, or
          have e0 := hst 0 (by omega)
          rw [show H i - 1 - 0 = H i - 1 by omega] at e0
          have e1 := hst 1 (by omega)
          rw [show H i - 1 - 1 = H i - 2 by omega] at e1
          have m5 : H (i + 1) = H i - 1 := by omega
          have mm : nI (H i - 1) - 1 = nI (H i - 2) := by rw [mle _ (by omega)]; congr 1
          have gi : sm_inb (nI (H i - 1)) 450 = true := sm_inb_nI (by omega) (by omega)
          have ci : (nI (H i - 1)).toNatClampNeg = H i - 1 := nI_clamp (by omega)
          have gj : sm_inb (nI (H i - 2)) 450 = true := sm_inb_nI (by omega) (by omega)
          have cj : (nI (H i - 2)).toNatClampNeg = H i - 2 := nI_clamp (by omega)
          have m1' : nI (H i) - 1 = nI (H i - 1) := mle _ (by omega)
          have step : ∀ (a' : Int64) (b : Bool), (∀ k, k < H i - 1 → p_bl a' k = if k = 0 then b else p_bl a (k + 1)) → ∃ v st', f_co_holds_L18 n s (nI r) (p + 9) a' (nI (i + 1)) h = some (sm_b2i v, h) ∧ f_mo_isHolding_L15 n 114 (nI r) (nI (H i - 1)) (nI (i + 1)) (sm_row g 122 (upd st (H i - 2) (sm_b2i b))) = some (sm_b2i v, sm_row g 122 st') := by
            intro a' b hb
            have nx := ih (i + 1) a' (upd st (H i - 2) (sm_b2i b)) (by omega) (by omega) (by omega) (fun k hk => by
              rw [m5] at hk ⊢
              rw [hb k (by omega)]
              by_cases y : k = 0
              · rw [y, if_pos rfl, show H i - 1 - 1 - 0 = H i - 2 by omega, p_ud_at]
              · rw [if_neg y, p_ud_off (by omega), show H i - 1 - 1 - k = H i - 1 - (k + 1) by omega, hst (k + 1) (by omega)])
            rw [m5] at nx
            exact nx
          rcases ok with ok | ok
          · rw [ok, if_neg (by decide), if_pos rfl, if_neg (by decide), if_pos rfl]
            obtain ⟨v', st', w1, w2⟩ := step ((a >>> ((1 : Int32).toInt64 &&& 63)) &&& (a ||| (-2))) (p_bl a 1 && p_bl a 0) (fun k hk => by
              rw [l_and, l_shr _ _ (by omega), l_or, l_m2 _ (by omega)]
              by_cases y : k = 0
              · rw [y, if_pos rfl]; simp
              · rw [if_neg y, decide_eq_true y, Bool.or_true, Bool.and_true])
            refine ⟨v', st', ?_, ?_⟩
            · rw [← w1, ← nI_1]
              rfl
            · rw [← w2, ← nI_1]
              unfold f_mo_isHolding_L95
              simp only [f_mo_isHolding_L137, f_mo_isHolding_L166, f_mo_isHolding_L200, sm_let, m1', mm, gi, gj, ci, cj, s_true, r8, e0, e1, ru, if_true]
              cases p_bl a 1
              · rw [if_pos (by decide)]
                rfl
              · rw [if_neg (by decide)]
                cases p_bl a 0
                · rw [if_pos (by decide)]
                  rfl
                · rw [if_neg (by decide)]
                  rfl
          · rw [ok, if_neg (by decide), if_neg (by decide), if_pos rfl, if_neg (by decide), if_neg (by decide), if_pos rfl]
            obtain ⟨v', st', w1, w2⟩ := step ((a >>> ((1 : Int32).toInt64 &&& 63)) ||| (a &&& 1)) (p_bl a 1 || p_bl a 0) (fun k hk => by
              rw [l_or, l_shr _ _ (by omega), l_and, l_one]
              by_cases y : k = 0
              · rw [y, if_pos rfl]; simp
              · rw [if_neg y, decide_eq_false y, Bool.and_false, Bool.or_false])
            refine ⟨v', st', ?_, ?_⟩
            · rw [← w1, ← nI_1]
              rfl
            · rw [← w2, ← nI_1]
              unfold f_mo_isHolding_L95
              simp only [f_mo_isHolding_L161, f_mo_isHolding_L166, f_mo_isHolding_L200, sm_let, m1', mm, gi, gj, ci, cj, s_true, r8, e0, e1, ru]
              rw [if_neg (by decide)]
              cases p_bl a 1
              · rw [if_pos (by decide)]
                cases p_bl a 0
                · rw [if_pos (by decide)]
                  rfl
                · rw [if_neg (by decide)]
                  rfl
              · rw [if_neg (by decide)]
                rfl
  have q0 : (128 : Int32) + 4 * nI r = nI (128 + 4 * r) := by
    rw [show (4 : Int32) * nI r = nI (4 * r) from nI_mul 4 r]
    exact nI_add 128 _
  obtain ⟨v, st, v1, v2⟩ := L sm_N (C r) 0 (g 122) (by unfold sm_N; omega) (by omega) (by omega) (fun k hk => by omega)
  refine ⟨v, st, ?_, ?_⟩
  · unfold f_co_holds
    simp only [i1, i2, s_true, sm_let, sm_b2]
    rw [e_codeStart C0 hr hN2 (fun r hr => (CB r hr).2.2.2.2.2.2.2.2.1)]
    exact v1
  · unfold f_mo_isHolding
    rw [q0, sm_gd_t (sm_inb_nI (by omega) (by omega)), nI_clamp (by omega), show g (114 + 1) (128 + 4 * r) = nI (C r) from b5]
    rw [p_row_self, H0] at v2
    exact v2
end p_hold
