-- A TICK: the staircase's pressure
section p_press2
variable {s p Y Z D F R t : Nat} {h g : sm_H} {q : Nat → Int32}
theorem p_RK.thr (K : p_RK Z D F s h q (g 115)) (C : p_CT Z D F R) {v : Nat} (hv : v ≤ 100) : p_RK Z D F s h (upd q 2 (nI v)) (g 115) := by
  obtain ⟨a1, a3, a4, a5, a6, a7⟩ := K
  obtain ⟨c1, c2, c3, c4, c5⟩ := C
  refine ⟨⟨by rw [p_ud_off (by omega)]; exact a1.1, v, hv, p_ud_at⟩, fun e he => ?_, fun f hf => ?_, a5, a6, by rw [p_ud_off (by omega)]; exact a7⟩
  · rw [p_ud_off (by omega), p_ud_off (by omega), p_ud_off (by omega)]
    exact a3 e he
  · rw [p_ud_off (by omega), p_ud_off (by omega), p_ud_off (by omega)]
    exact a4 f hf
theorem t_pressure (hY : Y ≤ Z) (B : p_B Y s p Z D F R t h q (g 115)) (ht : t < 2 ^ 30) (cm : ∀ f, f < F → p_cm (h 109 (16 + f)) (g 127 f)) :
    ∃ Q h' q' t' P, f_st_stairAir s h = some (nI Q, h) ∧ f_en_controlPressure 106 s (nI Q * h s 4 / 100) h = some h' ∧ f_mo_pressStair 114 (sm_row g 117 q) = some (sm_row (sm_up g 114 31 (nI Q * h s 4 / 100)) 117 q') ∧ t' ≤ t + 1 ∧ p_B Y s p Z D F R t' h' q' (g 115) ∧ p_fh s h h' ∧ q' 0 = q 0 ∧ P ≤ 999 ∧ q' 3 = nI P := by
  obtain ⟨V, S, K⟩ := id B
  have hs := V.2.1
  have hp := V.1
  have C : p_CT Z D F R := V.2.2.2.1
  obtain ⟨c1, c2, c3, c4, c5⟩ := id C
  obtain ⟨i1, i2⟩ := V.isP
  obtain ⟨a1, a2, a3, a4, a5, a6, a7, a8, gt, ww, w1, w2, w3, w4, w5, w6, w7⟩ := V.2.2.2.2.1
  have r115 : ∀ (g : sm_H) q', sm_row g 117 q' 115 = g 115 := fun g q' => p_row_off (by omega)
  have r117 : ∀ (g : sm_H) q', sm_row g 117 q' 117 = q' := fun g q' => p_row_at
  have r114 : ∀ (g : sm_H) q', sm_row g 117 q' 114 = g 114 := fun g q' => p_row_off (by omega)
  have ru : ∀ (g : sm_H) (q : Nat → Int32) k v, sm_up (sm_row g 117 q) 117 k v = sm_row g 117 (upd q k v) := fun g q k v => p_row_up
  have V' : ∀ q', p_V s p Z D F R h (sm_row g 117 q' 115) := fun q' => by rw [r115]; exact V
  have S' : p_ST Y Z D F R s h (sm_row g 117 q 117) t := by rw [r117]; exact S
  have K' : p_RK Z D F s h (sm_row g 117 q 117) (sm_row g 117 q 115) := by rw [r117, r115]; exact K
  obtain ⟨Q, hQ, q1, q2⟩ := t_stairAir (V' q) S' K'
  obtain ⟨v, hv, tv⟩ := K.1.2
  have e4 : h s 4 = nI v := by rw [← tv]; exact S.1 0 4 2 q_thr
  obtain ⟨air, ha, hair⟩ : ∃ A, A ≤ 6000 ∧ nI Q * nI v / 100 = nI A := by
    have m1 : Q * v ≤ 6000 * 100 := Nat.mul_le_mul hQ hv
    refine ⟨Q * v / 100, by omega, ?_⟩
    rw [nI_mul]
    exact pk_div (d := 100) (by omega) (by omega) (by omega)
  have g0 : sm_up g 114 31 (nI air) 115 = g 115 := sm_up_ne _ _ _ _ _ (by omega)
  -- the pressure
  have P1 : p_PL Z D F R p h (sm_row (sm_up g 114 31 (nI air)) 117 q 115) := by rw [r115, g0]; exact V.2.2.2
  have S1 : p_ST Y Z D F R s h (sm_row (sm_up g 114 31 (nI air)) 117 q 117) t := by rw [r117]; exact S
  obtain ⟨x, x1, x2⟩ := t_openDoors P1 S1
  have ar := p_ar_b V.2.2.2 (sm_bt (h s 6)) R (Nat.le_refl _)
  have hx : p_ar (g 115) (sm_bt x) R = p_ar (g 115) (sm_bt (h s 6)) R := p_ar_ext R (fun d hd => by rw [x2 d (by omega), decide_eq_true hd, Bool.true_and])
  obtain ⟨A, hA⟩ : ∃ A, A = p_ar (g 115) (sm_bt (h s 6)) R := ⟨_, rfl⟩
  rw [← hA] at ar hx
  obtain ⟨P, hP, hP2, -⟩ := p_pr_n (Q := air) (A := A) ha (by omega)
  -- pressure set
  have B1 : p_B Y s p Z D F R t (sm_up h s 3 (nI P)) (upd q 3 (nI P)) (g 115) := ⟨V.rows (fun i hi => sm_up_ne _ _ _ _ _ (by omega)) (sm_up_off (by omega)), S.cell C hY (nI P) q_press, (K.ch 3 _ ⟨by omega, by omega, by omega, fun d hd => by omega, fun f hf => by omega⟩).heap (sm_up_off (by omega)) (fun j hj hb => by rw [sm_up_off (by omega)] at hb; exact Or.inl hb)⟩
  have f1 : p_fh s h (sm_up h s 3 (nI P)) := fun i hi => sm_up_ne _ _ _ _ _ (by omega)
  -- throttle set
  have thr : ∃ v', v' ≤ 100 ∧ nI v' = (if P ≤ gt + 5 then (if gt ≤ P then nI v else nI (min 100 (v + 5))) else nI (max 20 (v - 5))) := by
    split
    · split
      · exact ⟨v, hv, rfl⟩
      · exact ⟨_, by omega, rfl⟩
    · exact ⟨_, by omega, rfl⟩
  obtain ⟨v', hv', ev'⟩ := thr
  have B2 : p_B Y s p Z D F R t (sm_up (sm_up h s 3 (nI P)) s 4 (nI v')) (upd (upd q 3 (nI P)) 2 (nI v')) (g 115) := ⟨B1.1.rows (fun i hi => sm_up_ne _ _ _ _ _ (by omega)) (sm_up_off (by omega)), B1.2.1.cell C hY (nI v') q_thr, (B1.2.2.thr C hv').heap (sm_up_off (by omega)) (fun j hj hb => by rw [sm_up_off (by omega)] at hb; exact Or.inl hb)⟩
  have f2 : p_fh s (sm_up h s 3 (nI P)) (sm_up (sm_up h s 3 (nI P)) s 4 (nI v')) := fun i hi => sm_up_ne _ _ _ _ _ (by omega)
  obtain ⟨h2, hh2⟩ : ∃ h2, h2 = sm_up (sm_up h s 3 (nI P)) s 4 (nI v') := ⟨_, rfl⟩
  obtain ⟨z2, hz2⟩ : ∃ z2, z2 = upd (upd q 3 (nI P)) 2 (nI v') := ⟨_, rfl⟩
  rw [← hh2] at B2 f2
  rw [← hz2] at B2
  have h109 : h2 109 = h 109 := by rw [hh2, sm_up_ne _ _ _ _ _ (by omega), sm_up_ne _ _ _ _ _ (by omega)]
  obtain ⟨b, b1, b2⟩ := t_wanted (h := h2) (g := sm_row (sm_up g 114 31 (nI air)) 117 z2) (s := s) (p := p) (Z := Z) (D := D) (F := F) (R := R) (by rw [r115, g0]; exact B2.1) (fun f hf => by rw [h109, p_row_off (by omega), sm_up_ne _ _ _ _ _ (by omega)]; exact cm f hf)
  obtain ⟨late, hlate⟩ : ∃ late : Bool, late = (!decide (gt ≤ P) && b) := ⟨_, rfl⟩
  obtain ⟨h3, q3, t3, u1, u2, u3, u4, u5, u6, u7⟩ := t_sup hY B2 (u := 22) (by omega) q_pt w_pt ht 30 3 0 late
  refine ⟨Q, h3, q3, t3, P, q1, ?_, ?_, u2, u3, (f1.trans f2).trans u4, ?_, hP, ?_⟩
  · have e6 : h2 s 0 = nI p := B2.1.2.2.1
    have fin : f_en_controlPressure_L87 106 s (sm_b2i (!decide (gt ≤ P))) h2 = some h3 := by
      have bd : ∀ x : Option sm_H, (Option.bind x fun g20 => some g20) = x := fun x => by cases x <;> rfl
      obtain ⟨j1, j2⟩ := p_isPp hp
      unfold f_en_controlPressure_L87 f_en_controlPressure_L110 f_en_controlPressure_L111
      simp only [bd, e6, j1, j2, s_true, sm_let, sm_b2, b1, Option.bind_some]
      by_cases z : gt ≤ P
      · rw [decide_eq_true z] at hlate ⊢
        rw [hlate] at u1
        rw [if_pos (show sm_b2i (!true) = 0 from rfl)]
        exact u1
      · rw [decide_eq_false z] at hlate ⊢
        rw [if_neg (show ¬ sm_b2i (!false) = 0 by decide)]
        rw [hlate] at u1
        cases b
        · rw [if_pos s_bf]
          exact u1
        · rw [if_neg s_bt]
          exact u1
    have p3 : sm_up h s 3 (nI P) s 3 = nI P := p_up_at
    have p4 : sm_up h s 3 (nI P) s 4 = nI v := by rw [sm_up_off (by omega)]; exact e4
    have l37 : ∀ y : Int32, y = sm_b2i (!decide (gt ≤ P)) → f_en_controlPressure_L37 106 s (nI gt) y (sm_up h s 3 (nI P)) = some h3 := by
      intro y hy
      unfold f_en_controlPressure_L37
      rw [p3, p4, show nI gt + 5 = nI (gt + 5) from nI_add gt 5, s_min, s_max]
      simp only [sm_b2, Option.bind_some, sm_let]
      have id1 : v' = v → h2 = sm_up h s 3 (nI P) := fun e => by
        rw [hh2, e]
        funext a k
        unfold sm_up
        by_cases z : a = s ∧ k = 4
        · rw [if_pos z, z.1, z.2, if_neg (by omega)]
          exact e4.symm
        · rw [if_neg z]
      have nv : ∀ m, m ≤ 200 → nI v' = nI m → v' = m := fun m hm e => (nI_eq (by omega) (by omega)).mp e
      by_cases z : P ≤ gt + 5
      · rw [if_pos z] at ev'
        rw [if_pos (nI_le z (by omega))]
        by_cases y2 : gt ≤ P
        · rw [if_pos y2] at ev'
          rw [decide_eq_true y2] at hy fin
          rw [if_pos (show y = 0 from hy), hy, ← id1 (nv v (by omega) ev')]
          exact fin
        · rw [if_neg y2] at ev'
          rw [decide_eq_false y2] at hy fin
          have e5 : (if nI v + 5 < 100 then nI v + 5 else 100) = nI v' := by
            rw [ev', show nI v + 5 = nI (v + 5) from nI_add v 5]
            by_cases x : v + 5 < 100
            · rw [if_pos (show nI (v + 5) < (100 : Int32) from nI_lt (b := 100) x (by omega)), Nat.min_eq_right (by omega)]
            · rw [if_neg (show ¬ nI (v + 5) < (100 : Int32) from nI_nlt (b := 100) (by omega) (by omega)), Nat.min_eq_left (by omega)]
              rfl
          rw [if_neg (show ¬ y = 0 by rw [hy]; decide), hy, e5, ← hh2]
          exact fin
      · rw [if_neg z] at ev'
        rw [if_neg (nI_ge (by omega) (by omega))]
        have e5 : (if 20 < nI v - 5 then nI v - 5 else 20) = nI v' := by
          rw [ev']
          by_cases x : 5 ≤ v
          · rw [show nI v - 5 = nI (v - 5) from nI_sub (b := 5) x]
            by_cases x2 : 20 < v - 5
            · rw [if_pos (show (20 : Int32) < nI (v - 5) from nI_lt (a := 20) x2 (by omega)), Nat.max_eq_right (by omega)]
            · rw [if_neg (show ¬ (20 : Int32) < nI (v - 5) from nI_nlt (a := 20) (by omega) (by omega)), Nat.max_eq_left (by omega)]
              rfl
          · have : v = 0 ∨ v = 1 ∨ v = 2 ∨ v = 3 ∨ v = 4 := by omega
            rcases this with e | e | e | e | e <;> rw [e] <;> decide
        rw [e5, ← hh2, hy]
        exact fin
    have e0 : h s 0 = nI p := V.2.2.1
    unfold f_en_controlPressure
    rw [e4, hair, e0]
    simp only [(p_isPp hp).1, (p_isPp hp).2, s_true, sm_let, w4, t_pressC V.2.2.2, sm_b2, Option.bind_some]
    rw [← hA, hP2, p3]
    by_cases z : gt ≤ P
    · rw [if_pos (nI_le z (by omega))]
      exact l37 0 (by rw [decide_eq_true z]; rfl)
    · rw [if_neg (nI_ge (by omega) (by omega))]
      exact l37 1 (by rw [decide_eq_false z]; rfl)
  · have l104 : f_mo_pressStair_L104 114 (nI P) (sm_row (sm_up g 114 31 (nI air)) 117 z2) = some (sm_row (sm_up g 114 31 (nI air)) 117 q3) := by
      unfold f_mo_pressStair_L104 f_mo_pressStair_L121
      rw [b2]
      simp only [sm_b2, Option.bind_some, s_i5, s_c5, s_j5, s_j6, s_c6, Nat.reduceAdd, r115, g0, w5, r117, ru, p_ud_at, sm_let]
      rw [p_ud_off (k := 5) (j := 6) (by omega)]
      cases b
      · rw [if_pos s_bf, u6 (by rw [hlate, Bool.and_false])]
      · rw [if_neg s_bt]
        by_cases z : gt ≤ P
        · rw [if_neg (nI_nlt z (by omega)), u6 (by rw [hlate, decide_eq_true z]; rfl)]
        · obtain ⟨u8, u9⟩ := u7 (by rw [hlate, decide_eq_false z]; rfl)
          rw [if_pos (nI_lt (by omega) (by omega))]
          by_cases x : z2 5 + 1 = 30
          · rw [if_pos x]
            by_cases y : z2 6 = 0
            · obtain ⟨nn, n1, n2, n3⟩ := u8 x y
              rw [if_pos y, e_record n1 n2, n3]
              rfl
            · rw [if_neg y, u9 (fun k => y k.2)]
          · rw [if_neg x, u9 (fun k => x k.1)]
    have e2 : q 2 = nI v := tv
    have g31 : sm_up g 114 31 (nI air) 114 31 = nI air := p_up_at
    rw [e4, hair]
    unfold f_mo_pressStair
    rw [q2]
    simp only [sm_b2, Option.bind_some, s_j2, s_c2, Nat.reduceAdd, r117, e2, sm_let]
    rw [hair, p_up_row (by omega), x1]
    simp only [Option.bind_some]
    rw [t_areaR P1, r115, g0, hx]
    simp only [Option.bind_some]
    rw [r114, g31, t_pressR (by omega), hP2]
    simp only [Option.bind_some, s_j3, s_c3, s_i5, s_c5, ru, r115, g0, w5, r117, s_j2]
    rw [show nI gt + 5 = nI (gt + 5) from nI_add gt 5, s_lesser, s_greater, p_ud_off (k := 3) (j := 2) (by omega), e2]
    simp only [Option.bind_some]
    have id1 : v' = v → z2 = upd q 3 (nI P) := fun e => by
      rw [hz2, e]
      exact p_ud_id (by rw [p_ud_off (by omega)]; exact e2)
    have nv : ∀ m, m ≤ 200 → nI v' = nI m → v' = m := fun m hm e => (nI_eq (by omega) (by omega)).mp e
    by_cases z : P ≤ gt + 5
    · rw [if_pos z] at ev'
      rw [if_pos (nI_le z (by omega))]
      by_cases y2 : gt ≤ P
      · rw [if_pos y2] at ev'
        rw [if_pos (nI_le y2 (by omega)), ← id1 (nv v (by omega) ev')]
        exact l104
      · rw [if_neg y2] at ev'
        have e5 : (if nI v + 5 < 100 then nI v + 5 else 100) = nI v' := by
          rw [ev', show nI v + 5 = nI (v + 5) from nI_add v 5]
          by_cases x : v + 5 < 100
          · rw [if_pos (show nI (v + 5) < (100 : Int32) from nI_lt (b := 100) x (by omega)), Nat.min_eq_right (by omega)]
          · rw [if_neg (show ¬ nI (v + 5) < (100 : Int32) from nI_nlt (b := 100) (by omega) (by omega)), Nat.min_eq_left (by omega)]
            rfl
        rw [if_neg (nI_ge (by omega) (by omega)), e5, ru, ← hz2]
        exact l104
    · rw [if_neg z] at ev'
      rw [if_neg (nI_ge (by omega) (by omega))]
      have e5 : (if 20 < nI v - 5 then nI v - 5 else 20) = nI v' := by
        rw [ev']
        by_cases x : 5 ≤ v
        · rw [show nI v - 5 = nI (v - 5) from nI_sub (b := 5) x]
          by_cases x2 : 20 < v - 5
          · rw [if_pos (show (20 : Int32) < nI (v - 5) from nI_lt (a := 20) x2 (by omega)), Nat.max_eq_right (by omega)]
          · rw [if_neg (show ¬ (20 : Int32) < nI (v - 5) from nI_nlt (a := 20) (by omega) (by omega)), Nat.max_eq_left (by omega)]
            rfl
        · have : v = 0 ∨ v = 1 ∨ v = 2 ∨ v = 3 ∨ v = 4 := by omega
          rcases this with e | e | e | e | e <;> rw [e] <;> decide
      rw [e5, ru, ← hz2]
      exact l104
  · rw [u5 0 (by omega) (by omega) (by omega) (by omega), hz2, p_ud_off (by omega), p_ud_off (by omega)]
  · rw [u5 3 (by omega) (by omega) (by omega) (by omega), hz2, p_ud_off (by omega), p_ud_at]
end p_press2
