-- A TICK: supervision, dampers
section p_tick
variable {s p Y Z D F R t : Nat} {h g : sm_H} {q w : Nat → Int32}
def p_fh (s : Nat) (h h' : sm_H) : Prop := ∀ i, i < s ∨ s + 12 < i → h' i = h i
theorem p_fh.trans {h' h'' : sm_H} (a : p_fh s h h') (b : p_fh s h' h'') : p_fh s h h'' := fun i z => (b i z).trans (a i z)
theorem p_RK.ch (K : p_RK Z D F s h q w) (m : Nat) (v : Int32) (hm : m ≠ 1 ∧ m ≠ 2 ∧ m ≠ 7 ∧ (∀ d, d < D → 42 + 7 * d ≠ m ∧ 44 + 7 * d ≠ m ∧ 45 + 7 * d ≠ m) ∧ ∀ f, f < F → 154 + 6 * f ≠ m ∧ 156 + 6 * f ≠ m ∧ 157 + 6 * f ≠ m) : p_RK Z D F s h (upd q m v) w := by
  obtain ⟨a1, a3, a4, a5, a6, a7⟩ := K
  obtain ⟨m1, m2, m3, m4, m5⟩ := hm
  refine ⟨⟨by rw [p_ud_off (by omega)]; exact a1.1, by rw [p_ud_off (by omega)]; exact a1.2⟩, fun d hd => ?_, fun f hf => ?_, a5, a6, by rw [p_ud_off (by omega)]; exact a7⟩
  · obtain ⟨b1, b2, b3⟩ := m4 d hd
    rw [p_ud_off b1, p_ud_off b2, p_ud_off b3]
    exact a3 d hd
  · obtain ⟨b1, b2, b3⟩ := m5 f hf
    rw [p_ud_off b1, p_ud_off b2, p_ud_off b3]
    exact a4 f hf
theorem p_RK.heap {h' : sm_H} (K : p_RK Z D F s h q w) (e8 : h' (s + 8) 0 = h (s + 8) 0) (e0 : ∀ j, j < 32 → sm_bt (h' s 8) j = true → sm_bt (h s 8) j = true ∨ j < D ∨ (16 ≤ j ∧ j < 16 + F) ∨ j = 22) : p_RK Z D F s h' q w := by
  obtain ⟨a1, a3, a4, a5, a6, a7⟩ := K
  exact ⟨a1, a3, a4, by rw [e8]; exact a5, fun j hj hb => (e0 j hj hb).elim (a6 j hj) id, by rw [e8]; exact a7⟩
theorem p_RK.lr (K : p_RK Z D F s h q w) (C : p_CT Z D F R) (n : Nat) (v m : Int32) : p_RK Z D F s h (p_lr q n v m) w := by
  obtain ⟨a1, a3, a4, a5, a6, a7⟩ := K
  obtain ⟨c1, c2, c3, c4, c5⟩ := C
  refine ⟨⟨by rw [p_lr_off (by omega) (by omega)]; exact a1.1, by rw [p_lr_off (by omega) (by omega)]; exact a1.2⟩, fun d hd => ?_, fun f hf => ?_, a5, a6, by rw [p_lr_off (by omega) (by omega)]; exact a7⟩
  · rw [p_lr_off (by omega) (by omega), p_lr_off (by omega) (by omega), p_lr_off (by omega) (by omega)]
    exact a3 d hd
  · rw [p_lr_off (by omega) (by omega), p_lr_off (by omega) (by omega), p_lr_off (by omega) (by omega)]
    exact a4 f hf
theorem t_sup (hY : Y ≤ Z) (B : p_B Y s p Z D F R t h q w) {u mT mB : Nat} (hu : u < 23) (eT : p_eq Y Z D F 7 u mT) (eB : p_bi Z D F R 0 8 u mB) (ht : t < 2 ^ 30) (lim code num : Int32) (late : Bool) :
    ∃ h' q' t', f_st_supervise s (nI u) (sm_b2i late) lim code num h = some h' ∧ t' ≤ t + 1 ∧ p_B Y s p Z D F R t' h' q' w ∧ p_fh s h h' ∧ (∀ k, k < 200 → k ≠ mT → k ≠ mB → k ≠ 9 → q' k = q k) ∧
      (late = false → q' = upd q mT 0) ∧ (late = true → (q mT + 1 = lim → q mB = 0 → ∃ n, upd (upd q mT (q mT + 1)) mB 1 9 = nI n ∧ n ≤ 50 ∧ q' = p_lr (upd (upd q mT (q mT + 1)) mB 1) n code num) ∧ (¬ (q mT + 1 = lim ∧ q mB = 0) → q' = upd q mT (q mT + 1))) := by
  obtain ⟨V, S, K⟩ := id B
  have hs := V.2.1
  have hp := V.1
  have C : p_CT Z D F R := V.2.2.2.1
  have hT : mT < 200 ∧ mT ≠ 9 ∧ (mT ≠ 1 ∧ mT ≠ 2 ∧ mT ≠ 7 ∧ (∀ d, d < D → 42 + 7 * d ≠ mT ∧ 44 + 7 * d ≠ mT ∧ 45 + 7 * d ≠ mT) ∧ ∀ f, f < F → 154 + 6 * f ≠ mT ∧ 156 + 6 * f ≠ mT ∧ 157 + 6 * f ≠ mT) := by
    obtain ⟨c1, c2, c3, c4, c5⟩ := C
    have : mT = 5 ∨ (u < D ∧ mT = 47 + 7 * u) ∨ (16 ≤ u ∧ u < 16 + F ∧ mT = 158 + 6 * (u - 16)) := by
      unfold p_eq at eT
      omega
    exact ⟨by omega, by omega, by omega, by omega, by omega, fun d hd => by omega, fun f hf => by omega⟩
  have hB : mB < 200 ∧ mB ≠ 9 ∧ (mB ≠ 1 ∧ mB ≠ 2 ∧ mB ≠ 7 ∧ (∀ d, d < D → 42 + 7 * d ≠ mB ∧ 44 + 7 * d ≠ mB ∧ 45 + 7 * d ≠ mB) ∧ ∀ f, f < F → 154 + 6 * f ≠ mB ∧ 156 + 6 * f ≠ mB ∧ 157 + 6 * f ≠ mB) ∧ (u < D ∨ (16 ≤ u ∧ u < 16 + F) ∨ u = 22) ∧ mB ≠ mT ∧ mB ≠ 0 ∧ mT ≠ 0 := by
    obtain ⟨c1, c2, c3, c4, c5⟩ := C
    have h1 : mT = 5 ∨ (u < D ∧ mT = 47 + 7 * u) ∨ (16 ≤ u ∧ u < 16 + F ∧ mT = 158 + 6 * (u - 16)) := by
      unfold p_eq at eT
      omega
    have h2 : (u = 22 ∧ mB = 6) ∨ (u < D ∧ mB = 48 + 7 * u) ∨ (16 ≤ u ∧ u < 16 + F ∧ mB = 159 + 6 * (u - 16)) := by
      unfold p_bi at eB
      omega
    exact ⟨by omega, by omega, ⟨by omega, by omega, by omega, fun d hd => by omega, fun f hf => by omega⟩, by omega, by omega, by omega, by omega⟩
  have tm : h (s + 7) u = q mT := S.1 7 u mT eT
  have tr : q mB = sm_b2i (sm_bt (h s 8) u) := S.2.1 0 8 u mB eB
  have tt : h s 1 = q 0 := S.1 0 1 0 q_time
  have v7 : ∀ v, p_B Y s p Z D F R t (sm_up h (s + 7) u v) (upd q mT v) w ∧ p_fh s h (sm_up h (s + 7) u v) := fun v =>
    ⟨⟨V.rows (fun i hi => sm_up_ne _ _ _ _ _ (by omega)) (sm_up_off (by omega)), S.cell C hY v eT, (K.ch mT v hT.2.2).heap (sm_up_off (by omega)) (fun j hj hb => by rw [sm_up_off (by omega)] at hb; exact Or.inl hb)⟩, fun i hi => sm_up_ne _ _ _ _ _ (by omega)⟩
  cases late
  · refine ⟨sm_up h (s + 7) u 0, upd q mT 0, t, ?_, by omega, (v7 0).1, (v7 0).2, fun k k1 k2 k3 k4 => p_ud_off k2, fun _ => rfl, fun z => by cases z⟩
    unfold f_st_supervise
    rw [if_pos (by decide), sm_gd_t (sm_inb_nI hu (by omega)), nI_clamp (by omega)]
    rfl
  · have B1 := v7 (q mT + 1)
    have sup0 : f_st_supervise s (nI u) (sm_b2i true) lim code num h = (if q mT + 1 = lim then (if sm_b2i (sm_bt (h s 8) u) = 0 then Option.bind (f_lo_add (s + 9) (h s 1) code num (sm_up (sm_up h (s + 7) u (q mT + 1)) s 8 (sm_wb (h s 8) u true))) fun g17 => some g17 else some (sm_up h (s + 7) u (q mT + 1))) else some (sm_up h (s + 7) u (q mT + 1))) := by
      have x1 : sm_up h (s + 7) u (q mT + 1) (s + 7) u = q mT + 1 := p_up_at
      have x2 : sm_up h (s + 7) u (q mT + 1) s 8 = h s 8 := sm_up_off (by omega)
      have x3 : sm_up (sm_up h (s + 7) u (q mT + 1)) s 8 (sm_wb (h s 8) u (!decide ((1 : Int32) = 0))) s 1 = h s 1 := by rw [sm_up_off (by omega), sm_up_off (by omega)]
      unfold f_st_supervise
      have gi : sm_inb (nI u) 23 = true := sm_inb_nI hu (by omega)
      have ci : (nI u).toNatClampNeg = u := nI_clamp (by omega)
      rw [if_neg (by decide)]
      simp only [sm_let, sm_b2, gi, s_true, ci, tm]
      rw [x1, x2, e_has _ _ _ (by omega)]
      simp only [Option.bind_some]
      rw [x2, e_with]
      simp only [Option.bind_some]
      rw [x3]
      rfl
    by_cases z : q mT + 1 = lim ∧ q mB = 0
    · have S1 := B1.1.2.1
      have S2 := S1.bit C hY (o := 0) (k := 8) (j := u) (m := mB) true eB
      have e2 : sm_up (sm_up h (s + 7) u (q mT + 1)) (s + 0) 8 (sm_wb (sm_up h (s + 7) u (q mT + 1) (s + 0) 8) u true) = sm_up (sm_up h (s + 7) u (q mT + 1)) s 8 (sm_wb (h s 8) u true) := by
        rw [show s + 0 = s from rfl, show sm_up h (s + 7) u (q mT + 1) s 8 = h s 8 from sm_up_off (by omega)]
      rw [e2] at S2
      obtain ⟨n, n1, n2, S3⟩ := S2.log C hY (h s 1) code num (by rw [p_ud_off (by omega), p_ud_off (by omega)]; exact tt) ht
      have h9 : sm_up (sm_up h (s + 7) u (q mT + 1)) s 8 (sm_wb (h s 8) u true) (s + 9) 0 = nI t := by
        rw [sm_up_off (by omega), sm_up_off (by omega)]
        obtain ⟨-, -, -, nn, l1, -⟩ := S
        exact l1
      refine ⟨_, _, t + 1, ?_, by omega, ⟨V.rows (fun i hi => ?_) ?_, S3, ?_⟩, fun i hi => ?_, fun k k1 k2 k3 k4 => ?_, fun y => (by cases y), fun _ => ⟨fun _ _ => ⟨n, n1, n2, rfl⟩, fun y => absurd z y⟩⟩
      · rw [sup0, if_pos z.1, if_pos (by rw [← tr]; exact z.2), e_loadd ht h9]
        rfl
      · rw [p_la_row (by omega), sm_up_ne _ _ _ _ _ (by omega), sm_up_ne _ _ _ _ _ (by omega)]
      · rw [p_la_row (by omega), sm_up_off (by omega), sm_up_off (by omega)]
      · refine (((K.ch mT _ hT.2.2).ch mB _ hB.2.2.1).lr C n code num).heap ?_ (fun j hj hb => ?_)
        · rw [p_la_row (by omega), sm_up_off (by omega), sm_up_off (by omega)]
        · rw [p_la_row (by omega), p_up_at, sm_bt_wb _ _ _ _ (by omega) hj] at hb
          by_cases y : j = u
          · rw [y]
            exact Or.inr hB.2.2.2.1
          · rw [if_neg y] at hb
            exact Or.inl hb
      · rw [p_la_row (by omega), sm_up_ne _ _ _ _ _ (by omega), sm_up_ne _ _ _ _ _ (by omega)]
      · rw [p_lr_off k1 k4, p_ud_off k3, p_ud_off k2]
    · refine ⟨_, _, t, ?_, by omega, B1.1, B1.2, fun k k1 k2 k3 k4 => p_ud_off k2, fun y => (by cases y), fun _ => ⟨fun y1 y2 => absurd ⟨y1, y2⟩ z, fun _ => rfl⟩⟩
      rw [sup0]
      by_cases y : q mT + 1 = lim
      · rw [if_pos y, if_neg (by rw [← tr]; exact fun x => z ⟨y, x⟩)]
      · rw [if_neg y]
theorem p_RK.pos (K : p_RK Z D F s h q w) (C : p_CT Z D F R) {d P T : Nat} (hd : d < D) (hT : w (12 + 4 * d) = nI T) (hP : P ≤ T) (hT30 : T ≤ 30) : p_RK Z D F s h (upd q (42 + 7 * d) (nI P)) w := by
  obtain ⟨a1, a3, a4, a5, a6, a7⟩ := K
  obtain ⟨c1, c2, c3, c4, c5⟩ := C
  refine ⟨⟨by rw [p_ud_off (by omega)]; exact a1.1, by rw [p_ud_off (by omega)]; exact a1.2⟩, fun e he => ?_, fun f hf => ?_, a5, a6, by rw [p_ud_off (by omega)]; exact a7⟩
  · rw [p_ud_off (k := 42 + 7 * d) (j := 44 + 7 * e) (by omega), p_ud_off (k := 42 + 7 * d) (j := 45 + 7 * e) (by omega)]
    by_cases z : e = d
    · subst z
      rw [p_ud_at]
      exact ⟨⟨P, T, rfl, hT, hP, hT30⟩, (a3 e he).2⟩
    · rw [p_ud_off (by omega)]
      exact a3 e he
  · rw [p_ud_off (by omega), p_ud_off (by omega), p_ud_off (by omega)]
    exact a4 f hf
theorem t_damper (hY : Y ≤ Z) (B : p_B Y s p Z D F R t h q (g 115)) (ht : t < 2 ^ 30) {d : Nat} (hd : d < D) (cm : p_cm (h 109 d) (g 125 d)) (n : Nat) :
    ∃ h' q' t', f_en_moveDampers_L7 (n + 1) 106 s p (nI d) h = f_en_moveDampers_L7 n 106 s p (nI (d + 1)) h' ∧ f_mo_moveDamper 114 (nI d) (sm_row g 117 q) = some (sm_row g 117 q') ∧ t' ≤ t + 1 ∧ p_B Y s p Z D F R t' h' q' (g 115) ∧ p_fh s h h' ∧ q' 0 = q 0 := by
  obtain ⟨V, S, K⟩ := id B
  have hs := V.2.1
  have hp := V.1
  have C : p_CT Z D F R := V.2.2.2.1
  obtain ⟨c1, c2, c3, c4, c5⟩ := id C
  obtain ⟨a1, a2, a3, a4, a5, a6, a7, a8, gg, ww, w1, w2, w3, w4, w5, w6, w7⟩ := V.2.2.2.2.1
  obtain ⟨kk, zz, T, -, -, T1, T2, -, -, -, -, hT, wT, -⟩ := V.2.2.2.2.2.1 d hd
  obtain ⟨⟨P, T', qP, wT', hPT, hT30⟩, -, -⟩ := K.2.1 d hd
  have eT : T' = T := by
    rw [wT] at wT'
    exact ((nI_eq (by omega) (by omega)).mp wT').symm
  subst eT
  have hpos : h (s + 3) d = nI P := by rw [← qP]; exact S.1 3 d _ (q_pos hd)
  have hjam : q (43 + 7 * d) = sm_b2i (sm_bt (h s 7) d) := S.2.1 0 7 d _ (w_jam hd)
  have r125 : ∀ q', sm_row g 117 q' 125 = g 125 := fun q' => p_row_off (by omega)
  have r115 : ∀ q', sm_row g 117 q' 115 = g 115 := fun q' => p_row_off (by omega)
  have r117 : ∀ q', sm_row g 117 q' 117 = q' := fun q' => p_row_at
  have gi : sm_inb (nI d) 23 = true := sm_inb_nI (by omega) (by omega)
  have gi' : sm_inb (nI d) 16 = true := sm_inb_nI (by omega) (by omega)
  have ci : (nI d).toNatClampNeg = d := nI_clamp (by omega)
  have hd16 : d < 16 := by omega
  -- the goal position
  obtain ⟨G, hG, gT⟩ : ∃ G, ((h 109 d = 1 ∧ g 125 d = 1 ∧ G = T') ∨ (h 109 d = 2 ∧ g 125 d = 0 ∧ G = 0)) ∧ G ≤ T' := by
    rcases cm with ⟨y, x⟩ | ⟨y, x⟩
    · exact ⟨T', Or.inl ⟨y, x, rfl⟩, Nat.le_refl _⟩
    · exact ⟨0, Or.inr ⟨y, x, rfl⟩, Nat.zero_le _⟩
  have cw : (h 109 d = 1 ∧ g 125 d = 1) ∨ (h 109 d = 2 ∧ g 125 d = 0) := hG.elim (fun x => Or.inl ⟨x.1, x.2.1⟩) (fun x => Or.inr ⟨x.1, x.2.1⟩)
  have start1 : f_en_moveDampers_L7 (n + 1) 106 s p (nI d) h = f_en_moveDampers_L42 (f_en_moveDampers_L7 n) 106 s p (nI d) (h 109 d) (nI G) h := by
    show (if h p 1 ≤ nI d then _ else _) = _
    rw [a3, if_neg (nI_ge hd (by omega))]
    simp only [sm_let, gi, s_true, ci, hT, Nat.reduceAdd]
    rcases hG with ⟨y, _, x⟩ | ⟨y, _, x⟩
    · rw [if_pos y, x]
    · rw [if_neg (by rw [y]; decide), x]
      rfl
  have start2 : f_mo_moveDamper 114 (nI d) (sm_row g 117 q) = f_mo_moveDamper_L22 114 (nI d) (nI T') (nI G) (sm_row g 117 q) := by
    unfold f_mo_moveDamper
    simp only [sm_b2, Option.bind_some, e_dO2 hd16, r115, wT, gi', s_true, ci, Nat.reduceAdd, r125]
    rcases hG with ⟨_, y, x⟩ | ⟨_, y, x⟩
    · rw [if_pos y, x]
    · rw [if_neg (by rw [y]; decide), x]
      rfl
  -- the move
  have st1 : ∃ h1 q1 P', P' ≤ T' ∧ f_en_moveDampers_L42 (f_en_moveDampers_L7 n) 106 s p (nI d) (h 109 d) (nI G) h = f_en_moveDampers_L86 (f_en_moveDampers_L7 n) 106 s p (nI d) (h 109 d) (nI G) h1 ∧ f_mo_moveDamper_L22 114 (nI d) (nI T') (nI G) (sm_row g 117 q) = f_mo_moveDamper_L73 114 (nI d) (nI T') (nI G) (nI P') (sm_row g 117 q1) ∧ p_B Y s p Z D F R t h1 q1 (g 115) ∧ p_fh s h h1 ∧ h1 (s + 3) d = nI P' ∧ q1 0 = q 0 := by
    unfold f_en_moveDampers_L42 f_mo_moveDamper_L22
    rw [e_has _ _ _ (by omega)]
    simp only [sm_b2, Option.bind_some, e_dI0 hd16, e_dI1 hd16, r117, qP, hjam, gi, s_true, ci, hpos]
    cases sm_bt (h s 7) d
    · rw [if_pos (show sm_b2i false = 0 from rfl), if_pos (show sm_b2i false = 0 from rfl)]
      by_cases z : P = G
      · rw [if_pos (by rw [z]), if_pos (by rw [z])]
        exact ⟨h, q, P, hPT, rfl, rfl, B, fun _ _ => rfl, hpos, rfl⟩
      · have zz : ¬ nI P = nI G := fun y => z ((nI_eq (by omega) (by omega)).mp y)
        rw [if_neg zz, if_neg zz]
        have mv : ∀ P' v, P' ≤ T' → nI P + v = nI P' → ∃ h1 q1 P'', P'' ≤ T' ∧ f_en_moveDampers_L84 (f_en_moveDampers_L7 n) 106 s p (nI d) (h 109 d) (nI G) v (nI P) (nI d) (s + 3) h = f_en_moveDampers_L86 (f_en_moveDampers_L7 n) 106 s p (nI d) (h 109 d) (nI G) h1 ∧ f_mo_moveDamper_L63 114 (nI d) (nI T') (nI G) (nI P') (sm_row g 117 q) = f_mo_moveDamper_L73 114 (nI d) (nI T') (nI G) (nI P'') (sm_row g 117 q1) ∧ p_B Y s p Z D F R t h1 q1 (g 115) ∧ p_fh s h h1 ∧ h1 (s + 3) d = nI P'' ∧ q1 0 = q 0 := by
          intro P' v hP' hv
          refine ⟨sm_up h (s + 3) d (nI P'), upd q (42 + 7 * d) (nI P'), P', hP', ?_, ?_, ⟨V.rows (fun i hi => sm_up_ne _ _ _ _ _ (by omega)) (sm_up_off (by omega)), S.cell C hY (nI P') (q_pos hd), (K.pos C hd wT hP' hT30).heap (sm_up_off (by omega)) (fun j hj hb => by rw [sm_up_off (by omega)] at hb; exact Or.inl hb)⟩, fun i hi => sm_up_ne _ _ _ _ _ (by omega), p_up_at, p_ud_off (by omega)⟩
          · unfold f_en_moveDampers_L84
            simp only [gi, s_true, ci, hv, sm_let]
          · unfold f_mo_moveDamper_L63
            rw [e_pD0 hd16]
            rfl
        rcases hG with ⟨y, _, x⟩ | ⟨y, _, x⟩
        · rw [if_pos y, if_neg (nI_ge (by omega) (by omega)), show nI P + 1 = nI (P + 1) from nI_add P 1]
          exact mv (P + 1) 1 (by omega) (nI_add P 1)
        · have e : nI P - 1 = nI (P - 1) := nI_sub (b := 1) (by omega)
          have e' : nI P + (-1) = nI (P - 1) := by
            have := pk_m1 (P - 1)
            rw [show P - 1 + 1 = P by omega] at this
            exact this
          rw [if_neg (by rw [y]; decide), if_pos (nI_le (by omega) (by omega)), e]
          exact mv (P - 1) (-1) (by omega) e'
    · rw [if_neg (show ¬ sm_b2i true = 0 by decide), if_neg (show ¬ sm_b2i true = 0 by decide)]
      exact ⟨h, q, P, hPT, rfl, rfl, B, fun _ _ => rfl, hpos, rfl⟩
  obtain ⟨h1, q1, P', hP', e1, e2, B1, f1, hpos1, t1⟩ := st1
  obtain ⟨V1, S1, K1⟩ := id B1
  have h109 : h1 109 = h 109 := f1 109 (by omega)
  have hpv := S1.2.2.1 d hd
  have cmp : (h 109 d = h1 (s + 6) d) = (q1 (46 + 7 * d) = g 125 d) := by
    apply propext
    rcases hpv with ⟨y, x⟩ | ⟨y, x⟩ | ⟨y, x⟩ <;> rcases cw with ⟨v, u⟩ | ⟨v, u⟩ <;> rw [y, x, v, u] <;> decide
  have late : ∃ b, f_en_moveDampers_L86 (f_en_moveDampers_L7 n) 106 s p (nI d) (h 109 d) (nI G) h1 = f_en_moveDampers_L113 (f_en_moveDampers_L7 n) 106 s p (nI d) (h 109 d) (sm_b2i b) h1 ∧ f_mo_moveDamper_L73 114 (nI d) (nI T') (nI G) (nI P') (sm_row g 117 q1) = f_mo_moveDamper_L93 114 (nI d) (nI T') (nI G) (nI P') (if q1 (46 + 7 * d) = g 125 d then 0 else 1) (sm_row g 117 q1) ∧ b = (decide (q1 (46 + 7 * d) = g 125 d) && !decide (P' = G)) := by
    refine ⟨_, ?_, ?_, rfl⟩
    · unfold f_en_moveDampers_L86
      simp only [gi, s_true, ci, hpos1]
      by_cases z : q1 (46 + 7 * d) = g 125 d
      · rw [if_pos (by rw [cmp]; exact z), decide_eq_true z]
        by_cases y : P' = G
        · rw [if_pos (by rw [y]), decide_eq_true y]
          rfl
        · rw [if_neg (fun x => y ((nI_eq (by omega) (by omega)).mp x)), decide_eq_false y]
          rfl
      · rw [if_neg (by rw [cmp]; exact z), decide_eq_false z]
        rfl
    · unfold f_mo_moveDamper_L73
      simp only [sm_b2, Option.bind_some, e_dI4 hd16, r117, gi', s_true, ci, Nat.reduceAdd, r125]
      split <;> rfl
  obtain ⟨b, e3, e4, hb⟩ := late
  have B2 : p_B Y s p Z D F R t (sm_up h1 (s + 6) d (h 109 d)) (upd q1 (46 + 7 * d) (g 125 d)) (g 115) := by
    refine ⟨V1.rows (fun i hi => sm_up_ne _ _ _ _ _ (by omega)) (sm_up_off (by omega)), S1.prev C hY hd (Or.inr cw), (K1.ch (46 + 7 * d) _ ⟨by omega, by omega, by omega, fun d hd => by omega, fun f hf => by omega⟩).heap (sm_up_off (by omega)) (fun j hj hb => by rw [sm_up_off (by omega)] at hb; exact Or.inl hb)⟩
  obtain ⟨h3, q3, t3, u1, u2, u3, u4, u5, u6, u7⟩ := t_sup hY B2 (u := d) (by omega) (q_tm hd) (w_tr hd) ht (nI T' + nI ww) 1 (nI d) b
  have f2 : p_fh s h1 (sm_up h1 (s + 6) d (h 109 d)) := fun i hi => sm_up_ne _ _ _ _ _ (by omega)
  refine ⟨h3, q3, t3, ?_, ?_, u2, u3, (f1.trans f2).trans u4, ?_⟩
  · have x1 : h1 (p + 2) d = nI T' := by rw [f1 _ (by omega)]; exact hT
    have x2 : h1 p 5 = nI ww := by rw [f1 _ (by omega)]; exact w6
    rw [start1, e1, e3]
    unfold f_en_moveDampers_L113
    simp only [sm_let, gi, s_true, ci]
    rw [sm_up_off (by omega), sm_up_off (by omega), x1, x2, u1, ← nI_1]
    rfl
  · rw [start2, e2, e4]
    unfold f_mo_moveDamper_L93 f_mo_moveDamper_L118
    simp only [gi', s_true, ci, Nat.reduceAdd, r125, e_pD4 hd16, Option.bind_some]
    generalize hq2 : upd q1 (46 + 7 * d) (g 125 d) = q2 at u6 u7 ⊢
    have l118 : b = false → f_mo_put 114 (nI d) 5 0 (sm_row g 117 q2) = some (sm_row g 117 q3) := fun z => by rw [e_pD5 hd16, u6 z]
    by_cases z : q1 (46 + 7 * d) = g 125 d
    · rw [if_pos z, if_pos rfl]
      rw [decide_eq_true z, Bool.true_and] at hb
      by_cases y : P' = G
      · rw [decide_eq_true y] at hb
        rw [if_pos (by rw [y]), l118 hb]
        rfl
      · rw [decide_eq_false y] at hb
        obtain ⟨u8, u9⟩ := u7 hb
        rw [if_neg (fun x => y ((nI_eq (by omega) (by omega)).mp x))]
        simp only [sm_b2, e_dI5 hd16, r117, Option.bind_some, e_pD5 hd16, p_ud_at, s_i6, s_c6, Nat.reduceAdd, r115, w7, e_dI6 hd16]
        rw [p_ud_off (k := 47 + 7 * d) (j := 48 + 7 * d) (by omega)]
        by_cases x : q2 (47 + 7 * d) + 1 = nI T' + nI ww
        · rw [if_pos x]
          by_cases v : q2 (48 + 7 * d) = 0
          · obtain ⟨nn, n1, n2, n3⟩ := u8 x v
            rw [if_pos v, e_pD6 hd16]
            simp only [Option.bind_some]
            rw [e_record n1 n2, n3]
            rfl
          · rw [if_neg v, u9 (fun y => v y.2)]
        · rw [if_neg x, u9 (fun y => x y.1)]
    · rw [if_neg z, if_neg (by decide)]
      rw [decide_eq_false z, Bool.false_and] at hb
      rw [l118 hb]
      rfl
  · rw [u5 0 (by omega) (by omega) (by omega) (by omega), p_ud_off (by omega), t1]
end p_tick
