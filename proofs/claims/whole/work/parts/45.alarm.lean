-- A TICK: smoke joined; alarms
section p_alarm
variable {s p Y Z D F R t : Nat} {h g : sm_H} {q : Nat → Int32}
theorem p_RK.cong {h' : sm_H} {q' w : Nat → Int32} (K : p_RK Z D F s h q w) (C : p_CT Z D F R) (e : ∀ m, m = 1 ∨ m = 2 ∨ m = 7 ∨ (42 ≤ m ∧ m < 200) → q' m = q m) (e8 : h' (s + 8) 0 = h (s + 8) 0) (e0 : h' s 8 = h s 8) : p_RK Z D F s h' q' w := by
  obtain ⟨a1, a3, a4, a5, a6, a7⟩ := K
  obtain ⟨c1, c2, c3, c4, c5⟩ := C
  refine ⟨by rw [e 1 (by omega), e 2 (by omega)]; exact a1, fun d hd => ?_, fun f hf => ?_, by rw [e8]; exact a5, by rw [e0]; exact a6, by rw [e8, e 7 (by omega)]; exact a7⟩
  · rw [e _ (by omega), e _ (by omega), e _ (by omega)]
    exact a3 d hd
  · rw [e _ (by omega), e _ (by omega), e _ (by omega)]
    exact a4 f hf
theorem t_smoke (B : p_B Z s p Z D F R t h q (g 115)) {N : Nat} (hN : N ≤ 999) (hP : q 3 = nI N) {air : Int32} (hair : g 114 31 = air) (hU : ∀ z, z < 8 → h 111 z = p_at (p_sp (sm_row g 117 q) z 0) (p_sv (sm_row g 117 q) D) D F ∧ h 112 z = p_at (p_sp (sm_row g 117 q) z 1) (p_sv (sm_row g 117 q) D) D F) :
    ∃ h' q' g', f_en_moveSmoke 106 s air h = some h' ∧ f_mo_spreadSmoke 114 (sm_row g 117 q) = some (sm_row g' 117 q') ∧ p_B Z s p Z D F R t h' q' (g 115) ∧ (∀ i, i < s ∨ s + 12 < i → i ≠ 113 → h' i = h i) ∧ (∀ i, i ≠ 117 → i < 129 ∨ 131 < i → g' i = g i) ∧ q' 0 = q 0 := by
  obtain ⟨V, S, K⟩ := id B
  have hs := V.2.1
  have hp := V.1
  have C : p_CT Z D F R := V.2.2.2.1
  obtain ⟨c1, c2, c3, c4, c5⟩ := id C
  obtain ⟨U, hUU⟩ : ∃ U : Nat → Int32, U = fun z => p_at (p_sp (sm_row g 117 q) z 0) (p_sv (sm_row g 117 q) D) D F := ⟨_, rfl⟩
  obtain ⟨E, hEE⟩ : ∃ E : Nat → Int32, E = fun z => p_at (p_sp (sm_row g 117 q) z 1) (p_sv (sm_row g 117 q) D) D F := ⟨_, rfl⟩
  have hU' : ∀ z, z < 8 → h 111 z = U z ∧ h 112 z = E z := by rw [hUU, hEE]; exact hU
  obtain ⟨b, hbb⟩ : ∃ b, b = p_sb q U E := ⟨_, rfl⟩
  obtain ⟨h1, a1, a2, a3⟩ := t_sm1 V S hU' air
  rw [← hbb] at a3
  have V1 : p_V s p Z D F R h1 (g 115) := V.rows (fun i hi => a2 i (by omega)) (by rw [a2 s (by omega)])
  have a4 := t_sm2 (g := g) V1 a3 air
  rw [a2 s (by omega)] at a4
  obtain ⟨val, hval⟩ : ∃ v, v = p_mn 1000 (h s 5 + p_lk b (g 115) (sm_bt (h s 6)) (p_mx 0 (12 - h s 3)) R) - p_mn 1000 (h s 5 + p_lk b (g 115) (sm_bt (h s 6)) (p_mx 0 (12 - h s 3)) R) * p_mn 1000 air / 4000 := ⟨_, rfl⟩
  rw [← hval] at a4
  have l7 : sm_len 113 = 8 := by decide +kernel
  obtain ⟨h3, hh3⟩ : ∃ h3, h3 = sm_row (sm_up h1 s 5 val) 113 (fun k => if k < sm_len 113 then 0 else (sm_up h1 s 5 val) 113 k) := ⟨_, rfl⟩
  have a5 : f_en_moveSmoke 106 s air h = f_en_moveSmoke_L106 sm_N 106 s (nI Z) (nI 0) h3 := by
    rw [a1]
    unfold f_en_moveSmoke_L90
    refine w_bd a4 ?_
    refine w_bd (e_fill 113 0 _ (by rw [l7]; omega)) ?_
    rw [hh3]
    rfl
  have f3 : ∀ i, i ≠ s → i ≠ s + 1 → i ≠ 113 → h3 i = h i := fun i x y z => by rw [hh3, p_row_off z, sm_up_ne _ _ _ _ _ x, a2 i y]
  have f31 : ∀ z, z < Z → h3 (s + 1) z = b z := fun z hz => by rw [hh3, p_row_off (by omega), sm_up_off (by omega)]; exact a3 z hz
  have f313 : ∀ z, z < 8 → h3 113 z = 0 := fun z hz => by rw [hh3, p_row_at, l7, if_pos hz]
  have f30 : ∀ k, k ≠ 5 → h3 s k = h s k := fun k hk => by rw [hh3, p_row_off (by omega), sm_up_off (by omega), a2 s (by omega)]
  have f35 : h3 s 5 = val := by rw [hh3, p_row_off (by omega), p_up_at]
  -- the reference
  have r115 : sm_row g 117 q 115 = g 115 := p_row_off (by omega)
  have r117 : sm_row g 117 q 117 = q := p_row_at
  obtain ⟨g1, b1, b2, b3⟩ := t_sm3 (g := sm_row g 117 q) (h := h) (p := p) (Z := Z) (D := D) (F := F) (R := R) (by rw [r115]; exact V.2.2.2) (U := U) (E := E) (fun z hz => by rw [hUU, hEE]; exact ⟨rfl, rfl⟩)
  rw [r117, ← hbb] at b3
  have g115 : g1 115 = g 115 := (b2 115 (by omega)).trans r115
  have z2 : g 115 0 = nI Z := V.2.2.2.2.1.2.1
  obtain ⟨hc, gr, d1, d2, d3, d4, d5⟩ := t_sm4 (s := s) (h := h3) (g := g1) (b := b) (N := fun z => U z - E z) c1 c2 (by rw [g115]; exact z2) f31 (fun z hz => by rw [f3 111 (by omega) (by omega) (by omega), f3 112 (by omega) (by omega) (by omega), (hU' z (by omega)).1, (hU' z (by omega)).2]) (fun z hz => (b3 z hz).1) (fun z hz => (b3 z hz).2.2) (by omega) sm_N 0 h3 g1 (by unfold sm_N; omega) (by omega) (fun _ _ => rfl) (fun _ _ => rfl) (fun z hz => by rw [(b3 z hz).2.1, f313 z (by omega), Int32.add_zero])
  have gr117 : gr 117 = q := (d4 117 (by omega)).trans ((b2 117 (by omega)).trans r117)
  have gr115 : gr 115 = g 115 := (d4 115 (by omega)).trans g115
  have gr114 : gr 114 = g 114 := (d4 114 (by omega)).trans ((b2 114 (by omega)).trans (p_row_off (by omega)))
  obtain ⟨h5, q5, k1, k2, k3, k4, k5⟩ := t_sm5 (s := s) (h := hc) (g := gr) (q := q) (T := fun z => gr 130 z) c2 (by rw [gr115]; exact z2) (by omega) (fun z hz => rfl) sm_N 0 hc q (by unfold sm_N; omega) (by omega) (fun _ _ => rfl) (fun z x y => by
    show hc (s + 1) z + hc 113 z = gr 130 z
    rw [d5 z y, d3 (s + 1) (by omega), f31 z y]) (fun z hz => by omega) (fun _ _ => rfl)
  have q3 : q5 3 = nI N := by rw [k5 3 (fun z hz => by omega)]; exact hP
  have q4 : q5 4 = q 4 := k5 4 (fun z hz => by omega)
  have lk := t_leak (g := gr) (q := q5) (h := h) (p := p) (Z := Z) (D := D) (F := F) (R := R) (b := b) (x := h s 6) (by rw [gr115]; exact V.2.2.2) (fun z hz => by rw [d4 129 (by omega)]; exact (b3 z hz).1) (fun d hd => by rw [k5 _ (fun z hz => by omega)]; exact S.2.1 0 6 d _ (w_door hd)) hN q3
  have e3 : h s 3 = q5 3 := by rw [k5 3 (fun z hz => by omega)]; exact S.1 0 3 3 q_press
  have e5 : h s 5 = q5 4 := by rw [q4]; exact S.1 0 5 4 q_ss
  rw [gr115, gr114, hair, ← e3, ← e5, ← hval] at lk
  have f5 : ∀ i, i ≠ s → i ≠ s + 1 → i ≠ 113 → h5 i = h i := fun i x y z => by rw [k3 i y, d3 i z, f3 i x y z]
  have h5s : h5 s = h3 s := by rw [k3 s (by omega), d3 s (by omega)]
  refine ⟨h5, upd q5 4 val, gr, ?_, ?_, ⟨V.rows (fun i hi => f5 i (by omega) (by omega) (by omega)) (by rw [h5s, f30 0 (by omega)]), S.smoke C (fun o x y => f5 _ (by omega) (by omega) (by omega)) (fun k hk => by rw [h5s, f30 k hk]) (by rw [h5s, f35, p_ud_at]) (fun z hz => by rw [(k4 z hz).1, p_ud_off (by omega), (k4 z hz).2]) (fun m m1 m2 => by rw [p_ud_off m1, k5 m m2]), K.cong C (fun m hm => by rw [p_ud_off (by omega), k5 m (fun z hz => by omega)]) (by rw [f5 _ (by omega) (by omega) (by omega)]) (by rw [h5s, f30 8 (by omega)])⟩, fun i x y => f5 i (by omega) (by omega) y, fun i h117 hi => ?_, by rw [p_ud_off (by omega), k5 0 (fun z hz => by omega)]⟩
  · rw [a5, d1]
    unfold f_en_moveSmoke_L178
    exact k1
  · rw [b1]
    unfold f_mo_spreadSmoke_L101
    rw [show f_mo_spreadSmoke_L103 sm_N 114 0 g1 = f_mo_spreadSmoke_L103 sm_N 114 (nI 0) g1 from rfl, d2]
    unfold f_mo_spreadSmoke_L137
    have e : gr = sm_row gr 117 q := by rw [← gr117]; exact (p_row_self _ _).symm
    rw [show f_mo_spreadSmoke_L139 sm_N 114 0 gr = f_mo_spreadSmoke_L139 sm_N 114 (nI 0) (sm_row gr 117 q) by rw [← e]; rfl, k2]
    unfold f_mo_spreadSmoke_L177
    rw [lk]
    rfl
  · rw [d4 i (by omega), b2 i hi, p_row_off h117]
theorem p_lr_cg {q q' : Nat → Int32} {k n : Nat} {c m : Int32} (h : ∀ j, j ≠ k → q' j = q j) (k0 : k ≠ 0) (k2 : k < 200) : ∀ j, j ≠ k → p_lr q' n c m j = p_lr q n c m j := by
  intro j hj
  unfold p_lr
  split
  · have ud : ∀ (f f' : Nat → Int32) a v, f' j = f j → upd f' a v j = upd f a v j := fun f f' a v e => by
      unfold upd
      split
      · rfl
      · exact e
    rw [h 0 (by omega)]
    exact ud _ _ _ _ (ud _ _ _ _ (ud _ _ _ _ (ud _ _ _ _ (h j hj))))
  · have ud : ∀ (f f' : Nat → Int32) a v, f' j = f j → upd f' a v j = upd f a v j := fun f f' a v e => by
      unfold upd
      split
      · rfl
      · exact e
    rw [h 0 (by omega)]
    refine ud _ _ _ _ (ud _ _ _ _ (ud _ _ _ _ (ud _ _ _ _ ?_)))
    by_cases z : 200 ≤ j ∧ j < 347
    · rw [if_pos z, if_pos z]
      exact h _ (by omega)
    · rw [if_neg z, if_neg z]
      exact h j hj
theorem p_lr_ud {q : Nat → Int32} {k n : Nat} {c m v : Int32} (k0 : k ≠ 0) (k9 : k ≠ 9) (k2 : k < 200) : upd (p_lr q n c m) k v = p_lr (upd q k v) n c m := by
  funext j
  by_cases z : j = k
  · rw [z, p_ud_at, p_lr_off k2 k9, p_ud_at]
  · rw [p_ud_off z]
    exact (p_lr_cg (fun i hi => p_ud_off hi) k0 k2 j z).symm
theorem p_ud_cm {q : Nat → Int32} {a b : Nat} {x y : Int32} (e : a ≠ b) : upd (upd q a x) b y = upd (upd q b y) a x := by
  funext j
  unfold upd
  by_cases z : j = b
  · rw [if_pos z, if_neg (by omega), if_pos z]
  · rw [if_neg z]
    by_cases w : j = a
    · rw [if_pos w, if_pos w]
    · rw [if_neg w, if_neg w, if_neg z]
-- the row as it will be when the first alarm zone found so far is written down
def p_ht (a : Int32) (q : Nat → Int32) : Nat → Int32 := if a = -1 then q else if q 7 = -1 then upd (upd q 7 a) 8 (q 0) else q
theorem p_RK.al {h' : sm_H} {q' w : Nat → Int32} {z : Nat} (K : p_RK Z D F s h q w) (C : p_CT Z D F R) (hz : z < Z) (e : ∀ m, m = 1 ∨ m = 2 ∨ (42 ≤ m ∧ m < 200) → q' m = q m) (e8 : h' (s + 8) 0 = sm_wb (h (s + 8) 0) z true) (e0 : h' s 8 = h s 8) (e7 : (q' 7 = q 7 ∧ q 7 ≠ -1) ∨ q' 7 = nI z) : p_RK Z D F s h' q' w := by
  obtain ⟨a1, a3, a4, a5, a6, a7⟩ := K
  obtain ⟨c1, c2, c3, c4, c5⟩ := C
  refine ⟨by rw [e 1 (by omega), e 2 (by omega)]; exact a1, fun d hd => ?_, fun f hf => ?_, fun j hj hb => ?_, by rw [e0]; exact a6, Or.inr ?_⟩
  · rw [e _ (by omega), e _ (by omega), e _ (by omega)]
    exact a3 d hd
  · rw [e _ (by omega), e _ (by omega), e _ (by omega)]
    exact a4 f hf
  · rw [e8, sm_bt_wb _ _ _ _ (by omega) hj] at hb
    by_cases y : j = z
    · omega
    · rw [if_neg y] at hb
      exact a5 j hj hb
  · rw [e8]
    rcases e7 with ⟨x, y⟩ | x
    · rcases a7 with ⟨v, _⟩ | ⟨z0, v1, v2, v3⟩
      · exact absurd v y
      · refine ⟨z0, v1, by rw [x]; exact v2, ?_⟩
        rw [sm_bt_wb _ _ _ _ (by omega) (by omega)]
        split
        · rfl
        · exact v3
    · refine ⟨z, hz, x, ?_⟩
      rw [sm_bt_wb _ _ _ _ (by omega) (by omega), if_pos rfl]
-- one alarm
theorem t_raise1 (B : p_B Z s p Z D F R t h q (g 115)) (ht : t < 2 ^ 30) {z : Nat} (hz : z < Z) : ∃ n, upd q (12 + 4 * z) 1 9 = nI n ∧ n ≤ 50 ∧
    ∃ h', f_lo_add (s + 9) (h s 1) 0 (nI z) (sm_up h (s + 8) 0 (sm_wb (h (s + 8) 0) z true)) = some h' ∧ h' s 1 = h s 1 ∧ h' (s + 8) 2 = q 7 ∧ p_fh s h h' ∧
      (q 7 ≠ -1 → p_B Z s p Z D F R (t + 1) h' (p_lr (upd q (12 + 4 * z) 1) n 0 (nI z)) (g 115)) ∧
      (q 7 = -1 → p_B Z s p Z D F R (t + 1) (sm_up (sm_up h' (s + 8) 2 (nI z)) (s + 8) 3 (h s 1)) (upd (upd (p_lr (upd q (12 + 4 * z) 1) n 0 (nI z)) 7 (nI z)) 8 (q 0)) (g 115)) := by
  obtain ⟨V, S, K⟩ := id B
  have hs := V.2.1
  have hp := V.1
  have C : p_CT Z D F R := V.2.2.2.1
  obtain ⟨c1, c2, c3, c4, c5⟩ := id C
  have S1 := S.bit C (Nat.le_refl _) true (w_al hz)
  obtain ⟨n, n1, n2, S2⟩ := S1.log C (Nat.le_refl _) (h s 1) 0 (nI z) (by rw [p_ud_off (by omega)]; exact S.1 0 1 0 q_time) ht
  have h9 : sm_up h (s + 8) 0 (sm_wb (h (s + 8) 0) z true) (s + 9) 0 = nI t := by
    rw [sm_up_off (by omega)]
    obtain ⟨-, -, -, nn, l1, -⟩ := S
    exact l1
  have e1 := e_loadd (s := s) ht h9 (h s 1) 0 (nI z)
  obtain ⟨h', hh'⟩ : ∃ h', h' = p_la s (sm_up h (s + 8) 0 (sm_wb (h (s + 8) 0) z true)) t (h s 1) 0 (nI z) := ⟨_, rfl⟩
  rw [← hh'] at e1 S2
  have r : ∀ i, i < s + 8 ∨ s + 12 < i → h' i = h i := fun i hi => by rw [hh', p_la_row (by omega), sm_up_ne _ _ _ _ _ (by omega)]
  have r8 : ∀ k, k ≠ 0 → h' (s + 8) k = h (s + 8) k := fun k hk => by rw [hh', p_la_row (by omega), sm_up_off (by omega)]
  have r80 : h' (s + 8) 0 = sm_wb (h (s + 8) 0) z true := by rw [hh', p_la_row (by omega), p_up_at]
  have q7 : h (s + 8) 2 = q 7 := S.1 8 2 7 q_first
  have ql : ∀ m, m = 1 ∨ m = 2 ∨ m = 7 ∨ (42 ≤ m ∧ m < 200) → p_lr (upd q (12 + 4 * z) 1) n 0 (nI z) m = q m := fun m hm => by
    rw [p_lr_off (by omega) (by omega), p_ud_off (by omega)]
  refine ⟨n, n1, n2, h', e1, by rw [r s (by omega)], by rw [r8 2 (by omega)]; exact q7, fun i hi => r i (by omega), fun h7 => ?_, fun h7 => ?_⟩
  · exact ⟨V.rows (fun i hi => r i (by omega)) (by rw [r s (by omega)]), S2, K.al C hz (fun m hm => ql m (by omega)) r80 (by rw [r s (by omega)]) (Or.inl ⟨ql 7 (by omega), h7⟩)⟩
  · have S3 := S2.cell C (Nat.le_refl _) (nI z) q_first
    have S4 := S3.cell C (Nat.le_refl _) (h s 1) q_since
    have e0 : h s 1 = q 0 := S.1 0 1 0 q_time
    refine ⟨V.rows (fun i hi => ?_) ?_, ?_, K.al C hz (fun m hm => ?_) ?_ ?_ (Or.inr ?_)⟩
    · rw [sm_up_ne _ _ _ _ _ (by omega), sm_up_ne _ _ _ _ _ (by omega), r i (by omega)]
    · rw [sm_up_off (by omega), sm_up_off (by omega), r s (by omega)]
    · rw [← e0]
      exact S4
    · rw [p_ud_off (by omega), p_ud_off (by omega), ql m (by omega)]
    · rw [sm_up_off (by omega), sm_up_off (by omega), r80]
    · rw [sm_up_off (by omega), sm_up_off (by omega), r s (by omega)]
    · rw [p_ud_off (by omega), p_ud_at]
theorem t_raise (B : p_B Z s p Z D F R t h q (g 115)) (ht : t + 8 < 2 ^ 30) : ∃ h' q' t', f_al_raise (s + 8) s h = some h' ∧ f_mo_raiseAlarms 114 (sm_row g 117 q) = some (sm_row g 117 q') ∧ t' ≤ t + 8 ∧ p_B Z s p Z D F R t' h' q' (g 115) ∧ p_fh s h h' ∧ q' 0 = q 0 := by
  obtain ⟨V0, S0, K0⟩ := id B
  have hs := V0.2.1
  have hp := V0.1
  have C : p_CT Z D F R := V0.2.2.2.1
  obtain ⟨c1, c2, c3, c4, c5⟩ := id C
  have z2 : g 115 0 = nI Z := V0.2.2.2.2.1.2.1
  have r115 : ∀ q', sm_row g 117 q' 115 = g 115 := fun q' => p_row_off (by omega)
  have r117 : ∀ q', sm_row g 117 q' 117 = q' := fun q' => p_row_at
  have ru : ∀ (q : Nat → Int32) k v, sm_up (sm_row g 117 q) 117 k v = sm_row g 117 (upd q k v) := fun q k v => p_row_up
  have m1 : ∀ k, k < 8 → ¬ nI k = -1 := fun k hk => p_m1 (by omega)
  have L : ∀ n i h1 q1 t1 a, Z - i < n → i ≤ Z → (a = -1 ∨ ∃ k, k < Z ∧ a = nI k) → p_B Z s p Z D F R t1 h1 (p_ht a q1) (g 115) → t1 ≤ t + i → p_fh s h h1 → q1 0 = q 0 → ∃ h' q' t', f_al_raise_L2 n (s + 8) s (nI i) h1 = some h' ∧ f_mo_raiseAlarms_L4 n 114 a (nI i) (sm_row g 117 q1) = some (sm_row g 117 q') ∧ t' ≤ t + 8 ∧ p_B Z s p Z D F R t' h' q' (g 115) ∧ p_fh s h h' ∧ q' 0 = q 0 := by
    intro n
    induction n with
    | zero => intro i h1 q1 t1 a y; omega
    | succ n ih =>
      intro i h1 q1 t1 a y1 y2 ha B1 ht1 f1 q0
      obtain ⟨V, S, K⟩ := id B1
      obtain ⟨i1, i2⟩ := V.isP
      unfold f_al_raise_L2 f_mo_raiseAlarms_L4
      rw [i1, s_true, i2, s_i0, s_c0, show sm_row g 117 q1 (114 + 1) 0 = nI Z by rw [r115]; exact z2]
      simp only [sm_let, show h1 p 0 = nI Z from V.2.2.2.2.1.1]
      by_cases y : i = Z
      · rw [if_pos (nI_le (by omega) (by omega)), if_pos (nI_le (by omega) (by omega))]
        refine ⟨h1, p_ht a q1, t1, rfl, ?_, by omega, B1, f1, ?_⟩
        · unfold f_mo_raiseAlarms_L78 p_ht
          rw [s_j7]
          simp only [s_c7, Nat.reduceAdd, r117]
          by_cases x : a = -1
          · rw [if_pos x, if_pos x]
          · rw [if_neg x, if_neg x]
            by_cases w : q1 7 = -1
            · rw [if_pos w, if_pos w]
              simp only [s_j7, s_j0, s_j8, s_c0, s_c8, sm_let, ru, r117]
              rw [p_ud_off (k := 7) (j := 0) (by omega)]
            · rw [if_neg w, if_neg w]
        · unfold p_ht
          split
          · exact q0
          · split
            · rw [p_ud_off (by omega), p_ud_off (by omega)]
              exact q0
            · exact q0
      · have hi : i < 8 := by omega
        have hz : i < Z := by omega
        have gi : sm_inb (nI i) 8 = true := sm_inb_nI hi (by omega)
        have ci : (nI i).toNatClampNeg = i := nI_clamp (by omega)
        -- the row's cells are those of the row to be
        have hq : ∀ m, m ≠ 7 → m ≠ 8 → p_ht a q1 m = q1 m := fun m x1 x2 => by
          unfold p_ht
          split
          · rfl
          · split
            · rw [p_ud_off x2, p_ud_off x1]
            · rfl
        have sm : h1 (s + 1) i = q1 (10 + 4 * i) := by rw [← hq _ (by omega) (by omega)]; exact S.1 1 i _ (q_smoke hz)
        have al : q1 (12 + 4 * i) = sm_b2i (sm_bt (h1 (s + 8) 0) i) := by rw [← hq _ (by omega) (by omega)]; exact S.2.1 8 0 i _ (w_al hz)
        have di : q1 (13 + 4 * i) = sm_b2i (sm_bt (h1 (s + 8) 1) i) := by rw [← hq _ (by omega) (by omega)]; exact S.2.1 8 1 i _ (w_dis hz)
        have skip : ∃ h' q' t', f_al_raise_L92 (f_al_raise_L2 n) (s + 8) s (nI i) h1 = some h' ∧ f_mo_raiseAlarms_L72 (f_mo_raiseAlarms_L4 n) 114 a (nI i) (sm_row g 117 q1) = some (sm_row g 117 q') ∧ t' ≤ t + 8 ∧ p_B Z s p Z D F R t' h' q' (g 115) ∧ p_fh s h h' ∧ q' 0 = q 0 := by
          simp only [f_al_raise_L92, f_mo_raiseAlarms_L72, sm_let, nI_1]
          exact ih (i + 1) h1 q1 t1 a (by omega) (by omega) ha B1 (by omega) f1 q0
        rw [if_neg (nI_ge (by omega) (by omega)), if_neg (nI_ge (by omega) (by omega))]
        simp only [gi, ci, s_true, sm_b2, e_zI0 hi, e_zI2 hi, e_zI3 hi, r117, Option.bind_some, sm, al, di]
        by_cases x : q1 (10 + 4 * i) < 100
        · rw [if_pos x, if_pos x]
          exact skip
        · rw [if_neg x, if_neg x, e_has _ _ _ (by omega)]
          simp only [Option.bind_some]
          cases w : sm_bt (h1 (s + 8) 0) i
          · rw [if_pos s_bf, if_neg (show ¬ sm_b2i false = 1 by decide), e_has _ _ _ (by omega)]
            simp only [Option.bind_some]
            cases v : sm_bt (h1 (s + 8) 1) i
            · rw [if_pos s_bf, if_neg (show ¬ sm_b2i false = 1 by decide), e_with, e_pZ2 hi]
              simp only [Option.bind_some]
              obtain ⟨nn, n1, n2, h2, u1, u2, u3, u4, u5, u6⟩ := t_raise1 B1 (by omega) hz
              have n1' : upd q1 (12 + 4 * i) 1 9 = nI nn := by
                rw [p_ud_off (by omega)] at n1 ⊢
                rw [← n1]
                exact (hq 9 (by omega) (by omega)).symm
              have tm : sm_up h1 (s + 8) 0 (sm_wb (h1 (s + 8) 0) i (!decide ((1 : Int32) = 0))) s 1 = h1 s 1 := sm_up_off (by omega)
              rw [tm, show (!decide ((1 : Int32) = 0)) = true by decide, u1, e_record n1' n2]
              simp only [Option.bind_some, u2, u3]
              -- the row to be, behind this alarm
              have cell7 : upd (p_ht a q1) (12 + 4 * i) 1 7 = p_ht a q1 7 := p_ud_off (by omega)
              have q1' : p_lr (upd q1 (12 + 4 * i) 1) nn 0 (nI i) 7 = q1 7 := by rw [p_lr_off (by omega) (by omega), p_ud_off (by omega)]
              have q10 : p_lr (upd q1 (12 + 4 * i) 1) nn 0 (nI i) 0 = q1 0 := by rw [p_lr_off (by omega) (by omega), p_ud_off (by omega)]
              have move : a ≠ -1 → p_ht a (p_lr (upd q1 (12 + 4 * i) 1) nn 0 (nI i)) = p_lr (upd (p_ht a q1) (12 + 4 * i) 1) nn 0 (nI i) := by
                intro ne
                unfold p_ht
                rw [if_neg ne, if_neg ne, q1', q10]
                by_cases k : q1 7 = -1
                · rw [if_pos k, if_pos k, p_lr_ud (by omega) (by omega) (by omega), p_lr_ud (by omega) (by omega) (by omega), p_ud_cm (a := 12 + 4 * i) (b := 7) (by omega), p_ud_cm (a := 12 + 4 * i) (b := 8) (by omega)]
                · rw [if_neg k, if_neg k]
              rcases ha with rfl | ⟨k, hk, rfl⟩
              · have hh : p_ht (-1) q1 = q1 := if_pos rfl
                rw [hh] at u3 u5 u6
                rw [if_pos rfl, hh]
                simp only [f_mo_raiseAlarms_L71, f_mo_raiseAlarms_L72, sm_let, nI_1]
                by_cases k : q1 7 = -1
                · rw [if_neg (by rw [k]; decide)]
                  simp only [f_al_raise_L92, sm_let, nI_1]
                  have nh : p_ht (nI i) (p_lr (upd q1 (12 + 4 * i) 1) nn 0 (nI i)) = upd (upd (p_lr (upd q1 (12 + 4 * i) 1) nn 0 (nI i)) 7 (nI i)) 8 (q1 0) := by
                    unfold p_ht
                    rw [if_neg (m1 i hi), q1', if_pos k, q10]
                  have e31 : sm_up h2 (s + 8) 2 (nI i) s 1 = h1 s 1 := by rw [sm_up_off (by omega)]; exact u2
                  rw [e31]
                  refine ih (i + 1) _ _ (t1 + 1) (nI i) (by omega) (by omega) (Or.inr ⟨i, hz, rfl⟩) (by rw [nh]; exact u6 k) (by omega) (f1.trans (fun j hj => ?_)) (by rw [q10]; exact q0)
                  rw [sm_up_ne _ _ _ _ _ (by omega), sm_up_ne _ _ _ _ _ (by omega)]
                  exact u4 j hj
                · have pos : 0 ≤ q1 7 := by
                    rcases K.2.2.2.2.2 with ⟨x1, _⟩ | ⟨z0, x1, x2, _⟩
                    · rw [hh] at x1
                      exact absurd x1 k
                    · rw [hh] at x2
                      rw [x2]
                      exact nI_pos' (by omega)
                  rw [if_pos pos]
                  simp only [f_al_raise_L92, sm_let, nI_1]
                  have nh : p_ht (nI i) (p_lr (upd q1 (12 + 4 * i) 1) nn 0 (nI i)) = p_lr (upd q1 (12 + 4 * i) 1) nn 0 (nI i) := by
                    unfold p_ht
                    rw [if_neg (m1 i hi), q1', if_neg k]
                  exact ih (i + 1) _ _ (t1 + 1) (nI i) (by omega) (by omega) (Or.inr ⟨i, hz, rfl⟩) (by rw [nh]; exact u5 k) (by omega) (f1.trans u4) (by rw [q10]; exact q0)
              · have ne := m1 k (by omega)
                have p7 : p_ht (nI k) q1 7 ≠ -1 := by
                  unfold p_ht
                  rw [if_neg ne]
                  split
                  · rw [p_ud_off (by omega), p_ud_at]
                    exact ne
                  · assumption
                have pos : 0 ≤ p_ht (nI k) q1 7 := by
                  rcases K.2.2.2.2.2 with ⟨x1, _⟩ | ⟨z0, x1, x2, _⟩
                  · exact absurd x1 p7
                  · rw [x2]
                    exact nI_pos' (by omega)
                rw [if_neg ne, if_pos pos]
                simp only [f_al_raise_L92, f_mo_raiseAlarms_L71, f_mo_raiseAlarms_L72, sm_let, nI_1]
                exact ih (i + 1) _ _ (t1 + 1) (nI k) (by omega) (by omega) (Or.inr ⟨k, hk, rfl⟩) (by rw [move ne]; exact u5 p7) (by omega) (f1.trans u4) (by rw [q10]; exact q0)
            · rw [if_neg s_bt, if_pos (show sm_b2i true = 1 from rfl)]
              exact skip
          · rw [if_neg s_bt, if_pos (show sm_b2i true = 1 from rfl)]
            exact skip
  exact L sm_N 0 h q t (-1) (by unfold sm_N; omega) (by omega) (Or.inl rfl) (by
    rw [show p_ht (-1) q = q from if_pos rfl]
    exact B) (by omega) (fun _ _ => rfl) rfl
end p_alarm
