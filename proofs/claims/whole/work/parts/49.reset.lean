-- RESET
def p_lw (P : Nat → Bool) (Z : Nat) : Nat → Int32
  | 0 => -1
  | k + 1 => if P (Z - 1 - k) = true then nI (Z - 1 - k) else p_lw P Z k
def p_ck (P : Nat → Bool) (Z : Nat) : Nat → Nat
  | 0 => 0
  | k + 1 => p_ck P Z k + (if P (Z - 1 - k) = true then 1 else 0)
theorem p_ck_cn (P : Nat → Bool) (Z : Nat) : ∀ k, k ≤ Z → p_cn P Z = p_cn P (Z - k) + p_ck P Z k := by
  intro k
  induction k with
  | zero => intro _; rfl
  | succ k ih =>
    intro h
    have e1 : p_ck P Z (k + 1) = p_ck P Z k + (if P (Z - 1 - k) = true then 1 else 0) := rfl
    have e2 : p_cn P (Z - (k + 1) + 1) = p_cn P (Z - (k + 1)) + (if P (Z - (k + 1)) = true then 1 else 0) := rfl
    rw [ih (by omega), e1, show Z - k = Z - (k + 1) + 1 by omega, e2, show Z - 1 - k = Z - (k + 1) by omega]
    omega
theorem p_lw_or (P : Nat → Bool) (Z : Nat) : ∀ k, k ≤ Z → (p_lw P Z k = -1 ∧ ∀ z, Z - k ≤ z → z < Z → P z = false) ∨ ∃ z, z < Z ∧ p_lw P Z k = nI z ∧ P z = true := by
  intro k
  induction k with
  | zero => intro _; exact Or.inl ⟨rfl, fun z a b => by omega⟩
  | succ k ih =>
    intro h
    have e : p_lw P Z (k + 1) = if P (Z - 1 - k) = true then nI (Z - 1 - k) else p_lw P Z k := rfl
    rw [e]
    cases hp : P (Z - 1 - k)
    · rw [if_neg (by decide)]
      rcases ih (by omega) with ⟨a, b⟩ | a
      · refine Or.inl ⟨a, fun z x y => ?_⟩
        by_cases w : z = Z - 1 - k
        · rw [w]; exact hp
        · exact b z (by omega) y
      · exact Or.inr a
    · rw [if_pos rfl]
      exact Or.inr ⟨Z - 1 - k, by omega, rfl, hp⟩
section p_reset
variable {p Z D F R t j : Nat} {h g : sm_H} {q : Nat → Int32}
-- timers and troubles
theorem p_ST.rst1 {s : Nat} {h' : sm_H} {q' : Nat → Int32} (C : p_CT Z D F R) (S : p_ST Z Z D F R s h q t) (e0 : ∀ k, k ≠ 8 → h' s k = h s k) (e8 : h' s 8 = 0) (e7 : ∀ k, k < 23 → h' (s + 7) k = 0) (eo : ∀ o, 1 ≤ o → o ≤ 12 → o ≠ 7 → h' (s + o) = h (s + o)) (a1 : q' 5 = 0 ∧ q' 6 = 0) (a2 : ∀ d, d < D → q' (47 + 7 * d) = 0 ∧ q' (48 + 7 * d) = 0) (a3 : ∀ f, f < F → q' (158 + 6 * f) = 0 ∧ q' (159 + 6 * f) = 0) (a4 : ∀ m, m ≠ 5 → m ≠ 6 → (∀ d, d < D → m ≠ 47 + 7 * d ∧ m ≠ 48 + 7 * d) → (∀ f, f < F → m ≠ 158 + 6 * f ∧ m ≠ 159 + 6 * f) → q' m = q m) : p_ST Z Z D F R s h' q' t := by
  obtain ⟨c1, c2, c3, c4, c5⟩ := C
  obtain ⟨S1, S2, S3, n, S4⟩ := S
  refine ⟨fun o k m e => ?_, fun o k b m e => ?_, fun d hd => ?_, n, ?_⟩
  · by_cases ho : o = 7
    · subst ho
      have : (k = 22 ∧ m = 5) ∨ (k < D ∧ m = 47 + 7 * k) ∨ (16 ≤ k ∧ k < 16 + F ∧ m = 158 + 6 * (k - 16)) := by unfold p_eq at e; omega
      rcases this with ⟨x, y⟩ | ⟨x, y⟩ | ⟨x, x', y⟩
      · rw [y, a1.1]; exact e7 k (by omega)
      · rw [y, (a2 k x).1]; exact e7 k (by omega)
      · rw [y, (a3 (k - 16) (by omega)).1]; exact e7 k (by omega)
    · have hm : m ≠ 5 ∧ m ≠ 6 ∧ (∀ d, d < D → m ≠ 47 + 7 * d ∧ m ≠ 48 + 7 * d) ∧ (∀ f, f < F → m ≠ 158 + 6 * f ∧ m ≠ 159 + 6 * f) := by
        refine ⟨?_, ?_, fun d hd => ?_, fun f hf => ?_⟩ <;> (unfold p_eq at e; omega)
      rw [a4 m hm.1 hm.2.1 hm.2.2.1 hm.2.2.2, ← S1 o k m e]
      by_cases h0 : o = 0
      · subst h0
        exact e0 k (by unfold p_eq at e; omega)
      · rw [eo o (by omega) (by unfold p_eq at e; omega) ho]
  · by_cases ho : o = 0 ∧ k = 8
    · obtain ⟨rfl, rfl⟩ := ho
      have : m = 6 ∨ (b < D ∧ m = 48 + 7 * b) ∨ (16 ≤ b ∧ b < 16 + F ∧ m = 159 + 6 * (b - 16)) := by unfold p_bi at e; omega
      have z : sm_b2i (sm_bt (h' (s + 0) 8) b) = 0 := by
        rw [show h' (s + 0) 8 = 0 from e8, sm_bt0]
        rfl
      rw [z]
      rcases this with y | ⟨x, y⟩ | ⟨x, x', y⟩
      · rw [y]; exact a1.2
      · rw [y]; exact (a2 b x).2
      · rw [y]; exact (a3 (b - 16) (by omega)).2
    · have hm : m ≠ 5 ∧ m ≠ 6 ∧ (∀ d, d < D → m ≠ 47 + 7 * d ∧ m ≠ 48 + 7 * d) ∧ (∀ f, f < F → m ≠ 158 + 6 * f ∧ m ≠ 159 + 6 * f) := by
        refine ⟨?_, ?_, fun d hd => ?_, fun f hf => ?_⟩ <;> (unfold p_bi at e; omega)
      rw [a4 m hm.1 hm.2.1 hm.2.2.1 hm.2.2.2, S2 o k b m e]
      by_cases h0 : o = 0
      · subst h0
        exact congrArg (fun x => sm_b2i (sm_bt x b)) (e0 k (by omega)).symm
      · rw [eo o (by omega) (by unfold p_bi at e; omega) (by unfold p_bi at e; omega)]
  · rw [eo 6 (by omega) (by omega) (by omega), a4 _ (by omega) (by omega) (fun e he => by omega) (fun f hf => by omega)]
    exact S3 d hd
  · exact S4.set (eo 9 (by omega) (by omega) (by omega)) (eo 10 (by omega) (by omega) (by omega)) (eo 11 (by omega) (by omega) (by omega)) (eo 12 (by omega) (by omega) (by omega)) (a4 9 (by omega) (by omega) (fun d hd => by omega) (fun f hf => by omega)) (fun k x y => a4 k (by omega) (by omega) (fun d hd => by omega) (fun f hf => by omega))
-- alarms
theorem p_ST.rst2 {s : Nat} {h' : sm_H} {q' : Nat → Int32} (C : p_CT Z D F R) (S : p_ST Z Z D F R s h q t) (eo : ∀ o, o ≤ 12 → o ≠ 8 → h' (s + o) = h (s + o)) (e1 : h' (s + 8) 1 = h (s + 8) 1) (a1 : ∀ z, z < Z → q' (12 + 4 * z) = sm_b2i (sm_bt (h' (s + 8) 0) z)) (a2 : h' (s + 8) 2 = q' 7 ∧ h' (s + 8) 3 = q' 8) (a4 : ∀ m, m ≠ 7 → m ≠ 8 → (∀ z, z < Z → m ≠ 12 + 4 * z) → q' m = q m) : p_ST Z Z D F R s h' q' t := by
  obtain ⟨c1, c2, c3, c4, c5⟩ := C
  obtain ⟨S1, S2, S3, n, S4⟩ := S
  refine ⟨fun o k m e => ?_, fun o k b m e => ?_, fun d hd => ?_, n, ?_⟩
  · by_cases ho : o = 8
    · subst ho
      have : (k = 2 ∧ m = 7) ∨ (k = 3 ∧ m = 8) := by unfold p_eq at e; omega
      rcases this with ⟨rfl, rfl⟩ | ⟨rfl, rfl⟩
      · exact a2.1
      · exact a2.2
    · have hm : m ≠ 7 ∧ m ≠ 8 ∧ ∀ z, z < Z → m ≠ 12 + 4 * z := by
        refine ⟨?_, ?_, fun z hz => ?_⟩ <;> (unfold p_eq at e; omega)
      rw [a4 m hm.1 hm.2.1 hm.2.2, ← S1 o k m e, eo o (by unfold p_eq at e; omega) ho]
  · by_cases ho : o = 8 ∧ k = 0
    · obtain ⟨rfl, rfl⟩ := ho
      have : b < Z ∧ m = 12 + 4 * b := by unfold p_bi at e; omega
      rw [this.2]
      exact a1 b this.1
    · have hm : m ≠ 7 ∧ m ≠ 8 ∧ ∀ z, z < Z → m ≠ 12 + 4 * z := by
        refine ⟨?_, ?_, fun z hz => ?_⟩ <;> (unfold p_bi at e; omega)
      rw [a4 m hm.1 hm.2.1 hm.2.2, S2 o k b m e]
      by_cases h8 : o = 8
      · subst h8
        have : k = 1 := by unfold p_bi at e; omega
        rw [this, e1]
      · rw [eo o (by unfold p_bi at e; omega) h8]
  · rw [eo 6 (by omega) (by omega), a4 _ (by omega) (by omega) (fun z hz => by omega)]
    exact S3 d hd
  · exact S4.set (eo 9 (by omega) (by omega)) (eo 10 (by omega) (by omega)) (eo 11 (by omega) (by omega)) (eo 12 (by omega) (by omega)) (a4 9 (by omega) (by omega) (fun z hz => by omega)) (fun k x y => a4 k (by omega) (by omega) (fun z hz => by omega))
theorem t_low {w : Int32} (h8 : Z ≤ 8) (hw : h 48 0 = w) : ∀ n k, k < n → k ≤ Z → f_al_lowest_L2 n 48 (nI Z) (nI (Z - k)) h = some (p_lw (sm_bt w) Z k, h) := by
  intro n
  induction n with
  | zero => intro k y; omega
  | succ n ih =>
    intro k y1 y2
    unfold f_al_lowest_L2 f_al_lowest_L18
    cases k with
    | zero =>
      rw [if_pos (nI_le (by omega) (by omega))]
      rfl
    | succ k =>
      rw [if_neg (nI_ge (by omega) (by omega)), hw, e_has _ _ _ (by omega)]
      simp only [sm_b2, Option.bind_some, sm_let, nI_1]
      have e : p_lw (sm_bt w) Z (k + 1) = if sm_bt w (Z - 1 - k) = true then nI (Z - 1 - k) else p_lw (sm_bt w) Z k := rfl
      rw [e, show Z - (k + 1) = Z - 1 - k by omega]
      cases sm_bt w (Z - 1 - k)
      · rw [if_pos s_bf, if_neg (by decide), show Z - 1 - k + 1 = Z - k by omega]
        exact ih k (by omega) (by omega)
      · rw [if_neg s_bt, if_pos rfl]
-- the reference's zones
theorem t_rz (h8 : Z ≤ 8) (P : Nat → Bool) {al : Nat → Bool} (hal : ∀ z, z < Z → q (12 + 4 * z) = sm_b2i (al z)) (hP : ∀ z, z < Z → P z = (al z && decide (100 ≤ q (10 + 4 * z)))) :
    ∀ n i q1, i < n → i ≤ Z → (∀ z, i ≤ z → z < Z → q1 (12 + 4 * z) = sm_b2i (P z)) → (∀ m, (∀ z, i ≤ z → z < Z → m ≠ 12 + 4 * z) → q1 m = q m) → ∃ q', f_mo_reset_L93 n 114 (nI (p_ck P Z (Z - i))) (p_lw P Z (Z - i)) (nI i - 1) (sm_row g 117 q1) = f_mo_reset_L137 114 (nI (p_ck P Z Z)) (p_lw P Z Z) (sm_row g 117 q') ∧ (∀ z, z < Z → q' (12 + 4 * z) = sm_b2i (P z)) ∧ ∀ m, (∀ z, z < Z → m ≠ 12 + 4 * z) → q' m = q m := by
  intro n
  induction n with
  | zero => intro i q1 y; omega
  | succ n ih =>
    intro i q1 y1 y2 y3 y4
    unfold f_mo_reset_L93
    cases i with
    | zero =>
      rw [if_pos (by decide)]
      exact ⟨q1, rfl, fun z hz => y3 z (by omega) hz, fun m hm => y4 m (fun z _ hz => hm z hz)⟩
    | succ i =>
      have hi : i < 8 := by omega
      have hz : i < Z := by omega
      have r117 : ∀ q', sm_row g 117 q' 117 = q' := fun q' => p_row_at
      have ek : Z - i = Z - (i + 1) + 1 := by omega
      have zi : Z - 1 - (Z - (i + 1)) = i := by omega
      have e1 : p_ck P Z (Z - i) = p_ck P Z (Z - (i + 1)) + (if P i = true then 1 else 0) := by
        rw [ek]
        show p_ck P Z (Z - (i + 1)) + (if P (Z - 1 - (Z - (i + 1))) = true then 1 else 0) = _
        rw [zi]
      have e2 : p_lw P Z (Z - i) = if P i = true then nI i else p_lw P Z (Z - (i + 1)) := by
        rw [ek]
        show (if P (Z - 1 - (Z - (i + 1))) = true then nI (Z - 1 - (Z - (i + 1))) else _) = _
        rw [zi]
      have s10 : q1 (10 + 4 * i) = q (10 + 4 * i) := y4 _ (fun z a b => by omega)
      have s12 : q1 (12 + 4 * i) = sm_b2i (al i) := (y4 _ (fun z a b => by omega)).trans (hal i hz)
      have l115 : ∀ q2, q2 (12 + 4 * i) = sm_b2i (P i) → (∀ m, m ≠ 12 + 4 * i → q2 m = q1 m) → ∃ q', f_mo_reset_L115 (f_mo_reset_L93 n) 114 (nI (p_ck P Z (Z - (i + 1)))) (p_lw P Z (Z - (i + 1))) (nI i) (sm_row g 117 q2) = f_mo_reset_L137 114 (nI (p_ck P Z Z)) (p_lw P Z Z) (sm_row g 117 q') ∧ (∀ z, z < Z → q' (12 + 4 * z) = sm_b2i (P z)) ∧ ∀ m, (∀ z, z < Z → m ≠ 12 + 4 * z) → q' m = q m := by
        intro q2 h1 h2
        have nx := ih i q2 (by omega) (by omega) (fun z a b => by
          by_cases w : z = i
          · rw [w]; exact h1
          · rw [h2 _ (by omega)]; exact y3 z (by omega) b) (fun m hm => by
          rw [h2 m (hm i (by omega) hz)]
          exact y4 m (fun z a b => hm z (by omega) b))
        rw [e1, e2] at nx
        unfold f_mo_reset_L115 f_mo_reset_L131
        simp only [sm_b2, e_zI2 hi, r117, h1, Option.bind_some, sm_let, nI_1]
        rw [show nI i + (-1) = nI i - 1 from (Int32.sub_eq_add_neg _ _).symm]
        cases hp : P i
        · rw [hp, if_neg (by decide), if_neg (by decide)] at nx
          rw [if_neg (show ¬ sm_b2i false = 1 by decide)]
          exact nx
        · rw [hp, if_pos rfl, if_pos rfl] at nx
          rw [if_pos (show sm_b2i true = 1 from rfl)]
          exact nx
      rw [nI_pred, if_neg (nI_pos (by omega)), e_zI0 hi]
      simp only [sm_b2, r117, s10, Option.bind_some]
      by_cases x : 100 ≤ q (10 + 4 * i)
      · rw [if_pos x]
        exact l115 q1 (by rw [s12, hP i hz, decide_eq_true x, Bool.and_true]) (fun _ _ => rfl)
      · rw [if_neg x, e_pZ2 hi]
        simp only [Option.bind_some]
        exact l115 _ (by rw [p_ud_at, hP i hz, decide_eq_false x, Bool.and_false]; rfl) (fun m hm => p_ud_off hm)
-- the class' zones
theorem t_cz (V : p_V 40 p Z D F R h (g 115)) {P : Nat → Bool} (hP : ∀ z, z < Z → P z = (sm_bt (h 48 0) z && decide (100 ≤ h 41 z))) :
    ∀ n i w, Z - i < n → i ≤ Z → (∀ z, z < 32 → sm_bt w z = if z < i then P z else sm_bt (h 48 0) z) → ∃ w', f_al_silence_L2 n 48 40 (nI i) (sm_up h 48 0 w) = f_al_silence_L43 48 40 (sm_up h 48 0 w') ∧ ∀ z, z < 32 → sm_bt w' z = if z < Z then P z else sm_bt (h 48 0) z := by
  obtain ⟨⟨c1, c2, c3, c4, c5⟩, ⟨z1, z2⟩, -⟩ := V.cnt
  obtain ⟨i1, i2⟩ := V.isP
  have hp : p ≤ 24 := by rcases V.1 with e | e <;> omega
  intro n
  induction n with
  | zero => intro i w y; omega
  | succ n ih =>
    intro i w y1 y2 y3
    unfold f_al_silence_L2
    rw [show sm_up h 48 0 w 40 0 = h 40 0 from sm_up_off (by omega), i1, s_true, i2]
    simp only [sm_let]
    rw [show sm_up h 48 0 w p 0 = nI Z by rw [sm_up_off (by omega)]; exact z1]
    by_cases y : i = Z
    · rw [if_pos (nI_le (by omega) (by omega))]
      exact ⟨w, rfl, by rw [← y]; exact y3⟩
    · have hi : i < 8 := by omega
      rw [if_neg (nI_ge (by omega) (by omega)), sm_gd_t (sm_inb_nI hi (by omega)), nI_clamp (by omega), show sm_up h 48 0 w (40 + 1) i = h 41 i from sm_up_off (by omega)]
      have nx : ∀ w', (∀ z, z < 32 → sm_bt w' z = if z < i + 1 then P z else sm_bt (h 48 0) z) → ∃ w'', f_al_silence_L37 (f_al_silence_L2 n) 48 40 (nI i) (sm_up h 48 0 w') = f_al_silence_L43 48 40 (sm_up h 48 0 w'') ∧ ∀ z, z < 32 → sm_bt w'' z = if z < Z then P z else sm_bt (h 48 0) z := by
        intro w' hw'
        unfold f_al_silence_L37
        simp only [sm_let, nI_1]
        exact ih (i + 1) w' (by omega) (by omega) hw'
      by_cases x : 100 ≤ h 41 i
      · rw [if_pos x]
        refine nx w (fun z hz => ?_)
        rw [y3 z hz]
        by_cases v : z < i
        · rw [if_pos v, if_pos (by omega)]
        · rw [if_neg v]
          by_cases u : z = i
          · rw [if_pos (by omega), hP z (by omega), u, decide_eq_true x, Bool.and_true]
          · rw [if_neg (by omega)]
      · have ee : ∀ v, sm_up (sm_up h 48 0 w) 48 0 v = sm_up h 48 0 v := fun v => by
          funext a b
          unfold sm_up
          by_cases v : a = 48 ∧ b = 0
          · rw [if_pos v, if_pos v]
          · rw [if_neg v, if_neg v, if_neg v]
        rw [if_neg x, show sm_up h 48 0 w 48 0 = w from p_up_at, e_with, show (!decide ((0 : Int32) = 0)) = false by decide]
        simp only [sm_b2, Option.bind_some, sm_let, ee]
        refine nx _ (fun z hz => ?_)
        rw [sm_bt_wb _ _ _ _ (by omega) hz]
        by_cases u : z = i
        · rw [if_pos u, if_pos (by omega), hP z (by omega), u, decide_eq_false x, Bool.and_false]
        · rw [if_neg u, y3 z hz]
          by_cases v : z < i
          · rw [if_pos v, if_pos (by omega)]
          · rw [if_neg v, if_neg (by omega)]
end p_reset
