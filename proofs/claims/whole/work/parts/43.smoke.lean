-- A TICK: smoke
def p_mn (a b : Int32) : Int32 := if b < a then b else a
def p_mx (a b : Int32) : Int32 := if a < b then b else a
theorem s_min' (a b : Int32) (h : sm_H) : f_jm_min a b h = some (p_mn a b, h) := s_min a b h
theorem s_max' (a b : Int32) (h : sm_H) : f_jm_max a b h = some (p_mx a b, h) := s_max a b h
theorem s_lesser' (a b : Int32) (h : sm_H) : f_mo_lesser a b h = some (p_mn a b, h) := s_lesser a b h
theorem s_greater' (a b : Int32) (h : sm_H) : f_mo_greater a b h = some (p_mx a b, h) := s_greater a b h
-- the smoke of a zone behind source and exhaust
def p_sb (q U E : Nat → Int32) (z : Nat) : Int32 := p_mn 1000 (q (10 + 4 * z) + q (11 + 4 * z)) - p_mn 1000 (q (10 + 4 * z) + q (11 + 4 * z)) * p_mn 1000 (E z + U z / 2) / 2000
-- what doors let in
def p_lk (b w : Nat → Int32) (P : Nat → Bool) (m : Int32) : Nat → Int32
  | 0 => 0
  | d + 1 => p_lk b w P m d + b (w (98 + 3 * d)).toNatClampNeg * m * (if P d = true then 20 else 1) / 2400
-- what flows
def p_fl (b n : Nat → Int32) (a c : Nat) : Int32 := b a * p_mx 0 (p_mn 500 (100 + n a - n c)) / 5000
theorem p_op_c {g g' : sm_H} (e1 : g' 115 = g 115) (e2 : g' 117 = g 117) : p_op g' = p_op g := by
  funext d
  unfold p_op
  rw [e1, e2]
theorem p_sp_c {g g' : sm_H} (e1 : g' 115 = g 115) (e2 : g' 117 = g 117) (z : Nat) (k : Int32) : p_sp g' z k = p_sp g z k := by
  funext f d
  unfold p_sp
  rw [e1, p_op_c e1 e2]
theorem p_sv_c {g g' : sm_H} (e1 : g' 115 = g 115) (e2 : g' 117 = g 117) (D : Nat) : p_sv g' D = p_sv g D := by
  funext f
  unfold p_sv p_oc
  rw [e1, e2, p_op_c e1 e2]
section p_smoke
variable {s p Y Z D F R t : Nat} {h g : sm_H} {q : Nat → Int32}
theorem p_ST.smoke {h' : sm_H} {q' : Nat → Int32} (C : p_CT Z D F R) (S : p_ST Z Z D F R s h q t) (e1 : ∀ o, 2 ≤ o → o ≤ 12 → h' (s + o) = h (s + o)) (e0 : ∀ k, k ≠ 5 → h' s k = h s k) (e5 : h' s 5 = q' 4) (e2 : ∀ z, z < Z → h' (s + 1) z = q' (10 + 4 * z)) (eq : ∀ m, m ≠ 4 → (∀ z, z < Z → m ≠ 10 + 4 * z) → q' m = q m) : p_ST Z Z D F R s h' q' t := by
  obtain ⟨c1, c2, c3, c4, c5⟩ := C
  obtain ⟨S1, S2, S3, n, S4⟩ := S
  refine ⟨fun o k m e => ?_, fun o k j m e => ?_, fun d hd => ?_, n, ?_⟩
  · by_cases h4 : m = 4
    · have : o = 0 ∧ k = 5 := by unfold p_eq at e; omega
      rw [this.1, this.2, h4]
      exact e5
    · by_cases h10 : ∃ z, z < Z ∧ m = 10 + 4 * z
      · obtain ⟨z, hz, hm⟩ := h10
        have : o = 1 ∧ k = z := by unfold p_eq at e; omega
        rw [this.1, this.2, hm]
        exact e2 z hz
      · have hh : (o = 0 ∧ k ≠ 5) ∨ (2 ≤ o ∧ o ≤ 12) := by
          have ne : ∀ z, z < Z → m ≠ 10 + 4 * z := fun z hz hm => h10 ⟨z, hz, hm⟩
          have := ne k
          unfold p_eq at e
          omega
        rw [eq m h4 (fun z hz hm => h10 ⟨z, hz, hm⟩), ← S1 o k m e]
        rcases hh with ⟨a, b⟩ | ⟨a, b⟩
        · rw [a]
          exact e0 k b
        · rw [e1 o a b]
  · have hh : (o = 0 ∧ k ≠ 5) ∨ (2 ≤ o ∧ o ≤ 12) := by unfold p_bi at e; omega
    have hm : m ≠ 4 ∧ ∀ z, z < Z → m ≠ 10 + 4 * z := by
      refine ⟨?_, fun z hz => ?_⟩ <;> (unfold p_bi at e; omega)
    rw [eq m hm.1 hm.2, S2 o k j m e]
    rcases hh with ⟨a, b⟩ | ⟨a, b⟩
    · rw [a]
      exact congrArg (fun x => sm_b2i (sm_bt x j)) (e0 k b).symm
    · rw [e1 o a b]
  · rw [e1 6 (by omega) (by omega), eq _ (by omega) (fun z hz => by omega)]
    exact S3 d hd
  · exact S4.set (e1 9 (by omega) (by omega)) (e1 10 (by omega) (by omega)) (e1 11 (by omega) (by omega)) (e1 12 (by omega) (by omega)) (eq 9 (by omega) (fun z hz => by omega)) (fun k a b => eq k (by omega) (fun z hz => by omega))
-- the class: sources and exhaust
theorem t_sm1 (V : p_V s p Z D F R h (g 115)) (S : p_ST Z Z D F R s h q t) {U E : Nat → Int32} (hU : ∀ z, z < 8 → h 111 z = U z ∧ h 112 z = E z) (air : Int32) : ∃ h', f_en_moveSmoke 106 s air h = f_en_moveSmoke_L90 106 s air (nI Z) h' ∧ (∀ i, i ≠ s + 1 → h' i = h i) ∧ ∀ z, z < Z → h' (s + 1) z = p_sb q U E z := by
  obtain ⟨⟨c1, c2, c3, c4, c5⟩, ⟨z1, z2⟩, -⟩ := V.cnt
  obtain ⟨i1, i2⟩ := V.isP
  have hs := V.2.1
  have L : ∀ n i h1, Z - i < n → i ≤ Z → (∀ j, j ≠ s + 1 → h1 j = h j) → (∀ z, z < i → h1 (s + 1) z = p_sb q U E z) → (∀ z, i ≤ z → h1 (s + 1) z = h (s + 1) z) → ∃ h', f_en_moveSmoke_L11 n 106 s air (nI Z) (nI i) h1 = f_en_moveSmoke_L90 106 s air (nI Z) h' ∧ (∀ i, i ≠ s + 1 → h' i = h i) ∧ ∀ z, z < Z → h' (s + 1) z = p_sb q U E z := by
    intro n
    induction n with
    | zero => intro i h1 y; omega
    | succ n ih =>
      intro i h1 y1 y2 y3 y4 y5
      unfold f_en_moveSmoke_L11
      by_cases y : i = Z
      · rw [if_pos (nI_le (by omega) (by omega))]
        exact ⟨h1, rfl, y3, by rw [← y]; exact y4⟩
      · have gi : sm_inb (nI i) 8 = true := sm_inb_nI (by omega) (by omega)
        have ci : (nI i).toNatClampNeg = i := nI_clamp (by omega)
        have u := hU i (by omega)
        have x1 : h1 (s + 1) i = q (10 + 4 * i) := (y5 i (by omega)).trans (S.1 1 i _ (q_smoke (by omega)))
        have x2 : h1 (s + 2) i = q (11 + 4 * i) := by rw [y3 (s + 2) (by omega)]; exact S.1 2 i _ (q_src (by omega))
        have x3 : h1 111 i = U i := by rw [y3 111 (by omega)]; exact u.1
        have x4 : h1 112 i = E i := by rw [y3 112 (by omega)]; exact u.2
        rw [if_neg (nI_ge (by omega) (by omega))]
        simp only [gi, s_true, ci, Nat.reduceAdd, s_min', sm_b2, Option.bind_some, x1, x2, x3, x4, sm_let, nI_1]
        refine ih (i + 1) _ (by omega) (by omega) (fun j hj => (sm_up_ne _ _ _ _ _ hj).trans (y3 j hj)) (fun z hz => ?_) (fun z hz => ?_)
        · by_cases x : z = i
          · rw [x, p_up_at]
            rfl
          · rw [sm_up_off (by omega)]
            exact y4 z (by omega)
        · rw [sm_up_off (by omega)]
          exact y5 z (by omega)
  obtain ⟨h', e1, e2⟩ := L sm_N 0 h (by unfold sm_N; omega) (by omega) (fun _ _ => rfl) (fun z hz => by omega) (fun _ _ => rfl)
  refine ⟨h', ?_, e2⟩
  rw [← e1]
  unfold f_en_moveSmoke
  rw [i1, s_true, i2]
  refine w_lt ?_
  refine w_lt ?_
  rw [z1]
  rfl
-- the class: doors
theorem t_sm2 (V : p_V s p Z D F R h (g 115)) {b : Nat → Int32} (hb : ∀ z, z < Z → h (s + 1) z = b z) (air : Int32) : f_en_fillStair s air h = some (sm_up h s 5 (p_mn 1000 (h s 5 + p_lk b (g 115) (sm_bt (h s 6)) (p_mx 0 (12 - h s 3)) R) - p_mn 1000 (h s 5 + p_lk b (g 115) (sm_bt (h s 6)) (p_mx 0 (12 - h s 3)) R) * p_mn 1000 air / 4000)) := by
  obtain ⟨⟨c1, c2, c3, c4, c5⟩, -, -, -, ⟨r1, r2⟩⟩ := V.cnt
  obtain ⟨i1, i2⟩ := V.isP
  have L : ∀ n i, R - i < n → i ≤ R → f_en_fillStair_L23 n s air p (p_mx 0 (12 - h s 3)) (p_lk b (g 115) (sm_bt (h s 6)) (p_mx 0 (12 - h s 3)) i) (nI i) h = f_en_fillStair_L84 s air (p_lk b (g 115) (sm_bt (h s 6)) (p_mx 0 (12 - h s 3)) R) h := by
    intro n
    induction n with
    | zero => intro i y; omega
    | succ n ih =>
      intro i y1 y2
      unfold f_en_fillStair_L23
      rw [r1]
      by_cases y : i = R
      · rw [if_pos (nI_le (by omega) (by omega)), y]
      · obtain ⟨zz, _, _, hz, -, -, -, -, e1, e2, -⟩ := V.2.2.2.2.2.2.2.1 i (by omega)
        have gi : sm_inb (nI i) 10 = true := sm_inb_nI (by omega) (by omega)
        have ci : (nI i).toNatClampNeg = i := nI_clamp (by omega)
        have gz : sm_inb (nI zz) 8 = true := sm_inb_nI (by omega) (by omega)
        have cz : (nI zz).toNatClampNeg = zz := nI_clamp (by omega)
        have nx := ih (i + 1) (by omega) (by omega)
        have es : p_lk b (g 115) (sm_bt (h s 6)) (p_mx 0 (12 - h s 3)) (i + 1) = p_lk b (g 115) (sm_bt (h s 6)) (p_mx 0 (12 - h s 3)) i + b (g 115 (98 + 3 * i)).toNatClampNeg * p_mx 0 (12 - h s 3) * (if sm_bt (h s 6) i = true then 20 else 1) / 2400 := rfl
        rw [es, e2, cz] at nx
        rw [if_neg (nI_ge (by omega) (by omega)), e_has _ _ _ (by omega)]
        simp only [sm_b2, Option.bind_some, f_en_fillStair_L50, gi, s_true, ci, e1, gz, cz, hb zz hz, sm_let, nI_1]
        cases x : sm_bt (h s 6) i
        · rw [x, if_neg (by decide)] at nx
          rw [if_pos s_bf]
          exact nx
        · rw [x, if_pos rfl] at nx
          rw [if_neg s_bt]
          exact nx
  have e := L sm_N 0 (by unfold sm_N; omega) (by omega)
  unfold f_en_fillStair
  rw [i1, s_true, i2]
  refine w_lt ?_
  refine w_b2 (s_max' _ _ _) ?_
  refine Eq.trans e ?_
  unfold f_en_fillStair_L84
  simp only [s_min', sm_b2, Option.bind_some, sm_let]
-- the reference: sources and exhaust
theorem t_sm3 (P : p_PL Z D F R p h (g 115)) {U E : Nat → Int32} (hU : ∀ z, z < 8 → p_at (p_sp g z 0) (p_sv g D) D F = U z ∧ p_at (p_sp g z 1) (p_sv g D) D F = E z) : ∃ g', f_mo_spreadSmoke 114 g = f_mo_spreadSmoke_L101 114 g' ∧ (∀ i, i < 129 ∨ 131 < i → g' i = g i) ∧ ∀ z, z < Z → g' 129 z = p_sb (g 117) U E z ∧ g' 130 z = p_sb (g 117) U E z ∧ g' 131 z = U z - E z := by
  obtain ⟨c1, c2, c3, c4, c5⟩ := P.1
  have z2 : g 115 0 = nI Z := P.2.1.2.1
  have L : ∀ n i g1, Z - i < n → i ≤ Z → (∀ i, i < 129 ∨ 131 < i → g1 i = g i) → (∀ z, z < i → g1 129 z = p_sb (g 117) U E z ∧ g1 130 z = p_sb (g 117) U E z ∧ g1 131 z = U z - E z) → ∃ g', f_mo_spreadSmoke_L2 n 114 (nI i) g1 = f_mo_spreadSmoke_L101 114 g' ∧ (∀ i, i < 129 ∨ 131 < i → g' i = g i) ∧ ∀ z, z < Z → g' 129 z = p_sb (g 117) U E z ∧ g' 130 z = p_sb (g 117) U E z ∧ g' 131 z = U z - E z := by
    intro n
    induction n with
    | zero => intro i g1 y; omega
    | succ n ih =>
      intro i g1 y1 y2 y3 y4
      have r115 : g1 115 = g 115 := y3 115 (by omega)
      have r117 : g1 117 = g 117 := y3 117 (by omega)
      unfold f_mo_spreadSmoke_L2
      rw [s_i0, s_c0, show g1 (114 + 1) 0 = nI Z by rw [r115]; exact z2]
      by_cases y : i = Z
      · rw [if_pos (nI_le (by omega) (by omega))]
        exact ⟨g1, rfl, y3, by rw [← y]; exact y4⟩
      · have hi : i < 8 := by omega
        have gi : sm_inb (nI i) 8 = true := sm_inb_nI (by omega) (by omega)
        have ci : (nI i).toNatClampNeg = i := nI_clamp (by omega)
        have P1 : p_PL Z D F R p h (g1 115) := by rw [r115]; exact P
        have a0 := t_airTo P1 hi 0
        have a1 := t_airTo P1 hi 1
        rw [p_sp_c r115 r117, p_sv_c r115 r117, (hU i hi).1] at a0
        rw [p_sp_c r115 r117, p_sv_c r115 r117, (hU i hi).2] at a1
        have x1 : ∀ v, sm_up g1 131 i v 117 = g 117 := fun v => (sm_up_ne _ _ _ _ _ (by omega)).trans r117
        rw [if_neg (nI_ge (by omega) (by omega)), a0]
        simp only [sm_b2, Option.bind_some, a1, gi, s_true, ci, Nat.reduceAdd, sm_let, e_zI0 hi, e_zI1 hi, x1, s_lesser', nI_1, p_up_at]
        refine ih (i + 1) _ (by omega) (by omega) (fun j hj => ?_) (fun z hz => ?_)
        · rw [sm_up_ne _ _ _ _ _ (by omega), sm_up_ne _ _ _ _ _ (by omega), sm_up_ne _ _ _ _ _ (by omega)]
          exact y3 j hj
        · by_cases x : z = i
          · rw [x, p_up_at, sm_up_off (by omega), p_up_at, sm_up_off (by omega), sm_up_off (by omega), p_up_at]
            exact ⟨rfl, rfl, rfl⟩
          · rw [sm_up_off (by omega), sm_up_off (by omega), sm_up_off (by omega), sm_up_off (by omega), sm_up_off (by omega), sm_up_off (by omega), sm_up_off (by omega), sm_up_off (by omega), sm_up_off (by omega)]
            exact y4 z (by omega)
  exact L sm_N 0 g (by unfold sm_N; omega) (by omega) (fun _ _ => rfl) (fun z hz => by omega)
end p_smoke
