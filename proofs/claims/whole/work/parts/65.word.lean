-- LOAD: WORDS, NUMBERS, SIGNS of the reference
def n_kv (f : Nat → Nat) : Nat → Nat
  | 0 => 0
  | n + 1 => 32 * n_kv f n + (f n - 96)
theorem n_kv_lt (f : Nat → Nat) : ∀ n, (∀ j, j < n → n_ty (f j) = 1) → n_kv f n < 2 ^ (5 * n) := by
  intro n
  induction n with
  | zero => intro _; exact Nat.zero_lt_one
  | succ n ih =>
    intro h
    have := ih (fun j hj => h j (by omega))
    have h1 := n_ty1.mp (h n (by omega))
    show 32 * n_kv f n + (f n - 96) < 2 ^ (5 * n + 5)
    rw [Nat.pow_add]
    generalize 2 ^ (5 * n) = y at this
    omega
theorem n_kv_inj : ∀ n m (f g : Nat → Nat), (∀ j, j < n → n_ty (f j) = 1) → (∀ j, j < m → n_ty (g j) = 1) → n_kv f n = n_kv g m → n = m ∧ ∀ j, j < n → f j = g j := by
  intro n
  induction n with
  | zero =>
    intro m f g _ hg e
    cases m with
    | zero => exact ⟨rfl, fun j hj => absurd hj (by omega)⟩
    | succ m =>
      have h1 := n_ty1.mp (hg m (by omega))
      have e' : 0 = 32 * n_kv g m + (g m - 96) := e
      omega
  | succ n ih =>
    intro m f g hf hg e
    have h0 := n_ty1.mp (hf n (by omega))
    cases m with
    | zero =>
      have e' : 32 * n_kv f n + (f n - 96) = 0 := e
      omega
    | succ m =>
      have h1 := n_ty1.mp (hg m (by omega))
      have e' : 32 * n_kv f n + (f n - 96) = 32 * n_kv g m + (g m - 96) := e
      obtain ⟨i1, i2⟩ := ih m f g (fun j hj => hf j (by omega)) (fun j hj => hg j (by omega)) (by omega)
      refine ⟨by omega, fun j hj => ?_⟩
      by_cases z : j = n
      · rw [z]
        have : g n = g m := by rw [i1]
        omega
      · exact i2 j (by omega)
def n_w64 (b : Nat → Nat) (s k : Nat) : Int64 := if k ≤ 8 then Int64.ofNat (n_kv (fun j => b (s + j)) k) else 0
def n_kc (a : Nat) : Int64 := Int64.ofNat (n_kv (fun j => (n_kw a).getD j 0) (n_kw a).length)
theorem n_l64 {x : Nat} (h : x < 2 ^ 63) : (Int64.ofNat x).toInt = x := Int64.toInt_ofNat_of_lt h
theorem n_cmp (x y : Int64) : lg_cmp x y = 0 ↔ x = y := by
  unfold lg_cmp
  by_cases h : x > y
  · rw [if_pos h]
    constructor
    · intro z; exact absurd z (by decide)
    · intro z
      rw [z] at h
      exact absurd h (Int64.lt_irrefl)
  · rw [if_neg h]
    by_cases e : x = y
    · rw [if_pos e]
      exact ⟨fun _ => e, fun _ => rfl⟩
    · rw [if_neg e]
      exact ⟨fun z => absurd z (by decide), fun z => absurd z e⟩
-- the word that is read is the keyword
theorem n_word {b : Nat → Nat} {s : Nat} {W : List Nat} {a : Nat} (ha : a < 28) (h1 : 1 ≤ W.length) (hw : ∀ k, k < W.length → W.getD k 0 = b (s + k) ∧ n_ty (b (s + k)) = 1) {c : Int64} (hc : c = n_kc a) : lg_cmp (n_w64 b s W.length) c = 0 ↔ W = n_kw a := by
  obtain ⟨w1, w2, w3, w4⟩ := n_kw_ok ha
  rw [n_cmp, hc]
  have g2 := n_kv_lt (fun j => (n_kw a).getD j 0) (n_kw a).length (fun j hj => (w4 j hj).2)
  have g3 : 2 ^ (5 * (n_kw a).length) ≤ 2 ^ 40 := Nat.pow_le_pow_right (by omega) (by omega)
  unfold n_w64 n_kc
  by_cases z : W.length ≤ 8
  · rw [if_pos z]
    have g1 := n_kv_lt (fun j => b (s + j)) W.length (fun j hj => (hw j hj).2)
    have g4 : 2 ^ (5 * W.length) ≤ 2 ^ 40 := Nat.pow_le_pow_right (by omega) (by omega)
    constructor
    · intro e
      have e' := congrArg Int64.toInt e
      rw [n_l64 (by omega), n_l64 (by omega)] at e'
      obtain ⟨i1, i2⟩ := n_kv_inj _ _ _ _ (fun j hj => (hw j hj).2) (fun j hj => (w4 j hj).2) (Int.ofNat.inj e')
      exact (n_list_eq (fun j => b (s + j)) i1 (fun k hk => (hw k hk).1)).mpr (fun j hj => i2 j (by omega))
    · intro e
      have e2 := (n_list_eq (fun j => b (s + j)) (by rw [e]) (fun k hk => (hw k hk).1)).mp e
      have e3 : ∀ n, n ≤ (n_kw a).length → n_kv (fun j => b (s + j)) n = n_kv (fun j => (n_kw a).getD j 0) n := by
        intro n
        induction n with
        | zero => intro _; rfl
        | succ n ih =>
          intro hn
          show 32 * n_kv (fun j => b (s + j)) n + (b (s + n) - 96) = 32 * n_kv (fun j => (n_kw a).getD j 0) n + ((n_kw a).getD n 0 - 96)
          rw [ih (by omega), e2 n (by omega)]
      rw [show W.length = (n_kw a).length by rw [e], e3 _ (Nat.le_refl _)]
  · rw [if_neg z]
    constructor
    · intro e
      have e' := congrArg Int64.toInt e
      rw [n_l64 (by omega), show (0 : Int64).toInt = 0 by decide] at e'
      have : 0 < n_kv (fun j => (n_kw a).getD j 0) (n_kw a).length := by
        obtain ⟨m, hm⟩ : ∃ m, (n_kw a).length = m + 1 := ⟨(n_kw a).length - 1, by omega⟩
        have := n_ty1.mp (w4 m (by omega)).2
        rw [hm]
        show 0 < 32 * _ + ((n_kw a).getD m 0 - 96)
        omega
      omega
    · intro e
      rw [e] at z
      omega
theorem n_to64 {c : Nat} (hc : c < 128) : Int32.toInt64 (nI c) = Int64.ofNat c := by
  have g : ((List.range 128).all fun c => Int32.toInt64 (nI c) == Int64.ofNat c) = true := by decide +kernel
  exact eq_of_beq (List.all_eq_true.mp g c (List.mem_range.mpr hc))
section n_word
variable {b : Nat → Nat} {L T i e s τ c : Nat} {g : sm_H} {u q w : Nat → Int32} {le : Bool} {W : List Nat} {kd st sz vl : Nat → Int32}
theorem n_nl {x y : Nat} (h : x < 2 ^ 31) (h2 : y < 2 ^ 31) (le : Bool) : (nI x = if le = true then nI y else -1) ↔ (le = true ∧ x = y) := by
  cases le with
  | true =>
    rw [if_pos rfl, nI_eq h h2]
    exact ⟨fun z => ⟨rfl, z⟩, fun z => z.2⟩
  | false =>
    rw [if_neg (by decide)]
    constructor
    · intro z
      have := congrArg Int32.toInt z
      rw [nI_toInt h, show (-1 : Int32).toInt = -1 by decide] at this
      omega
    · intro z
      cases z.1
theorem n_lng (B : n_RB b L g) (h11 : u 11 = nI L) (h13 : u 13 = nI s) {n : Nat} (hn : s + n ≤ L) (hb : ∀ k, k < n → n_ty (b (s + k)) = 1) (he : s + n < L → n_ty (b (s + n)) ≠ 1) : ∀ m k u1, n - k < m → k ≤ n → u1 11 = nI L → u1 13 = nI s → sm_jn (u1 17) (u1 1017) = n_w64 b s k → (∀ j, j ≠ 17 → j ≠ 1017 → u1 j = u j) → ∃ u', f_mo_seesWord_L38 m 114 (nI k) (n_rr g u1 q w) = some (1, n_rr g u' q w) ∧ sm_jn (u' 17) (u' 1017) = n_w64 b s n ∧ (∀ j, j ≠ 17 → j ≠ 1017 → u' j = u j) := by
  have hL := B.1
  intro m
  induction m with
  | zero => intro k u1 z; omega
  | succ m ih =>
    intro k u1 a1 a2 a3 a4 a5 a6
    have R1 : f_mo_byteAt 114 ((n_rr g u1 q w 114 13) + nI k) (n_rr g u1 q w) = some (n_ba b L (s + k), n_rr g u1 q w) := by
      rw [n_r114, a4, nI_add]
      exact n_byteAt B a3 (by omega)
    by_cases y : k = n
    · subst y
      refine ⟨u1, ?_, a5, a6⟩
      unfold f_mo_seesWord_L38
      refine w_b2 R1 ?_
      refine w_b2 (n_isLetter B (s + k) _) ?_
      rw [decide_eq_false (fun z => he z.1 z.2), if_pos (show sm_b2i false = 0 by decide)]
    · have hk : k < n := by omega
      have ck := hb k hk
      have c1 := n_ty1.mp ck
      obtain ⟨v, hv⟩ : ∃ v : Int64, v = n_w64 b s (k + 1) := ⟨_, rfl⟩
      obtain ⟨u', q1, q2, q3⟩ := ih (k + 1) (upd (upd u1 17 (sm_lo v)) 1017 (sm_hi v)) (by omega) (by omega) (by rw [p_ud_off (by omega), p_ud_off (by omega)]; exact a3) (by rw [p_ud_off (by omega), p_ud_off (by omega)]; exact a4) (by rw [p_ud_off (show ¬ 17 = 1017 by decide), p_ud_at, p_ud_at, sm_jn_id, hv]) (fun j j1 j2 => by rw [p_ud_off j2, p_ud_off j1]; exact a6 j j1 j2)
      refine ⟨u', ?_, q2, q3⟩
      have F : ∀ v', v' = v → f_mo_seesWord_L89 (f_mo_seesWord_L38 m) 114 (nI k) v' 114 (n_rr g u1 q w) = some (1, n_rr g u' q w) := by
        intro v' ev
        unfold f_mo_seesWord_L89
        refine w_lt ?_
        refine w_lt ?_
        rw [ev, n_u114, n_u114, nI_1]
        exact q1
      unfold f_mo_seesWord_L38
      refine w_b2 R1 ?_
      refine w_b2 (n_isLetter B (s + k) _) ?_
      rw [decide_eq_true ⟨show s + k < L by omega, ck⟩, if_neg (show ¬ sm_b2i true = 0 by decide)]
      by_cases x : 8 ≤ k
      · rw [if_pos (show (8 : Int32) ≤ nI k from nI_le (a := 8) x (by omega))]
        refine F 0 ?_
        rw [hv]
        unfold n_w64
        rw [if_neg (by omega)]
      · rw [if_neg (show ¬ (8 : Int32) ≤ nI k from nI_ge (b := 8) (by omega) (by omega))]
        refine w_b2 R1 ?_
        refine F _ ?_
        rw [n_r114, a5, hv]
        unfold n_w64 n_ba
        rw [if_pos (by omega), if_pos (by omega), if_pos (by omega), n_to64 (by omega)]
        show 32 * Int64.ofNat (n_kv (fun j => b (s + j)) k) + Int64.ofNat (b (s + k)) - 96 = Int64.ofNat (32 * n_kv (fun j => b (s + j)) k + (b (s + k) - 96))
        rw [show (32 : Int64) = Int64.ofNat 32 from rfl, show (96 : Int64) = Int64.ofNat 96 from rfl, ← Int64.ofNat_mul, ← Int64.ofNat_add, show 32 * n_kv (fun j => b (s + j)) k + b (s + k) = (32 * n_kv (fun j => b (s + j)) k + (b (s + k) - 96)) + 96 by omega, Int64.ofNat_add, Int64.add_sub_cancel]
theorem n_letter (K : n_T1 b L T kd st sz vl i e le τ W s) (hs : s < L) (h : n_ty (b s) = 1) : τ = 1 ∨ (τ = 4 ∧ le = true ∧ s = e) := by
  obtain ⟨k1, k2, k3, k4, k5, k6, k7, k8, k9, ka, kb, kc, kd⟩ := K
  have t : τ = 0 ∨ τ = 1 ∨ τ = 2 ∨ τ = 3 ∨ τ = 4 := by clear kd; omega
  rcases t with t | t | t | t | t
  · have := (k7 t).1; exact absurd this (by clear kd; omega)
  · exact Or.inl t
  · have h1 := k9 (Or.inr t)
    have := (h1.2.2.1 0 (Nat.lt_of_lt_of_le Nat.zero_lt_one h1.1)).2
    rw [Nat.add_zero, h, t] at this
    exact absurd this (by decide)
  · have := (kc t).2
    rw [h] at this
    exact absurd this (by decide)
  · rcases (kd t).2.2 (Or.inl h) with x | ⟨n, n1, -, n3, -⟩
    · exact Or.inr ⟨t, x⟩
    · have := n3 0 (Nat.lt_of_lt_of_le (by decide) n1)
      rw [Nat.add_zero, h] at this
      exact absurd this (by decide)
theorem n_digit (K : n_T1 b L T kd st sz vl i e le τ W s) (hs : s < L) (h : n_ty (b s) = 2) : τ = 2 ∨ (τ = 4 ∧ ((le = true ∧ s = e) ∨ ∃ n, 4 ≤ n ∧ s + n ≤ L ∧ (∀ k, k < n → n_ty (b (s + k)) = 2) ∧ (s + n < L → n_ty (b (s + n)) ≠ 2))) := by
  obtain ⟨k1, k2, k3, k4, k5, k6, k7, k8, k9, ka, kb, kc, kd⟩ := K
  have t : τ = 0 ∨ τ = 1 ∨ τ = 2 ∨ τ = 3 ∨ τ = 4 := by clear kd; omega
  rcases t with t | t | t | t | t
  · have := (k7 t).1; exact absurd this (by clear kd; omega)
  · have h1 := k9 (Or.inl t)
    have := (h1.2.2.1 0 (Nat.lt_of_lt_of_le Nat.zero_lt_one h1.1)).2
    rw [Nat.add_zero, h, t] at this
    exact absurd this (by decide)
  · exact Or.inl t
  · have := (kc t).2
    rw [h] at this
    exact absurd this (by decide)
  · exact Or.inr ⟨t, (kd t).2.2 (Or.inr h)⟩
theorem n_first (K : n_T1 b L T kd st sz vl i e le τ W s) (h : τ = 1 ∨ τ = 2) : s < L ∧ n_ty (b s) = τ := by
  obtain ⟨k1, k2, k3, k4, k5, k6, k7, k8, k9, ka, kb, kc, kd⟩ := K
  have h1 := k9 h
  have := (h1.2.2.1 0 (Nat.lt_of_lt_of_le Nat.zero_lt_one h1.1)).2
  rw [Nat.add_zero] at this
  exact ⟨(k8 (by rcases h with z | z <;> rw [z] <;> decide)).1, this⟩
theorem n_sees1 (B : n_RB b L g) (K : n_T1 b L T kd st sz vl i e le τ W s) (U : n_U L u e le s) (ht : τ = 1) : ∃ u', f_mo_seesWord 114 (n_rr g u q w) = some (1, n_rr g u' q w) ∧ n_uf u u' ∧ u' 10 = nI s ∧ u' 13 = nI s ∧ u' 12 = u 12 ∧ n_U L u' e le s ∧ sm_jn (u' 17) (u' 1017) = n_w64 b s W.length := by
  obtain ⟨u1, p1, p2, p3, p4, p5, p6, -⟩ := n_peek (q := q) (w := w) B K U
  obtain ⟨f1, f2⟩ := n_first K (Or.inl ht)
  obtain ⟨m1, m2, m3, m4, m5⟩ := K.2.2.2.2.2.2.2.2.1 (Or.inl ht)
  have hL := B.1
  have hes : e ≤ s := K.1
  obtain ⟨u', q1, q2, q3⟩ := n_lng (g := g) (q := q) (w := w) (u := u1) B p6.1 p4 m2 (fun k hk => (m3 k hk).2.trans ht) (fun z => by rw [← ht]; exact m4 z) sm_N 0 (upd (upd u1 17 (sm_lo 0)) 1017 (sm_hi 0)) (by unfold sm_N; omega) (Nat.zero_le _) (by rw [p_ud_off (by omega), p_ud_off (by omega)]; exact p6.1) (by rw [p_ud_off (by omega), p_ud_off (by omega)]; exact p4) (by rw [p_ud_off (show ¬ 17 = 1017 by decide), p_ud_at, p_ud_at, sm_jn_id]; rfl) (fun j j1 j2 => by rw [p_ud_off j2, p_ud_off j1])
  refine ⟨u', ?_, fun k a1 a2 a3 a4 a5 a6 => (q3 k a5 a6).trans (p2 k a1 a2 a3 a4 a5 a6), (q3 10 (by decide) (by decide)).trans p3, (q3 13 (by decide) (by decide)).trans p4, (q3 12 (by decide) (by decide)).trans p5, ⟨(q3 11 (by decide) (by decide)).trans p6.1, ⟨s, hes, Nat.le_refl _, (q3 10 (by decide) (by decide)).trans p3⟩, (q3 12 (by decide) (by decide)).trans p6.2.2⟩, q2⟩
  unfold f_mo_seesWord
  refine w_b2 p1 ?_
  refine w_b2 (n_isLetter B s _) ?_
  rw [decide_eq_true ⟨f1, f2.trans ht⟩, if_neg (show ¬ sm_b2i true = 0 by decide), n_r114, p4, p6.2.2, if_neg (fun z => m5 ((n_nl (by omega) (by omega) le).mp z))]
  refine w_lt ?_
  rw [n_u114, n_u114]
  exact q1
theorem n_sees0 (B : n_RB b L g) (K : n_T1 b L T kd st sz vl i e le τ W s) (U : n_U L u e le s) (ht : τ ≠ 1) : ∃ u', f_mo_seesWord 114 (n_rr g u q w) = some (0, n_rr g u' q w) ∧ n_ub 1 s u u' := by
  obtain ⟨u1, p1, p2, p3, p4, p5, p6, -⟩ := n_peek (q := q) (w := w) B K U
  have hL := B.1
  have hes : e ≤ s := K.1
  have hsL : s ≤ L := K.2.1
  obtain ⟨f1, f2⟩ := n_fails (g := g) (q := q) (w := w) (c := 1) p4
  have F : f_mo_seesWord_L21 114 (n_rr g u1 q w) = some (0, n_rr g (upd (upd u1 15 (nI 1)) 16 (nI s)) q w) := by
    unfold f_mo_seesWord_L21
    rw [n_r114]
    refine w_b2 f1 ?_
    rfl
  refine ⟨_, ?_, p2.ub f2⟩
  unfold f_mo_seesWord
  refine w_b2 p1 ?_
  refine w_b2 (n_isLetter B s _) ?_
  by_cases z : s < L ∧ n_ty (b s) = 1
  · rcases n_letter K z.1 z.2 with y | y
    · exact absurd y ht
    · rw [decide_eq_true z, if_neg (show ¬ sm_b2i true = 0 by decide), n_r114, p4, p6.2.2, if_pos ((n_nl (by omega) (by omega) le).mpr y.2)]
      exact F
  · rw [decide_eq_false z, if_pos (show sm_b2i false = 0 by decide)]
    exact F
theorem n_pass (B : n_RB b L g) (K : n_T1 b L T kd st sz vl i e le τ W s) (ht : τ = 1) (h11 : u 11 = nI L) (h10 : u 10 = nI s) : ∃ u', f_mo_passWord 114 (n_rr g u q w) = some (n_rr g u' q w) ∧ n_uf u u' ∧ u' 10 = nI (s + W.length) ∧ u' 12 = nI (s + W.length) ∧ u' 11 = nI L ∧ ∀ k, k ≠ 10 → k ≠ 12 → u' k = u k := by
  obtain ⟨m1, m2, m3, m4, m5⟩ := K.2.2.2.2.2.2.2.2.1 (Or.inl ht)
  have hL := B.1
  have D : ∀ m k u1, W.length - k < m → k ≤ W.length → u1 11 = nI L → u1 10 = nI (s + k) → (∀ j, j ≠ 10 → j ≠ 12 → u1 j = u j) → ∃ u', f_mo_passWord_L0 m 114 (n_rr g u1 q w) = some (n_rr g u' q w) ∧ u' 10 = nI (s + W.length) ∧ u' 12 = nI (s + W.length) ∧ ∀ j, j ≠ 10 → j ≠ 12 → u' j = u j := by
    intro m
    induction m with
    | zero => intro k u1 z; omega
    | succ m ih =>
      intro k u1 a1 a2 a3 a4 a5
      have R1 : f_mo_byteAt 114 (n_rr g u1 q w 114 10) (n_rr g u1 q w) = some (n_ba b L (s + k), n_rr g u1 q w) := by
        rw [n_r114, a4]
        exact n_byteAt B a3 (by omega)
      by_cases y : k = W.length
      · subst y
        refine ⟨upd u1 12 (nI (s + W.length)), ?_, by rw [p_ud_off (by decide)]; exact a4, p_ud_at, fun j j1 j2 => by rw [p_ud_off j2]; exact a5 j j1 j2⟩
        unfold f_mo_passWord_L0
        refine w_b2 R1 ?_
        refine w_b2 (n_isLetter B (s + W.length) _) ?_
        rw [decide_eq_false (fun z => m4 z.1 (z.2.trans ht.symm)), if_pos (show sm_b2i false = 0 by decide)]
        unfold f_mo_passWord_L27
        refine w_lt ?_
        rw [n_r114, a4, n_u114]
      · have hk : k < W.length := by omega
        obtain ⟨u', q1, q2⟩ := ih (k + 1) (upd u1 10 (nI (s + (k + 1)))) (by omega) (by omega) (by rw [p_ud_off (by decide)]; exact a3) p_ud_at (fun j j1 j2 => by rw [p_ud_off j1]; exact a5 j j1 j2)
        refine ⟨u', ?_, q2⟩
        unfold f_mo_passWord_L0
        refine w_b2 R1 ?_
        refine w_b2 (n_isLetter B (s + k) _) ?_
        rw [decide_eq_true ⟨show s + k < L by omega, (m3 k hk).2.trans ht⟩, if_neg (show ¬ sm_b2i true = 0 by decide)]
        refine w_lt ?_
        rw [n_r114, a4, n_u114, nI_1]
        exact q1
  obtain ⟨u', q1, q2, q3, q4⟩ := D sm_N 0 u (by unfold sm_N; omega) (Nat.zero_le _) h11 h10 (fun _ _ _ => rfl)
  exact ⟨u', q1, fun k a1 a2 _ _ _ _ => q4 k a1 a2, q2, q3, (q4 11 (by decide) (by decide)).trans h11, q4⟩
end n_word
