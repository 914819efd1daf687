-- THE CONSTRUCTORS, each at its place
def sm_dyn (B : Nat) (h : sm_H) : Prop := (∀ i c k, sm_Ly i = (0, c, 0) → sm_fk c k = 1 → h i k = 0 ∨ (h i k).toNatClampNeg < B) ∧ ∀ i b k j, sm_Ly i = (2, b, k) → j < 3 → h i j = 0 ∨ (h i j).toNatClampNeg < B
theorem sm_dyn.dy {B lo hi : Nat} {h : sm_H} (hd : sm_dyn B h) (hb : Nat.ble B hi = true) : sm_dy lo hi h := by
  have := Nat.le_of_ble_eq_true hb
  exact ⟨fun i c k _ _ a b => (hd.1 i c k a b).imp id (fun z => by omega), fun i b k j _ _ a c => (hd.2 i b k j a c).imp id (fun z => by omega)⟩
theorem sm_dyn.dyB {B lo lo' hi : Nat} {h : sm_H} (hd : sm_dyn B h) (hb : Nat.ble B hi = true) : sm_dyB lo lo' hi h := by
  have := Nat.le_of_ble_eq_true hb
  exact ⟨fun i c k _ _ a b => (hd.1 i c k a b).imp id (fun z => by omega), fun i b k j _ _ a c => (hd.2 i b k j a c).imp id (fun z => by omega)⟩
theorem sm_atD {lo hi i : Nat} {K : Nat × Nat × Nat} (h : decide (lo ≤ i ∧ i + sm_sz K ≤ hi ∧ sm_Ly i = K) = true) : sm_at lo hi K i := by
  have := of_decide_eq_true h
  exact this
theorem sm_arrD {lo hi t n i : Nat} (h : decide (lo ≤ i ∧ i < hi ∧ sm_Ly i = (1, t, n)) = true) : sm_arr lo hi t n i := by
  have := of_decide_eq_true h
  exact this
theorem ck_en_11 : sm_CJ "SmokeControl$Engine" 11 q_co_init 0 := ⟨⟨List.mem_of_getElem? (i := 7) rfl, (sm_mq2 184 (by decide +kernel) rfl), (sm_mq1 11 (by decide +kernel) rfl), (sm_mq2 185 rfl rfl)⟩, ⟨by decide +kernel, by decide +kernel, by decide +kernel⟩, rfl, rfl⟩
theorem ck_pl_38 : sm_CJ "SmokeControl$Plant" 38 q_ru_init 0 := ⟨⟨List.mem_of_getElem? (i := 0) rfl, (sm_mq1 37 (by decide +kernel) rfl), (sm_mq1 3 (by decide +kernel) rfl), (sm_mq1 38 rfl rfl)⟩, ⟨by decide +kernel, by decide +kernel, by decide +kernel⟩, rfl, rfl⟩
theorem ck_re_11 : sm_CJ "SmokeControl$Reader" 11 q_te_init 0 := ⟨⟨List.mem_of_getElem? (i := 2) rfl, (sm_mq1 189 (by decide +kernel) rfl), (sm_mq1 5 (by decide +kernel) rfl), (sm_mq1 190 rfl rfl)⟩, ⟨by decide +kernel, by decide +kernel, by decide +kernel⟩, rfl, rfl⟩
theorem ck_re_20 : sm_CI "SmokeControl$Reader" 20 q_pl_init 0 := ⟨⟨(sm_mq1 224 (by decide +kernel) rfl), (sm_mq1 31 (by decide +kernel) rfl), (sm_mq1 2 (by decide +kernel) rfl), (sm_mq1 32 rfl rfl)⟩, ⟨by decide +kernel, by decide +kernel, by decide +kernel⟩, rfl, rfl⟩
theorem ck_sc_11 : sm_CI "SmokeControl" 11 q_pl_init 0 := ⟨⟨(sm_mq1 30 (by decide +kernel) rfl), (sm_mq1 31 (by decide +kernel) rfl), (sm_mq1 2 (by decide +kernel) rfl), (sm_mq1 32 rfl rfl)⟩, ⟨by decide +kernel, by decide +kernel, by decide +kernel⟩, rfl, rfl⟩
theorem ck_sc_14 : sm_CJ "SmokeControl" 14 q_re_init 0 := ⟨⟨List.mem_of_getElem? (i := 1) rfl, (sm_mq1 183 (by decide +kernel) rfl), (sm_mq1 4 (by decide +kernel) rfl), (sm_mq1 184 rfl rfl)⟩, ⟨by decide +kernel, by decide +kernel, by decide +kernel⟩, rfl, rfl⟩
theorem ck_sc_21 : sm_CI "SmokeControl" 21 q_st_init 1 := ⟨⟨(sm_mq2 10 (by decide +kernel) rfl), (sm_mq2 11 (by decide +kernel) rfl), (sm_mq1 6 (by decide +kernel) rfl), (sm_mq2 12 rfl rfl)⟩, ⟨by decide +kernel, by decide +kernel, by decide +kernel⟩, rfl, rfl⟩
theorem ck_sc_37 : sm_CJ "SmokeControl" 37 q_en_init 0 := ⟨⟨List.mem_of_getElem? (i := 6) rfl, (sm_mq2 178 (by decide +kernel) rfl), (sm_mq1 10 (by decide +kernel) rfl), (sm_mq2 179 rfl rfl)⟩, ⟨by decide +kernel, by decide +kernel, by decide +kernel⟩, rfl, rfl⟩
theorem ck_st_35 : sm_CJ "SmokeControl$State" 35 q_al_init 0 := ⟨⟨List.mem_of_getElem? (i := 3) rfl, (sm_mq2 17 (by decide +kernel) rfl), (sm_mq1 7 (by decide +kernel) rfl), (sm_mq2 18 rfl rfl)⟩, ⟨by decide +kernel, by decide +kernel, by decide +kernel⟩, rfl, rfl⟩
theorem ck_st_42 : sm_CJ "SmokeControl$State" 42 q_lo_init 0 := ⟨⟨List.mem_of_getElem? (i := 4) rfl, (sm_mq2 42 (by decide +kernel) rfl), (sm_mq1 8 (by decide +kernel) rfl), (sm_mq2 43 rfl rfl)⟩, ⟨by decide +kernel, by decide +kernel, by decide +kernel⟩, rfl, rfl⟩
theorem cvv_pl_43 : sm_CV "SmokeControl$Plant" 43 q_pl_begin 0 := ⟨⟨(sm_mq1 79 (by decide +kernel) rfl), cx_pl_begin.1, cx_pl_begin.2, ini_pl, cw_pl_begin⟩, cy_pl_begin.1, cy_pl_begin.2⟩
theorem cvv_st_47 : sm_CV "SmokeControl$State" 47 q_st_begin 1 := ⟨⟨(sm_mq2 62 (by decide +kernel) rfl), cx_st_begin.1, cx_st_begin.2, ini_st, cw_st_begin⟩, cy_st_begin.1, cy_st_begin.2⟩
theorem sm_dyn.mono {B B' : Nat} {h : sm_H} (hd : sm_dyn B h) (hb : Nat.ble B B' = true) : sm_dyn B' h := by
  have := Nat.le_of_ble_eq_true hb
  exact ⟨fun i c k a b => (hd.1 i c k a b).imp id (fun z => by omega), fun i b k j a c => (hd.2 i b k j a c).imp id (fun z => by omega)⟩
def sm_dq (B : Nat) (h : sm_H) (i k : Nat) : Prop := h i k = 0 ∨ (h i k).toNatClampNeg < B
theorem sm_dynOf {B : Nat} {h : sm_H} (h1 : sm_dq B h 17 1) (h2 : sm_dq B h 40 0) (h3 : sm_dq B h 53 0) (h4 : sm_dq B h 67 0) (h5 : sm_dq B h 80 0) (h6 : sm_dq B h 93 0) (h7 : sm_dq B h 66 0) (h8 : sm_dq B h 66 1) (h9 : sm_dq B h 66 2) : sm_dyn B h := by
  have g1 : ((List.range 132).all fun i => (List.range 60).all fun k => match sm_Ly i with
    | (0, c, _) => !decide (sm_fk c k = 1) || decide ((i, k) ∈ [(17, 1), (40, 0), (53, 0), (67, 0), (80, 0), (93, 0)])
    | (2, _, _) => decide (i = 66)
    | _ => true) = true := by decide +kernel
  have lt : ∀ i K, sm_Ly i = K → K ≠ (9, 0, 0) → i < 132 := fun i K e n => by
    by_cases z : i < 132
    · exact z
    · rw [sm_Ly_out (by omega)] at e
      exact absurd e.symm n
  refine ⟨fun i c k hL hf => ?_, fun i b k j hL hj => ?_⟩
  · have hi := lt i _ hL (by simp)
    have hk : k < 60 := by
      by_cases z : k < 60
      · exact z
      · exfalso
        have e : sm_fk c k = 0 := by
          have hl : ∀ z : Nat, (sm_fkL.getD z []).length ≤ 60 := by
            intro z
            by_cases y : z < 11
            · have g : ((List.range 11).all fun z => Nat.ble (sm_fkL.getD z []).length 60) = true := by decide +kernel
              exact Nat.le_of_ble_eq_true (List.all_eq_true.mp g z (List.mem_range.mpr y))
            · have hl2 : sm_fkL.length = 11 := by decide +kernel
              rw [List.getD_eq_getElem?_getD, List.getElem?_eq_none (by omega)]
              exact Nat.zero_le _
          unfold sm_fk
          rw [List.getD_eq_getElem?_getD, List.getElem?_eq_none (Nat.le_trans (hl c) (by omega))]
          rfl
        rw [e] at hf
        cases hf
    have g := List.all_eq_true.mp (List.all_eq_true.mp g1 i (List.mem_range.mpr hi)) k (List.mem_range.mpr hk)
    rw [hL] at g
    simp only [hf, decide_true, Bool.not_true, Bool.false_or, decide_eq_true_eq] at g
    simp only [List.mem_cons, Prod.mk.injEq, List.not_mem_nil, or_false] at g
    rcases g with ⟨rfl, rfl⟩ | ⟨rfl, rfl⟩ | ⟨rfl, rfl⟩ | ⟨rfl, rfl⟩ | ⟨rfl, rfl⟩ | ⟨rfl, rfl⟩
    · exact h1
    · exact h2
    · exact h3
    · exact h4
    · exact h5
    · exact h6
  · have hi := lt i _ hL (by simp)
    have g := List.all_eq_true.mp (List.all_eq_true.mp g1 i (List.mem_range.mpr hi)) 0 (by decide)
    rw [hL] at g
    have e : i = 66 := of_decide_eq_true g
    subst e
    match j, hj with
    | 0, _ => exact h7
    | 1, _ => exact h8
    | 2, _ => exact h9
    | j + 3, z => omega
-- what the constructors' own methods do to cells of nothing but 0
theorem sm_up_same {h : sm_H} {i k : Nat} {v : Int32} (e : h i k = v) : sm_up h i k v = h := by
  funext j q
  unfold sm_up
  by_cases z : j = i ∧ q = k
  · rw [if_pos z, z.1, z.2, e]
  · rw [if_neg z]
theorem sm_up_off {h : sm_H} {i k j q : Nat} {v : Int32} (z : ¬ (j = i ∧ q = k)) : sm_up h i k v j q = h j q := by
  unfold sm_up
  rw [if_neg z]
theorem p_fill0L {a : Nat} {h : sm_H} (hz : ∀ k, h a k = 0) (hn : sm_len a < 2000) : ∀ (m n i : Nat), sm_len a - i < n → i ≤ sm_len a → m = sm_len a → f_ja_fill_L5 n a 0 (nI i) (nI m) h = some h := by
  intro m n
  induction n with
  | zero => intro i h1; omega
  | succ n ih =>
    intro i h1 h2 hm
    subst hm
    unfold f_ja_fill_L5
    by_cases z : i = sm_len a
    · rw [if_pos (nI_le (by omega) (by omega))]
    · rw [if_neg (nI_ge (by omega) (by omega))]
      have g : sm_inb (nI i) (sm_len a) = true := decide_eq_true (nI_in (by omega) (by omega))
      unfold sm_gd
      rw [if_pos g]
      unfold sm_let
      rw [nI_clamp (by omega), sm_up_same (hz i), nI_1]
      exact ih (i + 1) (by omega) (by omega) rfl
theorem p_fill0 {a : Nat} {h : sm_H} (hz : ∀ k, h a k = 0) (hn : sm_len a < 2000) : f_ja_fill a 0 h = some h := by
  unfold f_ja_fill sm_let
  exact p_fill0L hz hn (sm_len a) sm_N 0 (by unfold sm_N; omega) (by omega) rfl
def sm_ip (p : Nat) (h : sm_H) : sm_H := sm_up (sm_up (sm_up h p 0 1) p 4 50) p 5 10
def sm_ib (s p : Nat) (h : sm_H) : sm_H := sm_up (sm_up (sm_up h s 0 (nI p)) s 4 100) (s + 8) 2 (-1)
theorem p_pl_begin {p : Nat} {h : sm_H} (hz : ∀ i k, p ≤ i → h i k = 0) : f_pl_begin p h = some (sm_ip p h) := by
  unfold f_pl_begin f_ru_begin sm_ip sm_let
  simp only [Option.bind_some]
  congr 1
  funext i k
  have e1 : ∀ k, h p k = 0 := fun k => hz p k (Nat.le_refl _)
  have e2 : ∀ k, h (p + 9) k = 0 := fun k => hz (p + 9) k (by omega)
  unfold sm_up
  by_cases a : i = p
  · subst a
    rcases (by omega : k = 0 ∨ k = 1 ∨ k = 2 ∨ k = 3 ∨ k = 4 ∨ k = 5 ∨ k = 6 ∨ 6 < k) with z | z | z | z | z | z | z | z
    all_goals first
      | (subst z; simp [e1])
      | (have h0 : ¬ k = 0 := by omega
         have h1 : ¬ k = 1 := by omega
         have h2 : ¬ k = 2 := by omega
         have h3 : ¬ k = 3 := by omega
         have h4 : ¬ k = 4 := by omega
         have h5 : ¬ k = 5 := by omega
         have h6 : ¬ k = 6 := by omega
         simp [h0, h1, h2, h3, h4, h5, h6])
  · by_cases b : i = p + 9
    · subst b
      simp [e2]
    · simp [a, b]
theorem sm_lens : sm_len 41 < 2000 := by decide
theorem p_st_begin {s p : Nat} {h : sm_H} (hs : s = 40 ∨ s = 53 ∨ s = 67 ∨ s = 80 ∨ s = 93) (hp : p = 1) (hz : ∀ i k, s ≤ i → h i k = 0) (hd : h p 1 = 0) : f_st_begin s p h = some (sm_ib s p h) := by
  subst hp
  have len : ∀ j, j ≤ 7 → sm_len (s + j) < 2000 := by
    intro j hj
    rcases hs with rfl | rfl | rfl | rfl | rfl <;>
      (match j, hj with
       | 0, _ => decide
       | 1, _ => decide
       | 2, _ => decide
       | 3, _ => decide
       | 4, _ => decide
       | 5, _ => decide
       | 6, _ => decide
       | 7, _ => decide
       | j + 8, z => exact absurd z (by omega))
  have hs2 : 1 < s := by omega
  unfold f_st_begin sm_let
  dsimp only
  have u1 : sm_up (sm_up h s 0 (nI 1)) s 1 0 = sm_up h s 0 (nI 1) := sm_up_same (by rw [sm_up_off (by omega)]; exact hz _ _ (by omega))
  rw [u1]
  have u2 : ∀ k, 1 ≤ k → sm_up (sm_up h s 0 (nI 1)) s k 0 = sm_up h s 0 (nI 1) := fun k hk => sm_up_same (by rw [sm_up_off (by omega)]; exact hz _ _ (by omega))
  rw [u2 2 (by omega), u2 3 (by omega)]
  generalize hg : sm_up (sm_up h s 0 (nI 1)) s 4 100 = g
  have gz : ∀ i k, s ≤ i → (i = s → 4 < k) → g i k = 0 := fun i k a b => by
    rw [← hg]
    by_cases e : i = s
    · have := b e
      rw [sm_up_off (by omega), sm_up_off (by omega)]
      exact hz i k a
    · rw [sm_up_off (by omega), sm_up_off (by omega)]
      exact hz i k a
  have u3 : ∀ k, 4 < k → sm_up g s k 0 = g := fun k hk => sm_up_same (gz s k (Nat.le_refl _) (fun _ => hk))
  rw [u3 5 (by omega), u3 6 (by omega), u3 7 (by omega), u3 8 (by omega)]
  rw [p_fill0 (fun k => gz (s + 1) k (by omega) (by omega)) (len 1 (by omega)), Option.bind_some, p_fill0 (fun k => gz (s + 2) k (by omega) (by omega)) (len 2 (by omega)), Option.bind_some, p_fill0 (fun k => gz (s + 3) k (by omega) (by omega)) (len 3 (by omega)), Option.bind_some, p_fill0 (fun k => gz (s + 4) k (by omega) (by omega)) (len 4 (by omega)), Option.bind_some, p_fill0 (fun k => gz (s + 5) k (by omega) (by omega)) (len 5 (by omega)), Option.bind_some, p_fill0 (fun k => gz (s + 6) k (by omega) (by omega)) (len 6 (by omega)), Option.bind_some, p_fill0 (fun k => gz (s + 7) k (by omega) (by omega)) (len 7 (by omega)), Option.bind_some]
  unfold f_al_begin sm_let
  dsimp only
  rw [sm_up_same (gz (s + 8) 0 (by omega) (by omega)), sm_up_same (gz (s + 8) 1 (by omega) (by omega)), Option.bind_some]
  have u4 : sm_up (sm_up g (s + 8) 2 (-1)) (s + 8) 3 0 = sm_up g (s + 8) 2 (-1) := sm_up_same (by rw [sm_up_off (by omega)]; exact gz _ _ (by omega) (by omega))
  rw [u4]
  have u5 : sm_up (sm_up g (s + 8) 2 (-1)) (s + 9) 0 0 = sm_up g (s + 8) 2 (-1) := sm_up_same (by rw [sm_up_off (by omega)]; exact gz _ _ (by omega) (by omega))
  rw [u5]
  have e0 : sm_up g (s + 8) 2 (-1) s 0 = nI 1 := by
    rw [sm_up_off (by omega), ← hg, sm_up_off (by omega), sm_up_at]
  have e1 : sm_up g (s + 8) 2 (-1) 1 1 = 0 := by
    rw [sm_up_off (by omega), ← hg, sm_up_off (by omega), sm_up_off (by omega)]
    exact hd
  have eN : sm_N = 19999 + 1 := rfl
  rw [eN]
  unfold f_st_begin_L119
  have ip : sm_isP (sm_up g (s + 8) 2 (-1) s 0) = true := by rw [e0]; decide +kernel
  unfold sm_gd sm_let
  rw [if_pos ip, e0]
  have ep : sm_p (nI 1) = 1 := by decide +kernel
  rw [ep]
  dsimp only
  rw [e1, if_pos (by decide)]
  rw [← hg]
  rfl
theorem sm_ib_fr {s p i : Nat} {h : sm_H} (hi : i < s ∨ s + 13 ≤ i) : sm_ib s p h i = h i := by
  funext k
  unfold sm_ib
  rw [sm_up_off (by omega), sm_up_off (by omega), sm_up_off (by omega)]
theorem sm_ip_fr {p i : Nat} {h : sm_H} (hi : i < p ∨ p + 16 ≤ i) : sm_ip p h i = h i := by
  funext k
  unfold sm_ip
  rw [sm_up_off (by omega), sm_up_off (by omega), sm_up_off (by omega)]
theorem k_ru_10 (l : Launch) {h : sm_H} (hz : ∀ i k, 10 < i → h i k = 0) (hdy : sm_dyn 11 h) : sm_MetC l 10 11 (sm_rd 10 10 []) 20 6 816 q_ru_init [.ref 10] h 17 (sm_rd 10 17 []) h := by
  refine sm_MetC.of (by decide +kernel) rfl rfl rfl ?_
  intro base sz E p e s m args below meth c G hin hr hlk
  show sm_C p l e (sm_rmC 20 6 816) s m args below meth c _ _ E 11 _ 10 11 (sm_rd 10 10 []) 0 0 0 [(0, .ref 10)] [] h
  refine c_aload_n (f := 0) G 0 rfl (by decide +kernel : decode q_ru_init.2.1 0 = .ok (.aload_n 0, 1)) ?_
  refine c_obj G (sm_mq1 39 (by decide +kernel) rfl) ⟨by decide, by decide⟩ (by decide +kernel : decode q_ru_init.2.1 1 = .ok (.invokespecial 3, 3)) ?_
  refine c_aload_n (f := 0) G 0 rfl (by decide +kernel : decode q_ru_init.2.1 4 = .ok (.aload_n 0, 1)) ?_
  refine c_sipush (v := 300) G (by decide) (by decide +kernel : decode q_ru_init.2.1 5 = .ok (.sipush 300, 3)) ?_
  refine c_newa (hi := 11) (atype := .int) (t := 0) (N := 300) G rfl rfl rfl (fun _ _ z => z) rfl (fun k => hz 11 k (by decide)) rfl rfl rfl (by decide +kernel) (sm_dyn.dy hdy rfl) (sm_mq1 78 (by decide +kernel) rfl) (by decide) (by decide) (by decide +kernel) rfl rfl rfl rfl (by decide +kernel : decode q_ru_init.2.1 8 = .ok (.newarray .int, 2)) ?_
  refine c_putR (cl := 6) (x := 3) (i := 10) (nn := 1) (ty := .array .int) (rd' := (sm_rd 10 10 [(10, 3)])) G hin ⟨(sm_R6, sm_F6, 9), rfl, Nat.le_of_ble_eq_true rfl, (sm_mq1 47 (by decide +kernel) rfl), rfl, rfl, by decide +kernel⟩ rfl rfl rfl rfl (fun _ => ⟨rfl, rfl⟩) (sm_rd_cons _ _ _ _ _) (by decide +kernel : decode q_ru_init.2.1 10 = .ok (.putfield 11, 3)) ?_
  refine c_aload_n (f := 0) G 0 rfl (by decide +kernel : decode q_ru_init.2.1 13 = .ok (.aload_n 0, 1)) ?_
  refine c_sipush (v := 300) G (by decide) (by decide +kernel : decode q_ru_init.2.1 14 = .ok (.sipush 300, 3)) ?_
  refine c_newa (hi := 12) (atype := .int) (t := 0) (N := 300) G rfl rfl rfl (fun _ _ z => z) rfl (fun k => hz 12 k (by decide)) rfl rfl rfl (by decide +kernel) (sm_dyn.dy hdy rfl) (sm_mq1 78 (by decide +kernel) rfl) (by decide) (by decide) (by decide +kernel) rfl rfl rfl rfl (by decide +kernel : decode q_ru_init.2.1 17 = .ok (.newarray .int, 2)) ?_
  refine c_putR (cl := 6) (x := 4) (i := 10) (nn := 2) (ty := .array .int) (rd' := (sm_rd 10 10 [(10, 4), (10, 3)])) G hin ⟨(sm_R6, sm_F6, 9), rfl, Nat.le_of_ble_eq_true rfl, (sm_mq1 49 (by decide +kernel) rfl), rfl, rfl, by decide +kernel⟩ rfl rfl rfl rfl (fun _ => ⟨rfl, rfl⟩) (sm_rd_cons _ _ _ _ _) (by decide +kernel : decode q_ru_init.2.1 19 = .ok (.putfield 15, 3)) ?_
  refine c_aload_n (f := 0) G 0 rfl (by decide +kernel : decode q_ru_init.2.1 22 = .ok (.aload_n 0, 1)) ?_
  refine c_bipush (v := 12) G (by decide) (by decide +kernel : decode q_ru_init.2.1 23 = .ok (.bipush 12, 2)) ?_
  refine c_newa (hi := 13) (atype := .int) (t := 0) (N := 12) G rfl rfl rfl (fun _ _ z => z) rfl (fun k => hz 13 k (by decide)) rfl rfl rfl (by decide +kernel) (sm_dyn.dy hdy rfl) (sm_mq1 78 (by decide +kernel) rfl) (by decide) (by decide) (by decide +kernel) rfl rfl rfl rfl (by decide +kernel : decode q_ru_init.2.1 25 = .ok (.newarray .int, 2)) ?_
  refine c_putR (cl := 6) (x := 5) (i := 10) (nn := 3) (ty := .array .int) (rd' := (sm_rd 10 10 [(10, 5), (10, 4), (10, 3)])) G hin ⟨(sm_R6, sm_F6, 9), rfl, Nat.le_of_ble_eq_true rfl, (sm_mq1 51 (by decide +kernel) rfl), rfl, rfl, by decide +kernel⟩ rfl rfl rfl rfl (fun _ => ⟨rfl, rfl⟩) (sm_rd_cons _ _ _ _ _) (by decide +kernel : decode q_ru_init.2.1 27 = .ok (.putfield 18, 3)) ?_
  refine c_aload_n (f := 0) G 0 rfl (by decide +kernel : decode q_ru_init.2.1 30 = .ok (.aload_n 0, 1)) ?_
  refine c_bipush (v := 96) G (by decide) (by decide +kernel : decode q_ru_init.2.1 31 = .ok (.bipush 96, 2)) ?_
  refine c_newa (hi := 14) (atype := .int) (t := 0) (N := 96) G rfl rfl rfl (fun _ _ z => z) rfl (fun k => hz 14 k (by decide)) rfl rfl rfl (by decide +kernel) (sm_dyn.dy hdy rfl) (sm_mq1 78 (by decide +kernel) rfl) (by decide) (by decide) (by decide +kernel) rfl rfl rfl rfl (by decide +kernel : decode q_ru_init.2.1 33 = .ok (.newarray .int, 2)) ?_
  refine c_putR (cl := 6) (x := 6) (i := 10) (nn := 4) (ty := .array .int) (rd' := (sm_rd 10 10 [(10, 6), (10, 5), (10, 4), (10, 3)])) G hin ⟨(sm_R6, sm_F6, 9), rfl, Nat.le_of_ble_eq_true rfl, (sm_mq1 53 (by decide +kernel) rfl), rfl, rfl, by decide +kernel⟩ rfl rfl rfl rfl (fun _ => ⟨rfl, rfl⟩) (sm_rd_cons _ _ _ _ _) (by decide +kernel : decode q_ru_init.2.1 35 = .ok (.putfield 21, 3)) ?_
  refine c_aload_n (f := 0) G 0 rfl (by decide +kernel : decode q_ru_init.2.1 38 = .ok (.aload_n 0, 1)) ?_
  refine c_bipush (v := 96) G (by decide) (by decide +kernel : decode q_ru_init.2.1 39 = .ok (.bipush 96, 2)) ?_
  refine c_newa (hi := 15) (atype := .int) (t := 0) (N := 96) G rfl rfl rfl (fun _ _ z => z) rfl (fun k => hz 15 k (by decide)) rfl rfl rfl (by decide +kernel) (sm_dyn.dy hdy rfl) (sm_mq1 78 (by decide +kernel) rfl) (by decide) (by decide) (by decide +kernel) rfl rfl rfl rfl (by decide +kernel : decode q_ru_init.2.1 41 = .ok (.newarray .int, 2)) ?_
  refine c_putR (cl := 6) (x := 7) (i := 10) (nn := 5) (ty := .array .int) (rd' := (sm_rd 10 10 [(10, 7), (10, 6), (10, 5), (10, 4), (10, 3)])) G hin ⟨(sm_R6, sm_F6, 9), rfl, Nat.le_of_ble_eq_true rfl, (sm_mq1 55 (by decide +kernel) rfl), rfl, rfl, by decide +kernel⟩ rfl rfl rfl rfl (fun _ => ⟨rfl, rfl⟩) (sm_rd_cons _ _ _ _ _) (by decide +kernel : decode q_ru_init.2.1 43 = .ok (.putfield 24, 3)) ?_
  refine c_aload_n (f := 0) G 0 rfl (by decide +kernel : decode q_ru_init.2.1 46 = .ok (.aload_n 0, 1)) ?_
  refine c_bipush (v := 12) G (by decide) (by decide +kernel : decode q_ru_init.2.1 47 = .ok (.bipush 12, 2)) ?_
  refine c_newa (hi := 16) (atype := .int) (t := 0) (N := 12) G rfl rfl rfl (fun _ _ z => z) rfl (fun k => hz 16 k (by decide)) rfl rfl rfl (by decide +kernel) (sm_dyn.dy hdy rfl) (sm_mq1 78 (by decide +kernel) rfl) (by decide) (by decide) (by decide +kernel) rfl rfl rfl rfl (by decide +kernel : decode q_ru_init.2.1 49 = .ok (.newarray .int, 2)) ?_
  refine c_putR (cl := 6) (x := 8) (i := 10) (nn := 6) (ty := .array .int) (rd' := (sm_rd 10 10 [(10, 8), (10, 7), (10, 6), (10, 5), (10, 4), (10, 3)])) G hin ⟨(sm_R6, sm_F6, 9), rfl, Nat.le_of_ble_eq_true rfl, (sm_mq1 57 (by decide +kernel) rfl), rfl, rfl, by decide +kernel⟩ rfl rfl rfl rfl (fun _ => ⟨rfl, rfl⟩) (sm_rd_cons _ _ _ _ _) (by decide +kernel : decode q_ru_init.2.1 51 = .ok (.putfield 27, 3)) ?_
  exact c_vret G hr hlk (by decide +kernel) (by decide +kernel : decode q_ru_init.2.1 54 = .ok (.return_, 1))
theorem k_pl_1 (l : Launch) {h : sm_H} (hz : ∀ i k, 1 ≤ i → h i k = 0) (hdy : sm_dyn 2 h) : sm_MetC l 1 2 (sm_rd 1 1 []) 30 15 929 q_pl_init [.ref 1] h 17 (sm_rd 1 17 []) (sm_ip 1 h) := by
  refine sm_MetC.of (by decide +kernel) rfl rfl rfl ?_
  intro base sz E p e s m args below meth c G hin hr hlk
  show sm_C p l e (sm_rmC 30 15 929) s m args below meth c _ _ E 2 _ 1 2 (sm_rd 1 1 []) 0 0 0 [(0, .ref 1)] [] h
  refine c_aload_n (f := 0) G 0 rfl (by decide +kernel : decode q_pl_init.2.1 0 = .ok (.aload_n 0, 1)) ?_
  refine c_obj G (sm_mq1 33 (by decide +kernel) rfl) ⟨by decide, by decide⟩ (by decide +kernel : decode q_pl_init.2.1 1 = .ok (.invokespecial 3, 3)) ?_
  refine c_aload_n (f := 0) G 0 rfl (by decide +kernel : decode q_pl_init.2.1 4 = .ok (.aload_n 0, 1)) ?_
  refine c_bipush (v := 23) G (by decide) (by decide +kernel : decode q_pl_init.2.1 5 = .ok (.bipush 23, 2)) ?_
  refine c_newa (hi := 2) (atype := .int) (t := 0) (N := 23) G rfl rfl rfl (fun _ _ z => z) rfl (fun k => hz 2 k (by decide)) rfl rfl rfl (by decide +kernel) (sm_dyn.dy hdy rfl) (sm_mq1 78 (by decide +kernel) rfl) (by decide) (by decide) (by decide +kernel) rfl rfl rfl rfl (by decide +kernel : decode q_pl_init.2.1 7 = .ok (.newarray .int, 2)) ?_
  refine c_putR (cl := 4) (x := 7) (i := 1) (nn := 1) (ty := .array .int) (rd' := (sm_rd 1 1 [(1, 7)])) G hin ⟨(sm_R4, sm_F4, 16), rfl, Nat.le_of_ble_eq_true rfl, (sm_mq1 120 (by decide +kernel) rfl), rfl, rfl, by decide +kernel⟩ rfl rfl rfl rfl (fun _ => ⟨rfl, rfl⟩) (sm_rd_cons _ _ _ _ _) (by decide +kernel : decode q_pl_init.2.1 9 = .ok (.putfield 9, 3)) ?_
  refine c_aload_n (f := 0) G 0 rfl (by decide +kernel : decode q_pl_init.2.1 12 = .ok (.aload_n 0, 1)) ?_
  refine c_bipush (v := 23) G (by decide) (by decide +kernel : decode q_pl_init.2.1 13 = .ok (.bipush 23, 2)) ?_
  refine c_newa (hi := 3) (atype := .int) (t := 0) (N := 23) G rfl rfl rfl (fun _ _ z => z) rfl (fun k => hz 3 k (by decide)) rfl rfl rfl (by decide +kernel) (sm_dyn.dy hdy rfl) (sm_mq1 78 (by decide +kernel) rfl) (by decide) (by decide) (by decide +kernel) rfl rfl rfl rfl (by decide +kernel : decode q_pl_init.2.1 15 = .ok (.newarray .int, 2)) ?_
  refine c_putR (cl := 4) (x := 8) (i := 1) (nn := 2) (ty := .array .int) (rd' := (sm_rd 1 1 [(1, 8), (1, 7)])) G hin ⟨(sm_R4, sm_F4, 16), rfl, Nat.le_of_ble_eq_true rfl, (sm_mq1 124 (by decide +kernel) rfl), rfl, rfl, by decide +kernel⟩ rfl rfl rfl rfl (fun _ => ⟨rfl, rfl⟩) (sm_rd_cons _ _ _ _ _) (by decide +kernel : decode q_pl_init.2.1 17 = .ok (.putfield 15, 3)) ?_
  refine c_aload_n (f := 0) G 0 rfl (by decide +kernel : decode q_pl_init.2.1 20 = .ok (.aload_n 0, 1)) ?_
  refine c_bipush (v := 16) G (by decide) (by decide +kernel : decode q_pl_init.2.1 21 = .ok (.bipush 16, 2)) ?_
  refine c_newa (hi := 4) (atype := .int) (t := 0) (N := 16) G rfl rfl rfl (fun _ _ z => z) rfl (fun k => hz 4 k (by decide)) rfl rfl rfl (by decide +kernel) (sm_dyn.dy hdy rfl) (sm_mq1 78 (by decide +kernel) rfl) (by decide) (by decide) (by decide +kernel) rfl rfl rfl rfl (by decide +kernel : decode q_pl_init.2.1 23 = .ok (.newarray .int, 2)) ?_
  refine c_putR (cl := 4) (x := 9) (i := 1) (nn := 3) (ty := .array .int) (rd' := (sm_rd 1 1 [(1, 9), (1, 8), (1, 7)])) G hin ⟨(sm_R4, sm_F4, 16), rfl, Nat.le_of_ble_eq_true rfl, (sm_mq1 129 (by decide +kernel) rfl), rfl, rfl, by decide +kernel⟩ rfl rfl rfl rfl (fun _ => ⟨rfl, rfl⟩) (sm_rd_cons _ _ _ _ _) (by decide +kernel : decode q_pl_init.2.1 25 = .ok (.putfield 18, 3)) ?_
  refine c_aload_n (f := 0) G 0 rfl (by decide +kernel : decode q_pl_init.2.1 28 = .ok (.aload_n 0, 1)) ?_
  refine c_bipush (v := 6) G (by decide) (by decide +kernel : decode q_pl_init.2.1 29 = .ok (.bipush 6, 2)) ?_
  refine c_newa (hi := 5) (atype := .int) (t := 0) (N := 6) G rfl rfl rfl (fun _ _ z => z) rfl (fun k => hz 5 k (by decide)) rfl rfl rfl (by decide +kernel) (sm_dyn.dy hdy rfl) (sm_mq1 78 (by decide +kernel) rfl) (by decide) (by decide) (by decide +kernel) rfl rfl rfl rfl (by decide +kernel : decode q_pl_init.2.1 31 = .ok (.newarray .int, 2)) ?_
  refine c_putR (cl := 4) (x := 10) (i := 1) (nn := 4) (ty := .array .int) (rd' := (sm_rd 1 1 [(1, 10), (1, 9), (1, 8), (1, 7)])) G hin ⟨(sm_R4, sm_F4, 16), rfl, Nat.le_of_ble_eq_true rfl, (sm_mq1 133 (by decide +kernel) rfl), rfl, rfl, by decide +kernel⟩ rfl rfl rfl rfl (fun _ => ⟨rfl, rfl⟩) (sm_rd_cons _ _ _ _ _) (by decide +kernel : decode q_pl_init.2.1 33 = .ok (.putfield 21, 3)) ?_
  refine c_aload_n (f := 0) G 0 rfl (by decide +kernel : decode q_pl_init.2.1 36 = .ok (.aload_n 0, 1)) ?_
  refine c_bipush (v := 6) G (by decide) (by decide +kernel : decode q_pl_init.2.1 37 = .ok (.bipush 6, 2)) ?_
  refine c_newa (hi := 6) (atype := .int) (t := 0) (N := 6) G rfl rfl rfl (fun _ _ z => z) rfl (fun k => hz 6 k (by decide)) rfl rfl rfl (by decide +kernel) (sm_dyn.dy hdy rfl) (sm_mq1 78 (by decide +kernel) rfl) (by decide) (by decide) (by decide +kernel) rfl rfl rfl rfl (by decide +kernel : decode q_pl_init.2.1 39 = .ok (.newarray .int, 2)) ?_
  refine c_putR (cl := 4) (x := 11) (i := 1) (nn := 5) (ty := .array .int) (rd' := (sm_rd 1 1 [(1, 11), (1, 10), (1, 9), (1, 8), (1, 7)])) G hin ⟨(sm_R4, sm_F4, 16), rfl, Nat.le_of_ble_eq_true rfl, (sm_mq1 135 (by decide +kernel) rfl), rfl, rfl, by decide +kernel⟩ rfl rfl rfl rfl (fun _ => ⟨rfl, rfl⟩) (sm_rd_cons _ _ _ _ _) (by decide +kernel : decode q_pl_init.2.1 41 = .ok (.putfield 24, 3)) ?_
  refine c_aload_n (f := 0) G 0 rfl (by decide +kernel : decode q_pl_init.2.1 44 = .ok (.aload_n 0, 1)) ?_
  refine c_bipush (v := 10) G (by decide) (by decide +kernel : decode q_pl_init.2.1 45 = .ok (.bipush 10, 2)) ?_
  refine c_newa (hi := 7) (atype := .int) (t := 0) (N := 10) G rfl rfl rfl (fun _ _ z => z) rfl (fun k => hz 7 k (by decide)) rfl rfl rfl (by decide +kernel) (sm_dyn.dy hdy rfl) (sm_mq1 78 (by decide +kernel) rfl) (by decide) (by decide) (by decide +kernel) rfl rfl rfl rfl (by decide +kernel : decode q_pl_init.2.1 47 = .ok (.newarray .int, 2)) ?_
  refine c_putR (cl := 4) (x := 12) (i := 1) (nn := 6) (ty := .array .int) (rd' := (sm_rd 1 1 [(1, 12), (1, 11), (1, 10), (1, 9), (1, 8), (1, 7)])) G hin ⟨(sm_R4, sm_F4, 16), rfl, Nat.le_of_ble_eq_true rfl, (sm_mq1 139 (by decide +kernel) rfl), rfl, rfl, by decide +kernel⟩ rfl rfl rfl rfl (fun _ => ⟨rfl, rfl⟩) (sm_rd_cons _ _ _ _ _) (by decide +kernel : decode q_pl_init.2.1 49 = .ok (.putfield 27, 3)) ?_
  refine c_aload_n (f := 0) G 0 rfl (by decide +kernel : decode q_pl_init.2.1 52 = .ok (.aload_n 0, 1)) ?_
  refine c_bipush (v := 10) G (by decide) (by decide +kernel : decode q_pl_init.2.1 53 = .ok (.bipush 10, 2)) ?_
  refine c_newa (hi := 8) (atype := .int) (t := 0) (N := 10) G rfl rfl rfl (fun _ _ z => z) rfl (fun k => hz 8 k (by decide)) rfl rfl rfl (by decide +kernel) (sm_dyn.dy hdy rfl) (sm_mq1 78 (by decide +kernel) rfl) (by decide) (by decide) (by decide +kernel) rfl rfl rfl rfl (by decide +kernel : decode q_pl_init.2.1 55 = .ok (.newarray .int, 2)) ?_
  refine c_putR (cl := 4) (x := 13) (i := 1) (nn := 7) (ty := .array .int) (rd' := (sm_rd 1 1 [(1, 13), (1, 12), (1, 11), (1, 10), (1, 9), (1, 8), (1, 7)])) G hin ⟨(sm_R4, sm_F4, 16), rfl, Nat.le_of_ble_eq_true rfl, (sm_mq1 141 (by decide +kernel) rfl), rfl, rfl, by decide +kernel⟩ rfl rfl rfl rfl (fun _ => ⟨rfl, rfl⟩) (sm_rd_cons _ _ _ _ _) (by decide +kernel : decode q_pl_init.2.1 57 = .ok (.putfield 30, 3)) ?_
  refine c_aload_n (f := 0) G 0 rfl (by decide +kernel : decode q_pl_init.2.1 60 = .ok (.aload_n 0, 1)) ?_
  refine c_bipush (v := 10) G (by decide) (by decide +kernel : decode q_pl_init.2.1 61 = .ok (.bipush 10, 2)) ?_
  refine c_newa (hi := 9) (atype := .int) (t := 0) (N := 10) G rfl rfl rfl (fun _ _ z => z) rfl (fun k => hz 9 k (by decide)) rfl rfl rfl (by decide +kernel) (sm_dyn.dy hdy rfl) (sm_mq1 78 (by decide +kernel) rfl) (by decide) (by decide) (by decide +kernel) rfl rfl rfl rfl (by decide +kernel : decode q_pl_init.2.1 63 = .ok (.newarray .int, 2)) ?_
  refine c_putR (cl := 4) (x := 14) (i := 1) (nn := 8) (ty := .array .int) (rd' := (sm_rd 1 1 [(1, 14), (1, 13), (1, 12), (1, 11), (1, 10), (1, 9), (1, 8), (1, 7)])) G hin ⟨(sm_R4, sm_F4, 16), rfl, Nat.le_of_ble_eq_true rfl, (sm_mq1 142 (by decide +kernel) rfl), rfl, rfl, by decide +kernel⟩ rfl rfl rfl rfl (fun _ => ⟨rfl, rfl⟩) (sm_rd_cons _ _ _ _ _) (by decide +kernel : decode q_pl_init.2.1 65 = .ok (.putfield 33, 3)) ?_
  refine c_aload_n (f := 0) G 0 rfl (by decide +kernel : decode q_pl_init.2.1 68 = .ok (.aload_n 0, 1)) ?_
  refine c_new (hi := 10) (cl := 6) (N := 9) (C := "SmokeControl$RuleBook") (z := (sm_R6, sm_F6, 9)) G rfl rfl rfl rfl (fun k => hz 10 k (by decide)) (fun _ => rfl) rfl rfl rfl (by decide +kernel) (sm_dyn.dy hdy rfl) (sm_mq1 34 (by decide +kernel) rfl) (sm_mq1 35 (by decide +kernel) rfl) (sm_mq1 3 (by decide +kernel) rfl) rfl rfl rfl rfl (by decide +kernel : decode q_pl_init.2.1 69 = .ok (.new 36, 3)) ?_
  refine c_dup G rfl (by decide +kernel : decode q_pl_init.2.1 72 = .ok (.dup, 1)) ?_
  refine c_ctorN (d := 20) (mc := 6) (ms := 816) (lo' := 10) (hi2 := 17) (b := 10) (As := []) (rdc := (sm_rd 10 10 [])) (rd2 := (sm_rd 10 17 [])) (rd' := (sm_rd 1 1 [(10, 3), (10, 4), (10, 5), (10, 6), (10, 7), (10, 8), (1, 14), (1, 13), (1, 12), (1, 11), (1, 10), (1, 9), (1, 8), (1, 7)])) (h2 := h) G ck_pl_38 (k_ru_10 l (fun i k z => hz i k (by omega)) (hdy.mono (by decide))) rfl (by decide +kernel) (by decide +kernel) rfl (by decide +kernel) (by decide +kernel) (sm_dyn.dyB hdy rfl) (by decide +kernel) (by decide +kernel) (fun _ _ _ => rfl) rfl rfl (by decide +kernel : decode q_pl_init.2.1 73 = .ok (.invokespecial 38, 3)) ?_
  refine c_putR (cl := 4) (x := 15) (i := 1) (nn := 9) (ty := .object "SmokeControl$RuleBook") (rd' := (sm_rd 1 1 [(1, 15), (10, 3), (10, 4), (10, 5), (10, 6), (10, 7), (10, 8), (1, 14), (1, 13), (1, 12), (1, 11), (1, 10), (1, 9), (1, 8), (1, 7)])) G hin ⟨(sm_R4, sm_F4, 16), rfl, Nat.le_of_ble_eq_true rfl, (sm_mq1 143 (by decide +kernel) rfl), rfl, rfl, by decide +kernel⟩ rfl rfl rfl rfl (fun _ => ⟨rfl, rfl⟩) (sm_rd_cons _ _ _ _ _) (by decide +kernel : decode q_pl_init.2.1 76 = .ok (.putfield 39, 3)) ?_
  refine c_aload_n (f := 0) G 0 rfl (by decide +kernel : decode q_pl_init.2.1 79 = .ok (.aload_n 0, 1)) ?_
  refine c_callV (lo' := 1) (hi' := 17) (b := 1) (d := (0 + 1)) (cl := 4) (z := (sm_R4, sm_F4, 16)) (As := []) (rv := none) (h1 := (sm_ip 1 h)) G cvv_pl_43 rfl rfl rfl (m_pl_begin l 1 17 0 (sm_atD (by decide +kernel)) (p_pl_begin hz)) rfl (by decide +kernel) rfl (by decide +kernel) (by decide +kernel) (by decide +kernel) (fun i _ _ z => sm_ip_fr z) (by decide +kernel : decode q_pl_init.2.1 80 = .ok (.invokevirtual 43, 3)) ?_
  exact c_vret G hr hlk (by decide +kernel) (by decide +kernel : decode q_pl_init.2.1 83 = .ok (.return_, 1))
theorem k_ru_33 (l : Launch) {h : sm_H} (hz : ∀ i k, 33 < i → h i k = 0) (hdy : sm_dyn 34 h) : sm_MetC l 33 34 (sm_rd 33 33 []) 20 6 816 q_ru_init [.ref 33] h 40 (sm_rd 33 40 []) h := by
  refine sm_MetC.of (by decide +kernel) rfl rfl rfl ?_
  intro base sz E p e s m args below meth c G hin hr hlk
  show sm_C p l e (sm_rmC 20 6 816) s m args below meth c _ _ E 34 _ 33 34 (sm_rd 33 33 []) 0 0 0 [(0, .ref 33)] [] h
  refine c_aload_n (f := 0) G 0 rfl (by decide +kernel : decode q_ru_init.2.1 0 = .ok (.aload_n 0, 1)) ?_
  refine c_obj G (sm_mq1 39 (by decide +kernel) rfl) ⟨by decide, by decide⟩ (by decide +kernel : decode q_ru_init.2.1 1 = .ok (.invokespecial 3, 3)) ?_
  refine c_aload_n (f := 0) G 0 rfl (by decide +kernel : decode q_ru_init.2.1 4 = .ok (.aload_n 0, 1)) ?_
  refine c_sipush (v := 300) G (by decide) (by decide +kernel : decode q_ru_init.2.1 5 = .ok (.sipush 300, 3)) ?_
  refine c_newa (hi := 34) (atype := .int) (t := 0) (N := 300) G rfl rfl rfl (fun _ _ z => z) rfl (fun k => hz 34 k (by decide)) rfl rfl rfl (by decide +kernel) (sm_dyn.dy hdy rfl) (sm_mq1 78 (by decide +kernel) rfl) (by decide) (by decide) (by decide +kernel) rfl rfl rfl rfl (by decide +kernel : decode q_ru_init.2.1 8 = .ok (.newarray .int, 2)) ?_
  refine c_putR (cl := 6) (x := 3) (i := 33) (nn := 1) (ty := .array .int) (rd' := (sm_rd 33 33 [(33, 3)])) G hin ⟨(sm_R6, sm_F6, 9), rfl, Nat.le_of_ble_eq_true rfl, (sm_mq1 47 (by decide +kernel) rfl), rfl, rfl, by decide +kernel⟩ rfl rfl rfl rfl (fun _ => ⟨rfl, rfl⟩) (sm_rd_cons _ _ _ _ _) (by decide +kernel : decode q_ru_init.2.1 10 = .ok (.putfield 11, 3)) ?_
  refine c_aload_n (f := 0) G 0 rfl (by decide +kernel : decode q_ru_init.2.1 13 = .ok (.aload_n 0, 1)) ?_
  refine c_sipush (v := 300) G (by decide) (by decide +kernel : decode q_ru_init.2.1 14 = .ok (.sipush 300, 3)) ?_
  refine c_newa (hi := 35) (atype := .int) (t := 0) (N := 300) G rfl rfl rfl (fun _ _ z => z) rfl (fun k => hz 35 k (by decide)) rfl rfl rfl (by decide +kernel) (sm_dyn.dy hdy rfl) (sm_mq1 78 (by decide +kernel) rfl) (by decide) (by decide) (by decide +kernel) rfl rfl rfl rfl (by decide +kernel : decode q_ru_init.2.1 17 = .ok (.newarray .int, 2)) ?_
  refine c_putR (cl := 6) (x := 4) (i := 33) (nn := 2) (ty := .array .int) (rd' := (sm_rd 33 33 [(33, 4), (33, 3)])) G hin ⟨(sm_R6, sm_F6, 9), rfl, Nat.le_of_ble_eq_true rfl, (sm_mq1 49 (by decide +kernel) rfl), rfl, rfl, by decide +kernel⟩ rfl rfl rfl rfl (fun _ => ⟨rfl, rfl⟩) (sm_rd_cons _ _ _ _ _) (by decide +kernel : decode q_ru_init.2.1 19 = .ok (.putfield 15, 3)) ?_
  refine c_aload_n (f := 0) G 0 rfl (by decide +kernel : decode q_ru_init.2.1 22 = .ok (.aload_n 0, 1)) ?_
  refine c_bipush (v := 12) G (by decide) (by decide +kernel : decode q_ru_init.2.1 23 = .ok (.bipush 12, 2)) ?_
  refine c_newa (hi := 36) (atype := .int) (t := 0) (N := 12) G rfl rfl rfl (fun _ _ z => z) rfl (fun k => hz 36 k (by decide)) rfl rfl rfl (by decide +kernel) (sm_dyn.dy hdy rfl) (sm_mq1 78 (by decide +kernel) rfl) (by decide) (by decide) (by decide +kernel) rfl rfl rfl rfl (by decide +kernel : decode q_ru_init.2.1 25 = .ok (.newarray .int, 2)) ?_
  refine c_putR (cl := 6) (x := 5) (i := 33) (nn := 3) (ty := .array .int) (rd' := (sm_rd 33 33 [(33, 5), (33, 4), (33, 3)])) G hin ⟨(sm_R6, sm_F6, 9), rfl, Nat.le_of_ble_eq_true rfl, (sm_mq1 51 (by decide +kernel) rfl), rfl, rfl, by decide +kernel⟩ rfl rfl rfl rfl (fun _ => ⟨rfl, rfl⟩) (sm_rd_cons _ _ _ _ _) (by decide +kernel : decode q_ru_init.2.1 27 = .ok (.putfield 18, 3)) ?_
  refine c_aload_n (f := 0) G 0 rfl (by decide +kernel : decode q_ru_init.2.1 30 = .ok (.aload_n 0, 1)) ?_
  refine c_bipush (v := 96) G (by decide) (by decide +kernel : decode q_ru_init.2.1 31 = .ok (.bipush 96, 2)) ?_
  refine c_newa (hi := 37) (atype := .int) (t := 0) (N := 96) G rfl rfl rfl (fun _ _ z => z) rfl (fun k => hz 37 k (by decide)) rfl rfl rfl (by decide +kernel) (sm_dyn.dy hdy rfl) (sm_mq1 78 (by decide +kernel) rfl) (by decide) (by decide) (by decide +kernel) rfl rfl rfl rfl (by decide +kernel : decode q_ru_init.2.1 33 = .ok (.newarray .int, 2)) ?_
  refine c_putR (cl := 6) (x := 6) (i := 33) (nn := 4) (ty := .array .int) (rd' := (sm_rd 33 33 [(33, 6), (33, 5), (33, 4), (33, 3)])) G hin ⟨(sm_R6, sm_F6, 9), rfl, Nat.le_of_ble_eq_true rfl, (sm_mq1 53 (by decide +kernel) rfl), rfl, rfl, by decide +kernel⟩ rfl rfl rfl rfl (fun _ => ⟨rfl, rfl⟩) (sm_rd_cons _ _ _ _ _) (by decide +kernel : decode q_ru_init.2.1 35 = .ok (.putfield 21, 3)) ?_
  refine c_aload_n (f := 0) G 0 rfl (by decide +kernel : decode q_ru_init.2.1 38 = .ok (.aload_n 0, 1)) ?_
  refine c_bipush (v := 96) G (by decide) (by decide +kernel : decode q_ru_init.2.1 39 = .ok (.bipush 96, 2)) ?_
  refine c_newa (hi := 38) (atype := .int) (t := 0) (N := 96) G rfl rfl rfl (fun _ _ z => z) rfl (fun k => hz 38 k (by decide)) rfl rfl rfl (by decide +kernel) (sm_dyn.dy hdy rfl) (sm_mq1 78 (by decide +kernel) rfl) (by decide) (by decide) (by decide +kernel) rfl rfl rfl rfl (by decide +kernel : decode q_ru_init.2.1 41 = .ok (.newarray .int, 2)) ?_
  refine c_putR (cl := 6) (x := 7) (i := 33) (nn := 5) (ty := .array .int) (rd' := (sm_rd 33 33 [(33, 7), (33, 6), (33, 5), (33, 4), (33, 3)])) G hin ⟨(sm_R6, sm_F6, 9), rfl, Nat.le_of_ble_eq_true rfl, (sm_mq1 55 (by decide +kernel) rfl), rfl, rfl, by decide +kernel⟩ rfl rfl rfl rfl (fun _ => ⟨rfl, rfl⟩) (sm_rd_cons _ _ _ _ _) (by decide +kernel : decode q_ru_init.2.1 43 = .ok (.putfield 24, 3)) ?_
  refine c_aload_n (f := 0) G 0 rfl (by decide +kernel : decode q_ru_init.2.1 46 = .ok (.aload_n 0, 1)) ?_
  refine c_bipush (v := 12) G (by decide) (by decide +kernel : decode q_ru_init.2.1 47 = .ok (.bipush 12, 2)) ?_
  refine c_newa (hi := 39) (atype := .int) (t := 0) (N := 12) G rfl rfl rfl (fun _ _ z => z) rfl (fun k => hz 39 k (by decide)) rfl rfl rfl (by decide +kernel) (sm_dyn.dy hdy rfl) (sm_mq1 78 (by decide +kernel) rfl) (by decide) (by decide) (by decide +kernel) rfl rfl rfl rfl (by decide +kernel : decode q_ru_init.2.1 49 = .ok (.newarray .int, 2)) ?_
  refine c_putR (cl := 6) (x := 8) (i := 33) (nn := 6) (ty := .array .int) (rd' := (sm_rd 33 33 [(33, 8), (33, 7), (33, 6), (33, 5), (33, 4), (33, 3)])) G hin ⟨(sm_R6, sm_F6, 9), rfl, Nat.le_of_ble_eq_true rfl, (sm_mq1 57 (by decide +kernel) rfl), rfl, rfl, by decide +kernel⟩ rfl rfl rfl rfl (fun _ => ⟨rfl, rfl⟩) (sm_rd_cons _ _ _ _ _) (by decide +kernel : decode q_ru_init.2.1 51 = .ok (.putfield 27, 3)) ?_
  exact c_vret G hr hlk (by decide +kernel) (by decide +kernel : decode q_ru_init.2.1 54 = .ok (.return_, 1))
theorem k_pl_24 (l : Launch) {h : sm_H} (hz : ∀ i k, 24 ≤ i → h i k = 0) (hdy : sm_dyn 25 h) : sm_MetC l 24 25 (sm_rd 24 24 []) 30 15 929 q_pl_init [.ref 24] h 40 (sm_rd 24 40 []) (sm_ip 24 h) := by
  refine sm_MetC.of (by decide +kernel) rfl rfl rfl ?_
  intro base sz E p e s m args below meth c G hin hr hlk
  show sm_C p l e (sm_rmC 30 15 929) s m args below meth c _ _ E 25 _ 24 25 (sm_rd 24 24 []) 0 0 0 [(0, .ref 24)] [] h
  refine c_aload_n (f := 0) G 0 rfl (by decide +kernel : decode q_pl_init.2.1 0 = .ok (.aload_n 0, 1)) ?_
  refine c_obj G (sm_mq1 33 (by decide +kernel) rfl) ⟨by decide, by decide⟩ (by decide +kernel : decode q_pl_init.2.1 1 = .ok (.invokespecial 3, 3)) ?_
  refine c_aload_n (f := 0) G 0 rfl (by decide +kernel : decode q_pl_init.2.1 4 = .ok (.aload_n 0, 1)) ?_
  refine c_bipush (v := 23) G (by decide) (by decide +kernel : decode q_pl_init.2.1 5 = .ok (.bipush 23, 2)) ?_
  refine c_newa (hi := 25) (atype := .int) (t := 0) (N := 23) G rfl rfl rfl (fun _ _ z => z) rfl (fun k => hz 25 k (by decide)) rfl rfl rfl (by decide +kernel) (sm_dyn.dy hdy rfl) (sm_mq1 78 (by decide +kernel) rfl) (by decide) (by decide) (by decide +kernel) rfl rfl rfl rfl (by decide +kernel : decode q_pl_init.2.1 7 = .ok (.newarray .int, 2)) ?_
  refine c_putR (cl := 4) (x := 7) (i := 24) (nn := 1) (ty := .array .int) (rd' := (sm_rd 24 24 [(24, 7)])) G hin ⟨(sm_R4, sm_F4, 16), rfl, Nat.le_of_ble_eq_true rfl, (sm_mq1 120 (by decide +kernel) rfl), rfl, rfl, by decide +kernel⟩ rfl rfl rfl rfl (fun _ => ⟨rfl, rfl⟩) (sm_rd_cons _ _ _ _ _) (by decide +kernel : decode q_pl_init.2.1 9 = .ok (.putfield 9, 3)) ?_
  refine c_aload_n (f := 0) G 0 rfl (by decide +kernel : decode q_pl_init.2.1 12 = .ok (.aload_n 0, 1)) ?_
  refine c_bipush (v := 23) G (by decide) (by decide +kernel : decode q_pl_init.2.1 13 = .ok (.bipush 23, 2)) ?_
  refine c_newa (hi := 26) (atype := .int) (t := 0) (N := 23) G rfl rfl rfl (fun _ _ z => z) rfl (fun k => hz 26 k (by decide)) rfl rfl rfl (by decide +kernel) (sm_dyn.dy hdy rfl) (sm_mq1 78 (by decide +kernel) rfl) (by decide) (by decide) (by decide +kernel) rfl rfl rfl rfl (by decide +kernel : decode q_pl_init.2.1 15 = .ok (.newarray .int, 2)) ?_
  refine c_putR (cl := 4) (x := 8) (i := 24) (nn := 2) (ty := .array .int) (rd' := (sm_rd 24 24 [(24, 8), (24, 7)])) G hin ⟨(sm_R4, sm_F4, 16), rfl, Nat.le_of_ble_eq_true rfl, (sm_mq1 124 (by decide +kernel) rfl), rfl, rfl, by decide +kernel⟩ rfl rfl rfl rfl (fun _ => ⟨rfl, rfl⟩) (sm_rd_cons _ _ _ _ _) (by decide +kernel : decode q_pl_init.2.1 17 = .ok (.putfield 15, 3)) ?_
  refine c_aload_n (f := 0) G 0 rfl (by decide +kernel : decode q_pl_init.2.1 20 = .ok (.aload_n 0, 1)) ?_
  refine c_bipush (v := 16) G (by decide) (by decide +kernel : decode q_pl_init.2.1 21 = .ok (.bipush 16, 2)) ?_
  refine c_newa (hi := 27) (atype := .int) (t := 0) (N := 16) G rfl rfl rfl (fun _ _ z => z) rfl (fun k => hz 27 k (by decide)) rfl rfl rfl (by decide +kernel) (sm_dyn.dy hdy rfl) (sm_mq1 78 (by decide +kernel) rfl) (by decide) (by decide) (by decide +kernel) rfl rfl rfl rfl (by decide +kernel : decode q_pl_init.2.1 23 = .ok (.newarray .int, 2)) ?_
  refine c_putR (cl := 4) (x := 9) (i := 24) (nn := 3) (ty := .array .int) (rd' := (sm_rd 24 24 [(24, 9), (24, 8), (24, 7)])) G hin ⟨(sm_R4, sm_F4, 16), rfl, Nat.le_of_ble_eq_true rfl, (sm_mq1 129 (by decide +kernel) rfl), rfl, rfl, by decide +kernel⟩ rfl rfl rfl rfl (fun _ => ⟨rfl, rfl⟩) (sm_rd_cons _ _ _ _ _) (by decide +kernel : decode q_pl_init.2.1 25 = .ok (.putfield 18, 3)) ?_
  refine c_aload_n (f := 0) G 0 rfl (by decide +kernel : decode q_pl_init.2.1 28 = .ok (.aload_n 0, 1)) ?_
  refine c_bipush (v := 6) G (by decide) (by decide +kernel : decode q_pl_init.2.1 29 = .ok (.bipush 6, 2)) ?_
  refine c_newa (hi := 28) (atype := .int) (t := 0) (N := 6) G rfl rfl rfl (fun _ _ z => z) rfl (fun k => hz 28 k (by decide)) rfl rfl rfl (by decide +kernel) (sm_dyn.dy hdy rfl) (sm_mq1 78 (by decide +kernel) rfl) (by decide) (by decide) (by decide +kernel) rfl rfl rfl rfl (by decide +kernel : decode q_pl_init.2.1 31 = .ok (.newarray .int, 2)) ?_
  refine c_putR (cl := 4) (x := 10) (i := 24) (nn := 4) (ty := .array .int) (rd' := (sm_rd 24 24 [(24, 10), (24, 9), (24, 8), (24, 7)])) G hin ⟨(sm_R4, sm_F4, 16), rfl, Nat.le_of_ble_eq_true rfl, (sm_mq1 133 (by decide +kernel) rfl), rfl, rfl, by decide +kernel⟩ rfl rfl rfl rfl (fun _ => ⟨rfl, rfl⟩) (sm_rd_cons _ _ _ _ _) (by decide +kernel : decode q_pl_init.2.1 33 = .ok (.putfield 21, 3)) ?_
  refine c_aload_n (f := 0) G 0 rfl (by decide +kernel : decode q_pl_init.2.1 36 = .ok (.aload_n 0, 1)) ?_
  refine c_bipush (v := 6) G (by decide) (by decide +kernel : decode q_pl_init.2.1 37 = .ok (.bipush 6, 2)) ?_
  refine c_newa (hi := 29) (atype := .int) (t := 0) (N := 6) G rfl rfl rfl (fun _ _ z => z) rfl (fun k => hz 29 k (by decide)) rfl rfl rfl (by decide +kernel) (sm_dyn.dy hdy rfl) (sm_mq1 78 (by decide +kernel) rfl) (by decide) (by decide) (by decide +kernel) rfl rfl rfl rfl (by decide +kernel : decode q_pl_init.2.1 39 = .ok (.newarray .int, 2)) ?_
  refine c_putR (cl := 4) (x := 11) (i := 24) (nn := 5) (ty := .array .int) (rd' := (sm_rd 24 24 [(24, 11), (24, 10), (24, 9), (24, 8), (24, 7)])) G hin ⟨(sm_R4, sm_F4, 16), rfl, Nat.le_of_ble_eq_true rfl, (sm_mq1 135 (by decide +kernel) rfl), rfl, rfl, by decide +kernel⟩ rfl rfl rfl rfl (fun _ => ⟨rfl, rfl⟩) (sm_rd_cons _ _ _ _ _) (by decide +kernel : decode q_pl_init.2.1 41 = .ok (.putfield 24, 3)) ?_
  refine c_aload_n (f := 0) G 0 rfl (by decide +kernel : decode q_pl_init.2.1 44 = .ok (.aload_n 0, 1)) ?_
  refine c_bipush (v := 10) G (by decide) (by decide +kernel : decode q_pl_init.2.1 45 = .ok (.bipush 10, 2)) ?_
  refine c_newa (hi := 30) (atype := .int) (t := 0) (N := 10) G rfl rfl rfl (fun _ _ z => z) rfl (fun k => hz 30 k (by decide)) rfl rfl rfl (by decide +kernel) (sm_dyn.dy hdy rfl) (sm_mq1 78 (by decide +kernel) rfl) (by decide) (by decide) (by decide +kernel) rfl rfl rfl rfl (by decide +kernel : decode q_pl_init.2.1 47 = .ok (.newarray .int, 2)) ?_
  refine c_putR (cl := 4) (x := 12) (i := 24) (nn := 6) (ty := .array .int) (rd' := (sm_rd 24 24 [(24, 12), (24, 11), (24, 10), (24, 9), (24, 8), (24, 7)])) G hin ⟨(sm_R4, sm_F4, 16), rfl, Nat.le_of_ble_eq_true rfl, (sm_mq1 139 (by decide +kernel) rfl), rfl, rfl, by decide +kernel⟩ rfl rfl rfl rfl (fun _ => ⟨rfl, rfl⟩) (sm_rd_cons _ _ _ _ _) (by decide +kernel : decode q_pl_init.2.1 49 = .ok (.putfield 27, 3)) ?_
  refine c_aload_n (f := 0) G 0 rfl (by decide +kernel : decode q_pl_init.2.1 52 = .ok (.aload_n 0, 1)) ?_
  refine c_bipush (v := 10) G (by decide) (by decide +kernel : decode q_pl_init.2.1 53 = .ok (.bipush 10, 2)) ?_
  refine c_newa (hi := 31) (atype := .int) (t := 0) (N := 10) G rfl rfl rfl (fun _ _ z => z) rfl (fun k => hz 31 k (by decide)) rfl rfl rfl (by decide +kernel) (sm_dyn.dy hdy rfl) (sm_mq1 78 (by decide +kernel) rfl) (by decide) (by decide) (by decide +kernel) rfl rfl rfl rfl (by decide +kernel : decode q_pl_init.2.1 55 = .ok (.newarray .int, 2)) ?_
  refine c_putR (cl := 4) (x := 13) (i := 24) (nn := 7) (ty := .array .int) (rd' := (sm_rd 24 24 [(24, 13), (24, 12), (24, 11), (24, 10), (24, 9), (24, 8), (24, 7)])) G hin ⟨(sm_R4, sm_F4, 16), rfl, Nat.le_of_ble_eq_true rfl, (sm_mq1 141 (by decide +kernel) rfl), rfl, rfl, by decide +kernel⟩ rfl rfl rfl rfl (fun _ => ⟨rfl, rfl⟩) (sm_rd_cons _ _ _ _ _) (by decide +kernel : decode q_pl_init.2.1 57 = .ok (.putfield 30, 3)) ?_
  refine c_aload_n (f := 0) G 0 rfl (by decide +kernel : decode q_pl_init.2.1 60 = .ok (.aload_n 0, 1)) ?_
  refine c_bipush (v := 10) G (by decide) (by decide +kernel : decode q_pl_init.2.1 61 = .ok (.bipush 10, 2)) ?_
  refine c_newa (hi := 32) (atype := .int) (t := 0) (N := 10) G rfl rfl rfl (fun _ _ z => z) rfl (fun k => hz 32 k (by decide)) rfl rfl rfl (by decide +kernel) (sm_dyn.dy hdy rfl) (sm_mq1 78 (by decide +kernel) rfl) (by decide) (by decide) (by decide +kernel) rfl rfl rfl rfl (by decide +kernel : decode q_pl_init.2.1 63 = .ok (.newarray .int, 2)) ?_
  refine c_putR (cl := 4) (x := 14) (i := 24) (nn := 8) (ty := .array .int) (rd' := (sm_rd 24 24 [(24, 14), (24, 13), (24, 12), (24, 11), (24, 10), (24, 9), (24, 8), (24, 7)])) G hin ⟨(sm_R4, sm_F4, 16), rfl, Nat.le_of_ble_eq_true rfl, (sm_mq1 142 (by decide +kernel) rfl), rfl, rfl, by decide +kernel⟩ rfl rfl rfl rfl (fun _ => ⟨rfl, rfl⟩) (sm_rd_cons _ _ _ _ _) (by decide +kernel : decode q_pl_init.2.1 65 = .ok (.putfield 33, 3)) ?_
  refine c_aload_n (f := 0) G 0 rfl (by decide +kernel : decode q_pl_init.2.1 68 = .ok (.aload_n 0, 1)) ?_
  refine c_new (hi := 33) (cl := 6) (N := 9) (C := "SmokeControl$RuleBook") (z := (sm_R6, sm_F6, 9)) G rfl rfl rfl rfl (fun k => hz 33 k (by decide)) (fun _ => rfl) rfl rfl rfl (by decide +kernel) (sm_dyn.dy hdy rfl) (sm_mq1 34 (by decide +kernel) rfl) (sm_mq1 35 (by decide +kernel) rfl) (sm_mq1 3 (by decide +kernel) rfl) rfl rfl rfl rfl (by decide +kernel : decode q_pl_init.2.1 69 = .ok (.new 36, 3)) ?_
  refine c_dup G rfl (by decide +kernel : decode q_pl_init.2.1 72 = .ok (.dup, 1)) ?_
  refine c_ctorN (d := 20) (mc := 6) (ms := 816) (lo' := 33) (hi2 := 40) (b := 33) (As := []) (rdc := (sm_rd 33 33 [])) (rd2 := (sm_rd 33 40 [])) (rd' := (sm_rd 24 24 [(33, 3), (33, 4), (33, 5), (33, 6), (33, 7), (33, 8), (24, 14), (24, 13), (24, 12), (24, 11), (24, 10), (24, 9), (24, 8), (24, 7)])) (h2 := h) G ck_pl_38 (k_ru_33 l (fun i k z => hz i k (by omega)) (hdy.mono (by decide))) rfl (by decide +kernel) (by decide +kernel) rfl (by decide +kernel) (by decide +kernel) (sm_dyn.dyB hdy rfl) (by decide +kernel) (by decide +kernel) (fun _ _ _ => rfl) rfl rfl (by decide +kernel : decode q_pl_init.2.1 73 = .ok (.invokespecial 38, 3)) ?_
  refine c_putR (cl := 4) (x := 15) (i := 24) (nn := 9) (ty := .object "SmokeControl$RuleBook") (rd' := (sm_rd 24 24 [(24, 15), (33, 3), (33, 4), (33, 5), (33, 6), (33, 7), (33, 8), (24, 14), (24, 13), (24, 12), (24, 11), (24, 10), (24, 9), (24, 8), (24, 7)])) G hin ⟨(sm_R4, sm_F4, 16), rfl, Nat.le_of_ble_eq_true rfl, (sm_mq1 143 (by decide +kernel) rfl), rfl, rfl, by decide +kernel⟩ rfl rfl rfl rfl (fun _ => ⟨rfl, rfl⟩) (sm_rd_cons _ _ _ _ _) (by decide +kernel : decode q_pl_init.2.1 76 = .ok (.putfield 39, 3)) ?_
  refine c_aload_n (f := 0) G 0 rfl (by decide +kernel : decode q_pl_init.2.1 79 = .ok (.aload_n 0, 1)) ?_
  refine c_callV (lo' := 24) (hi' := 40) (b := 24) (d := (0 + 1)) (cl := 4) (z := (sm_R4, sm_F4, 16)) (As := []) (rv := none) (h1 := (sm_ip 24 h)) G cvv_pl_43 rfl rfl rfl (m_pl_begin l 24 40 0 (sm_atD (by decide +kernel)) (p_pl_begin hz)) rfl (by decide +kernel) rfl (by decide +kernel) (by decide +kernel) (by decide +kernel) (fun i _ _ z => sm_ip_fr z) (by decide +kernel : decode q_pl_init.2.1 80 = .ok (.invokevirtual 43, 3)) ?_
  exact c_vret G hr hlk (by decide +kernel) (by decide +kernel : decode q_pl_init.2.1 83 = .ok (.return_, 1))
theorem k_te_18 (l : Launch) {h : sm_H} (hz : ∀ i k, 18 < i → h i k = 0) (hdy : sm_dyn 19 h) : sm_MetC l 18 19 (sm_rd 18 18 []) 20 5 4504 q_te_init [.ref 18] h 24 (sm_rd 18 24 []) h := by
  refine sm_MetC.of (by decide +kernel) rfl rfl rfl ?_
  intro base sz E p e s m args below meth c G hin hr hlk
  show sm_C p l e (sm_rmC 20 5 4504) s m args below meth c _ _ E 19 _ 18 19 (sm_rd 18 18 []) 0 0 0 [(0, .ref 18)] [] h
  refine c_aload_n (f := 0) G 0 rfl (by decide +kernel : decode q_te_init.2.1 0 = .ok (.aload_n 0, 1)) ?_
  refine c_obj G (sm_mq1 191 (by decide +kernel) rfl) ⟨by decide, by decide⟩ (by decide +kernel : decode q_te_init.2.1 1 = .ok (.invokespecial 3, 3)) ?_
  refine c_aload_n (f := 0) G 0 rfl (by decide +kernel : decode q_te_init.2.1 4 = .ok (.aload_n 0, 1)) ?_
  refine c_sipush (v := 900) G (by decide) (by decide +kernel : decode q_te_init.2.1 5 = .ok (.sipush 900, 3)) ?_
  refine c_newa (hi := 19) (atype := .byte) (t := 1) (N := 900) G rfl rfl rfl (fun _ _ z => z) rfl (fun k => hz 19 k (by decide)) rfl rfl rfl (by decide +kernel) (sm_dyn.dy hdy rfl) (sm_mq1 222 (by decide +kernel) rfl) (by decide) (by decide) (by decide +kernel) rfl rfl rfl rfl (by decide +kernel : decode q_te_init.2.1 8 = .ok (.newarray .byte, 2)) ?_
  refine c_putR (cl := 8) (x := 0) (i := 18) (nn := 1) (ty := .array .byte) (rd' := (sm_rd 18 18 [(18, 0)])) G hin ⟨(sm_R8, sm_F8, 8), rfl, Nat.le_of_ble_eq_true rfl, (sm_mq1 192 (by decide +kernel) rfl), rfl, rfl, by decide +kernel⟩ rfl rfl rfl rfl (fun _ => ⟨rfl, rfl⟩) (sm_rd_cons _ _ _ _ _) (by decide +kernel : decode q_te_init.2.1 10 = .ok (.putfield 9, 3)) ?_
  refine c_aload_n (f := 0) G 0 rfl (by decide +kernel : decode q_te_init.2.1 13 = .ok (.aload_n 0, 1)) ?_
  refine c_sipush (v := 901) G (by decide) (by decide +kernel : decode q_te_init.2.1 14 = .ok (.sipush 901, 3)) ?_
  refine c_newa (hi := 20) (atype := .int) (t := 0) (N := 901) G rfl rfl rfl (fun _ _ z => z) rfl (fun k => hz 20 k (by decide)) rfl rfl rfl (by decide +kernel) (sm_dyn.dy hdy rfl) (sm_mq1 78 (by decide +kernel) rfl) (by decide) (by decide) (by decide +kernel) rfl rfl rfl rfl (by decide +kernel : decode q_te_init.2.1 17 = .ok (.newarray .int, 2)) ?_
  refine c_putR (cl := 8) (x := 2) (i := 18) (nn := 2) (ty := .array .int) (rd' := (sm_rd 18 18 [(18, 2), (18, 0)])) G hin ⟨(sm_R8, sm_F8, 8), rfl, Nat.le_of_ble_eq_true rfl, (sm_mq1 195 (by decide +kernel) rfl), rfl, rfl, by decide +kernel⟩ rfl rfl rfl rfl (fun _ => ⟨rfl, rfl⟩) (sm_rd_cons _ _ _ _ _) (by decide +kernel : decode q_te_init.2.1 19 = .ok (.putfield 15, 3)) ?_
  refine c_aload_n (f := 0) G 0 rfl (by decide +kernel : decode q_te_init.2.1 22 = .ok (.aload_n 0, 1)) ?_
  refine c_sipush (v := 901) G (by decide) (by decide +kernel : decode q_te_init.2.1 23 = .ok (.sipush 901, 3)) ?_
  refine c_newa (hi := 21) (atype := .int) (t := 0) (N := 901) G rfl rfl rfl (fun _ _ z => z) rfl (fun k => hz 21 k (by decide)) rfl rfl rfl (by decide +kernel) (sm_dyn.dy hdy rfl) (sm_mq1 78 (by decide +kernel) rfl) (by decide) (by decide) (by decide +kernel) rfl rfl rfl rfl (by decide +kernel : decode q_te_init.2.1 26 = .ok (.newarray .int, 2)) ?_
  refine c_putR (cl := 8) (x := 3) (i := 18) (nn := 3) (ty := .array .int) (rd' := (sm_rd 18 18 [(18, 3), (18, 2), (18, 0)])) G hin ⟨(sm_R8, sm_F8, 8), rfl, Nat.le_of_ble_eq_true rfl, (sm_mq1 197 (by decide +kernel) rfl), rfl, rfl, by decide +kernel⟩ rfl rfl rfl rfl (fun _ => ⟨rfl, rfl⟩) (sm_rd_cons _ _ _ _ _) (by decide +kernel : decode q_te_init.2.1 28 = .ok (.putfield 19, 3)) ?_
  refine c_aload_n (f := 0) G 0 rfl (by decide +kernel : decode q_te_init.2.1 31 = .ok (.aload_n 0, 1)) ?_
  refine c_sipush (v := 901) G (by decide) (by decide +kernel : decode q_te_init.2.1 32 = .ok (.sipush 901, 3)) ?_
  refine c_newa (hi := 22) (atype := .int) (t := 0) (N := 901) G rfl rfl rfl (fun _ _ z => z) rfl (fun k => hz 22 k (by decide)) rfl rfl rfl (by decide +kernel) (sm_dyn.dy hdy rfl) (sm_mq1 78 (by decide +kernel) rfl) (by decide) (by decide) (by decide +kernel) rfl rfl rfl rfl (by decide +kernel : decode q_te_init.2.1 35 = .ok (.newarray .int, 2)) ?_
  refine c_putR (cl := 8) (x := 4) (i := 18) (nn := 4) (ty := .array .int) (rd' := (sm_rd 18 18 [(18, 4), (18, 3), (18, 2), (18, 0)])) G hin ⟨(sm_R8, sm_F8, 8), rfl, Nat.le_of_ble_eq_true rfl, (sm_mq1 199 (by decide +kernel) rfl), rfl, rfl, by decide +kernel⟩ rfl rfl rfl rfl (fun _ => ⟨rfl, rfl⟩) (sm_rd_cons _ _ _ _ _) (by decide +kernel : decode q_te_init.2.1 37 = .ok (.putfield 22, 3)) ?_
  refine c_aload_n (f := 0) G 0 rfl (by decide +kernel : decode q_te_init.2.1 40 = .ok (.aload_n 0, 1)) ?_
  refine c_sipush (v := 901) G (by decide) (by decide +kernel : decode q_te_init.2.1 41 = .ok (.sipush 901, 3)) ?_
  refine c_newa (hi := 23) (atype := .int) (t := 0) (N := 901) G rfl rfl rfl (fun _ _ z => z) rfl (fun k => hz 23 k (by decide)) rfl rfl rfl (by decide +kernel) (sm_dyn.dy hdy rfl) (sm_mq1 78 (by decide +kernel) rfl) (by decide) (by decide) (by decide +kernel) rfl rfl rfl rfl (by decide +kernel : decode q_te_init.2.1 44 = .ok (.newarray .int, 2)) ?_
  refine c_putR (cl := 8) (x := 5) (i := 18) (nn := 5) (ty := .array .int) (rd' := (sm_rd 18 18 [(18, 5), (18, 4), (18, 3), (18, 2), (18, 0)])) G hin ⟨(sm_R8, sm_F8, 8), rfl, Nat.le_of_ble_eq_true rfl, (sm_mq1 200 (by decide +kernel) rfl), rfl, rfl, by decide +kernel⟩ rfl rfl rfl rfl (fun _ => ⟨rfl, rfl⟩) (sm_rd_cons _ _ _ _ _) (by decide +kernel : decode q_te_init.2.1 46 = .ok (.putfield 25, 3)) ?_
  exact c_vret G hr hlk (by decide +kernel) (by decide +kernel : decode q_te_init.2.1 49 = .ok (.return_, 1))
theorem k_al_48 (l : Launch) {h : sm_H} (hz : ∀ i k, 48 < i → h i k = 0) (hdy : sm_dyn 49 h) : sm_MetC l 48 49 (sm_rd 48 48 []) 20 0 0 q_al_init [.ref 48] h 49 (sm_rd 48 49 []) h := by
  refine sm_MetC.of (by decide +kernel) rfl rfl rfl ?_
  intro base sz E p e s m args below meth c G hin hr hlk
  show sm_C p l e (sm_rmC 20 0 0) s m args below meth c _ _ E 49 _ 48 49 (sm_rd 48 48 []) 0 0 0 [(0, .ref 48)] [] h
  refine c_aload_n (f := 0) G 0 rfl (by decide +kernel : decode q_al_init.2.1 0 = .ok (.aload_n 0, 1)) ?_
  refine c_obj G (sm_mq2 19 (by decide +kernel) rfl) ⟨by decide, by decide⟩ (by decide +kernel : decode q_al_init.2.1 1 = .ok (.invokespecial 3, 3)) ?_
  exact c_vret G hr hlk (by decide +kernel) (by decide +kernel : decode q_al_init.2.1 4 = .ok (.return_, 1))
theorem k_lo_49 (l : Launch) {h : sm_H} (hz : ∀ i k, 49 < i → h i k = 0) (hdy : sm_dyn 50 h) : sm_MetC l 49 50 (sm_rd 49 49 []) 20 3 150 q_lo_init [.ref 49] h 53 (sm_rd 49 53 []) h := by
  refine sm_MetC.of (by decide +kernel) rfl rfl rfl ?_
  intro base sz E p e s m args below meth c G hin hr hlk
  show sm_C p l e (sm_rmC 20 3 150) s m args below meth c _ _ E 50 _ 49 50 (sm_rd 49 49 []) 0 0 0 [(0, .ref 49)] [] h
  refine c_aload_n (f := 0) G 0 rfl (by decide +kernel : decode q_lo_init.2.1 0 = .ok (.aload_n 0, 1)) ?_
  refine c_obj G (sm_mq2 44 (by decide +kernel) rfl) ⟨by decide, by decide⟩ (by decide +kernel : decode q_lo_init.2.1 1 = .ok (.invokespecial 1, 3)) ?_
  refine c_aload_n (f := 0) G 0 rfl (by decide +kernel : decode q_lo_init.2.1 4 = .ok (.aload_n 0, 1)) ?_
  refine c_bipush (v := 50) G (by decide) (by decide +kernel : decode q_lo_init.2.1 5 = .ok (.bipush 50, 2)) ?_
  refine c_newa (hi := 50) (atype := .int) (t := 0) (N := 50) G rfl rfl rfl (fun _ _ z => z) rfl (fun k => hz 50 k (by decide)) rfl rfl rfl (by decide +kernel) (sm_dyn.dy hdy rfl) (sm_mq1 78 (by decide +kernel) rfl) (by decide) (by decide) (by decide +kernel) rfl rfl rfl rfl (by decide +kernel : decode q_lo_init.2.1 7 = .ok (.newarray .int, 2)) ?_
  refine c_putR (cl := 3) (x := 1) (i := 49) (nn := 1) (ty := .array .int) (rd' := (sm_rd 49 49 [(49, 1)])) G hin ⟨(sm_R3, sm_F3, 4), rfl, Nat.le_of_ble_eq_true rfl, (sm_mq2 47 (by decide +kernel) rfl), rfl, rfl, by decide +kernel⟩ rfl rfl rfl rfl (fun _ => ⟨rfl, rfl⟩) (sm_rd_cons _ _ _ _ _) (by decide +kernel : decode q_lo_init.2.1 9 = .ok (.putfield 9, 3)) ?_
  refine c_aload_n (f := 0) G 0 rfl (by decide +kernel : decode q_lo_init.2.1 12 = .ok (.aload_n 0, 1)) ?_
  refine c_bipush (v := 50) G (by decide) (by decide +kernel : decode q_lo_init.2.1 13 = .ok (.bipush 50, 2)) ?_
  refine c_newa (hi := 51) (atype := .int) (t := 0) (N := 50) G rfl rfl rfl (fun _ _ z => z) rfl (fun k => hz 51 k (by decide)) rfl rfl rfl (by decide +kernel) (sm_dyn.dy hdy rfl) (sm_mq1 78 (by decide +kernel) rfl) (by decide) (by decide) (by decide +kernel) rfl rfl rfl rfl (by decide +kernel : decode q_lo_init.2.1 15 = .ok (.newarray .int, 2)) ?_
  refine c_putR (cl := 3) (x := 2) (i := 49) (nn := 2) (ty := .array .int) (rd' := (sm_rd 49 49 [(49, 2), (49, 1)])) G hin ⟨(sm_R3, sm_F3, 4), rfl, Nat.le_of_ble_eq_true rfl, (sm_mq2 49 (by decide +kernel) rfl), rfl, rfl, by decide +kernel⟩ rfl rfl rfl rfl (fun _ => ⟨rfl, rfl⟩) (sm_rd_cons _ _ _ _ _) (by decide +kernel : decode q_lo_init.2.1 17 = .ok (.putfield 13, 3)) ?_
  refine c_aload_n (f := 0) G 0 rfl (by decide +kernel : decode q_lo_init.2.1 20 = .ok (.aload_n 0, 1)) ?_
  refine c_bipush (v := 50) G (by decide) (by decide +kernel : decode q_lo_init.2.1 21 = .ok (.bipush 50, 2)) ?_
  refine c_newa (hi := 52) (atype := .int) (t := 0) (N := 50) G rfl rfl rfl (fun _ _ z => z) rfl (fun k => hz 52 k (by decide)) rfl rfl rfl (by decide +kernel) (sm_dyn.dy hdy rfl) (sm_mq1 78 (by decide +kernel) rfl) (by decide) (by decide) (by decide +kernel) rfl rfl rfl rfl (by decide +kernel : decode q_lo_init.2.1 23 = .ok (.newarray .int, 2)) ?_
  refine c_putR (cl := 3) (x := 3) (i := 49) (nn := 3) (ty := .array .int) (rd' := (sm_rd 49 49 [(49, 3), (49, 2), (49, 1)])) G hin ⟨(sm_R3, sm_F3, 4), rfl, Nat.le_of_ble_eq_true rfl, (sm_mq2 51 (by decide +kernel) rfl), rfl, rfl, by decide +kernel⟩ rfl rfl rfl rfl (fun _ => ⟨rfl, rfl⟩) (sm_rd_cons _ _ _ _ _) (by decide +kernel : decode q_lo_init.2.1 25 = .ok (.putfield 16, 3)) ?_
  exact c_vret G hr hlk (by decide +kernel) (by decide +kernel : decode q_lo_init.2.1 28 = .ok (.return_, 1))
theorem k_st_40 (l : Launch) {h : sm_H} (hz : ∀ i k, 40 ≤ i → h i k = 0) (hdy : sm_dyn 41 h) (hpd : h 1 1 = 0) : sm_MetC l 1 41 (sm_rd 1 40 []) 40 12 289 q_st_init [.ref 40, .ref 1] h 53 (sm_rd 1 53 []) (sm_ib 40 1 h) := by
  refine sm_MetC.of (by decide +kernel) rfl rfl rfl ?_
  intro base sz E p e s m args below meth c G hin hr hlk
  show sm_C p l e (sm_rmC 40 12 289) s m args below meth c _ _ E 41 _ 1 41 (sm_rd 1 40 []) 0 0 0 [(0, .ref 40), (1, .ref 1)] [] h
  refine c_aload_n (f := 0) G 0 rfl (by decide +kernel : decode q_st_init.2.1 0 = .ok (.aload_n 0, 1)) ?_
  refine c_obj G (sm_mq2 13 (by decide +kernel) rfl) ⟨by decide, by decide⟩ (by decide +kernel : decode q_st_init.2.1 1 = .ok (.invokespecial 3, 3)) ?_
  refine c_aload_n (f := 0) G 0 rfl (by decide +kernel : decode q_st_init.2.1 4 = .ok (.aload_n 0, 1)) ?_
  refine c_bipush (v := 8) G (by decide) (by decide +kernel : decode q_st_init.2.1 5 = .ok (.bipush 8, 2)) ?_
  refine c_newa (hi := 41) (atype := .int) (t := 0) (N := 8) G rfl rfl rfl (fun _ _ z => z) rfl (fun k => hz 41 k (by decide)) rfl rfl rfl (by decide +kernel) (sm_dyn.dy hdy rfl) (sm_mq1 78 (by decide +kernel) rfl) (by decide) (by decide) (by decide +kernel) rfl rfl rfl rfl (by decide +kernel : decode q_st_init.2.1 7 = .ok (.newarray .int, 2)) ?_
  refine c_putR (cl := 7) (x := 9) (i := 40) (nn := 1) (ty := .array .int) (rd' := (sm_rd 1 40 [(40, 9)])) G hin ⟨(sm_R7, sm_F7, 18), rfl, Nat.le_of_ble_eq_true rfl, (sm_mq2 108 (by decide +kernel) rfl), rfl, rfl, by decide +kernel⟩ rfl rfl rfl rfl (fun _ => ⟨rfl, rfl⟩) (sm_rd_cons _ _ _ _ _) (by decide +kernel : decode q_st_init.2.1 9 = .ok (.putfield 9, 3)) ?_
  refine c_aload_n (f := 0) G 0 rfl (by decide +kernel : decode q_st_init.2.1 12 = .ok (.aload_n 0, 1)) ?_
  refine c_bipush (v := 8) G (by decide) (by decide +kernel : decode q_st_init.2.1 13 = .ok (.bipush 8, 2)) ?_
  refine c_newa (hi := 42) (atype := .int) (t := 0) (N := 8) G rfl rfl rfl (fun _ _ z => z) rfl (fun k => hz 42 k (by decide)) rfl rfl rfl (by decide +kernel) (sm_dyn.dy hdy rfl) (sm_mq1 78 (by decide +kernel) rfl) (by decide) (by decide) (by decide +kernel) rfl rfl rfl rfl (by decide +kernel : decode q_st_init.2.1 15 = .ok (.newarray .int, 2)) ?_
  refine c_putR (cl := 7) (x := 10) (i := 40) (nn := 2) (ty := .array .int) (rd' := (sm_rd 1 40 [(40, 10), (40, 9)])) G hin ⟨(sm_R7, sm_F7, 18), rfl, Nat.le_of_ble_eq_true rfl, (sm_mq2 112 (by decide +kernel) rfl), rfl, rfl, by decide +kernel⟩ rfl rfl rfl rfl (fun _ => ⟨rfl, rfl⟩) (sm_rd_cons _ _ _ _ _) (by decide +kernel : decode q_st_init.2.1 17 = .ok (.putfield 15, 3)) ?_
  refine c_aload_n (f := 0) G 0 rfl (by decide +kernel : decode q_st_init.2.1 20 = .ok (.aload_n 0, 1)) ?_
  refine c_bipush (v := 23) G (by decide) (by decide +kernel : decode q_st_init.2.1 21 = .ok (.bipush 23, 2)) ?_
  refine c_newa (hi := 43) (atype := .int) (t := 0) (N := 23) G rfl rfl rfl (fun _ _ z => z) rfl (fun k => hz 43 k (by decide)) rfl rfl rfl (by decide +kernel) (sm_dyn.dy hdy rfl) (sm_mq1 78 (by decide +kernel) rfl) (by decide) (by decide) (by decide +kernel) rfl rfl rfl rfl (by decide +kernel : decode q_st_init.2.1 23 = .ok (.newarray .int, 2)) ?_
  refine c_putR (cl := 7) (x := 11) (i := 40) (nn := 3) (ty := .array .int) (rd' := (sm_rd 1 40 [(40, 11), (40, 10), (40, 9)])) G hin ⟨(sm_R7, sm_F7, 18), rfl, Nat.le_of_ble_eq_true rfl, (sm_mq2 115 (by decide +kernel) rfl), rfl, rfl, by decide +kernel⟩ rfl rfl rfl rfl (fun _ => ⟨rfl, rfl⟩) (sm_rd_cons _ _ _ _ _) (by decide +kernel : decode q_st_init.2.1 25 = .ok (.putfield 18, 3)) ?_
  refine c_aload_n (f := 0) G 0 rfl (by decide +kernel : decode q_st_init.2.1 28 = .ok (.aload_n 0, 1)) ?_
  refine c_bipush (v := 23) G (by decide) (by decide +kernel : decode q_st_init.2.1 29 = .ok (.bipush 23, 2)) ?_
  refine c_newa (hi := 44) (atype := .int) (t := 0) (N := 23) G rfl rfl rfl (fun _ _ z => z) rfl (fun k => hz 44 k (by decide)) rfl rfl rfl (by decide +kernel) (sm_dyn.dy hdy rfl) (sm_mq1 78 (by decide +kernel) rfl) (by decide) (by decide) (by decide +kernel) rfl rfl rfl rfl (by decide +kernel : decode q_st_init.2.1 31 = .ok (.newarray .int, 2)) ?_
  refine c_putR (cl := 7) (x := 12) (i := 40) (nn := 4) (ty := .array .int) (rd' := (sm_rd 1 40 [(40, 12), (40, 11), (40, 10), (40, 9)])) G hin ⟨(sm_R7, sm_F7, 18), rfl, Nat.le_of_ble_eq_true rfl, (sm_mq2 119 (by decide +kernel) rfl), rfl, rfl, by decide +kernel⟩ rfl rfl rfl rfl (fun _ => ⟨rfl, rfl⟩) (sm_rd_cons _ _ _ _ _) (by decide +kernel : decode q_st_init.2.1 33 = .ok (.putfield 21, 3)) ?_
  refine c_aload_n (f := 0) G 0 rfl (by decide +kernel : decode q_st_init.2.1 36 = .ok (.aload_n 0, 1)) ?_
  refine c_bipush (v := 23) G (by decide) (by decide +kernel : decode q_st_init.2.1 37 = .ok (.bipush 23, 2)) ?_
  refine c_newa (hi := 45) (atype := .int) (t := 0) (N := 23) G rfl rfl rfl (fun _ _ z => z) rfl (fun k => hz 45 k (by decide)) rfl rfl rfl (by decide +kernel) (sm_dyn.dy hdy rfl) (sm_mq1 78 (by decide +kernel) rfl) (by decide) (by decide) (by decide +kernel) rfl rfl rfl rfl (by decide +kernel : decode q_st_init.2.1 39 = .ok (.newarray .int, 2)) ?_
  refine c_putR (cl := 7) (x := 13) (i := 40) (nn := 5) (ty := .array .int) (rd' := (sm_rd 1 40 [(40, 13), (40, 12), (40, 11), (40, 10), (40, 9)])) G hin ⟨(sm_R7, sm_F7, 18), rfl, Nat.le_of_ble_eq_true rfl, (sm_mq2 122 (by decide +kernel) rfl), rfl, rfl, by decide +kernel⟩ rfl rfl rfl rfl (fun _ => ⟨rfl, rfl⟩) (sm_rd_cons _ _ _ _ _) (by decide +kernel : decode q_st_init.2.1 41 = .ok (.putfield 24, 3)) ?_
  refine c_aload_n (f := 0) G 0 rfl (by decide +kernel : decode q_st_init.2.1 44 = .ok (.aload_n 0, 1)) ?_
  refine c_bipush (v := 23) G (by decide) (by decide +kernel : decode q_st_init.2.1 45 = .ok (.bipush 23, 2)) ?_
  refine c_newa (hi := 46) (atype := .int) (t := 0) (N := 23) G rfl rfl rfl (fun _ _ z => z) rfl (fun k => hz 46 k (by decide)) rfl rfl rfl (by decide +kernel) (sm_dyn.dy hdy rfl) (sm_mq1 78 (by decide +kernel) rfl) (by decide) (by decide) (by decide +kernel) rfl rfl rfl rfl (by decide +kernel : decode q_st_init.2.1 47 = .ok (.newarray .int, 2)) ?_
  refine c_putR (cl := 7) (x := 14) (i := 40) (nn := 6) (ty := .array .int) (rd' := (sm_rd 1 40 [(40, 14), (40, 13), (40, 12), (40, 11), (40, 10), (40, 9)])) G hin ⟨(sm_R7, sm_F7, 18), rfl, Nat.le_of_ble_eq_true rfl, (sm_mq2 125 (by decide +kernel) rfl), rfl, rfl, by decide +kernel⟩ rfl rfl rfl rfl (fun _ => ⟨rfl, rfl⟩) (sm_rd_cons _ _ _ _ _) (by decide +kernel : decode q_st_init.2.1 49 = .ok (.putfield 27, 3)) ?_
  refine c_aload_n (f := 0) G 0 rfl (by decide +kernel : decode q_st_init.2.1 52 = .ok (.aload_n 0, 1)) ?_
  refine c_bipush (v := 23) G (by decide) (by decide +kernel : decode q_st_init.2.1 53 = .ok (.bipush 23, 2)) ?_
  refine c_newa (hi := 47) (atype := .int) (t := 0) (N := 23) G rfl rfl rfl (fun _ _ z => z) rfl (fun k => hz 47 k (by decide)) rfl rfl rfl (by decide +kernel) (sm_dyn.dy hdy rfl) (sm_mq1 78 (by decide +kernel) rfl) (by decide) (by decide) (by decide +kernel) rfl rfl rfl rfl (by decide +kernel : decode q_st_init.2.1 55 = .ok (.newarray .int, 2)) ?_
  refine c_putR (cl := 7) (x := 15) (i := 40) (nn := 7) (ty := .array .int) (rd' := (sm_rd 1 40 [(40, 15), (40, 14), (40, 13), (40, 12), (40, 11), (40, 10), (40, 9)])) G hin ⟨(sm_R7, sm_F7, 18), rfl, Nat.le_of_ble_eq_true rfl, (sm_mq2 127 (by decide +kernel) rfl), rfl, rfl, by decide +kernel⟩ rfl rfl rfl rfl (fun _ => ⟨rfl, rfl⟩) (sm_rd_cons _ _ _ _ _) (by decide +kernel : decode q_st_init.2.1 57 = .ok (.putfield 30, 3)) ?_
  refine c_aload_n (f := 0) G 0 rfl (by decide +kernel : decode q_st_init.2.1 60 = .ok (.aload_n 0, 1)) ?_
  refine c_new (hi := 48) (cl := 0) (N := 4) (C := "SmokeControl$Alarms") (z := (sm_R0, sm_F0, 4)) G rfl rfl rfl rfl (fun k => hz 48 k (by decide)) (fun _ => rfl) rfl rfl rfl (by decide +kernel) (sm_dyn.dy hdy rfl) (sm_mq2 14 (by decide +kernel) rfl) (sm_mq2 15 (by decide +kernel) rfl) (sm_mq1 7 (by decide +kernel) rfl) rfl rfl rfl rfl (by decide +kernel : decode q_st_init.2.1 61 = .ok (.new 33, 3)) ?_
  refine c_dup G rfl (by decide +kernel : decode q_st_init.2.1 64 = .ok (.dup, 1)) ?_
  refine c_ctorN (d := 20) (mc := 0) (ms := 0) (lo' := 48) (hi2 := 49) (b := 48) (As := []) (rdc := (sm_rd 48 48 [])) (rd2 := (sm_rd 48 49 [])) (rd' := (sm_rd 1 40 [(40, 15), (40, 14), (40, 13), (40, 12), (40, 11), (40, 10), (40, 9)])) (h2 := h) G ck_st_35 (k_al_48 l (fun i k z => hz i k (by omega)) (hdy.mono (by decide))) rfl (by decide +kernel) (by decide +kernel) rfl (by decide +kernel) (by decide +kernel) (sm_dyn.dyB hdy rfl) (by decide +kernel) (by decide +kernel) (fun _ _ _ => rfl) rfl rfl (by decide +kernel : decode q_st_init.2.1 65 = .ok (.invokespecial 35, 3)) ?_
  refine c_putR (cl := 7) (x := 16) (i := 40) (nn := 8) (ty := .object "SmokeControl$Alarms") (rd' := (sm_rd 1 40 [(40, 16), (40, 15), (40, 14), (40, 13), (40, 12), (40, 11), (40, 10), (40, 9)])) G hin ⟨(sm_R7, sm_F7, 18), rfl, Nat.le_of_ble_eq_true rfl, (sm_mq2 129 (by decide +kernel) rfl), rfl, rfl, by decide +kernel⟩ rfl rfl rfl rfl (fun _ => ⟨rfl, rfl⟩) (sm_rd_cons _ _ _ _ _) (by decide +kernel : decode q_st_init.2.1 68 = .ok (.putfield 36, 3)) ?_
  refine c_aload_n (f := 0) G 0 rfl (by decide +kernel : decode q_st_init.2.1 71 = .ok (.aload_n 0, 1)) ?_
  refine c_new (hi := 49) (cl := 3) (N := 4) (C := "SmokeControl$Log") (z := (sm_R3, sm_F3, 4)) G rfl rfl rfl rfl (fun k => hz 49 k (by decide)) (fun _ => rfl) rfl rfl rfl (by decide +kernel) (sm_dyn.dy hdy rfl) (sm_mq2 39 (by decide +kernel) rfl) (sm_mq2 40 (by decide +kernel) rfl) (sm_mq1 8 (by decide +kernel) rfl) rfl rfl rfl rfl (by decide +kernel : decode q_st_init.2.1 72 = .ok (.new 40, 3)) ?_
  refine c_dup G rfl (by decide +kernel : decode q_st_init.2.1 75 = .ok (.dup, 1)) ?_
  refine c_ctorN (d := 20) (mc := 3) (ms := 150) (lo' := 49) (hi2 := 53) (b := 49) (As := []) (rdc := (sm_rd 49 49 [])) (rd2 := (sm_rd 49 53 [])) (rd' := (sm_rd 1 40 [(49, 1), (49, 2), (49, 3), (40, 16), (40, 15), (40, 14), (40, 13), (40, 12), (40, 11), (40, 10), (40, 9)])) (h2 := h) G ck_st_42 (k_lo_49 l (fun i k z => hz i k (by omega)) (hdy.mono (by decide))) rfl (by decide +kernel) (by decide +kernel) rfl (by decide +kernel) (by decide +kernel) (sm_dyn.dyB hdy rfl) (by decide +kernel) (by decide +kernel) (fun _ _ _ => rfl) rfl rfl (by decide +kernel : decode q_st_init.2.1 76 = .ok (.invokespecial 42, 3)) ?_
  refine c_putR (cl := 7) (x := 17) (i := 40) (nn := 9) (ty := .object "SmokeControl$Log") (rd' := (sm_rd 1 40 [(40, 17), (49, 1), (49, 2), (49, 3), (40, 16), (40, 15), (40, 14), (40, 13), (40, 12), (40, 11), (40, 10), (40, 9)])) G hin ⟨(sm_R7, sm_F7, 18), rfl, Nat.le_of_ble_eq_true rfl, (sm_mq2 133 (by decide +kernel) rfl), rfl, rfl, by decide +kernel⟩ rfl rfl rfl rfl (fun _ => ⟨rfl, rfl⟩) (sm_rd_cons _ _ _ _ _) (by decide +kernel : decode q_st_init.2.1 79 = .ok (.putfield 43, 3)) ?_
  refine c_aload_n (f := 0) G 0 rfl (by decide +kernel : decode q_st_init.2.1 82 = .ok (.aload_n 0, 1)) ?_
  refine c_aload_n (f := 1) G 1 rfl (by decide +kernel : decode q_st_init.2.1 83 = .ok (.aload_n 1, 1)) ?_
  refine c_callV (lo' := 1) (hi' := 53) (b := 40) (d := (0 + 1)) (cl := 7) (z := (sm_R7, sm_F7, 18)) (As := [.ref 1]) (rv := none) (h1 := (sm_ib 40 1 h)) G cvv_st_47 rfl rfl rfl (m_st_begin l 1 53 0 ⟨by decide, by decide⟩ (sm_atD (by decide +kernel)) (sm_atD (by decide +kernel)) (p_st_begin (by decide) rfl hz hpd)) rfl (by decide +kernel) rfl (by decide +kernel) (by decide +kernel) (by decide +kernel) (fun i _ _ z => sm_ib_fr (by omega)) (by decide +kernel : decode q_st_init.2.1 84 = .ok (.invokevirtual 47, 3)) ?_
  exact c_vret G hr hlk (by decide +kernel) (by decide +kernel : decode q_st_init.2.1 87 = .ok (.return_, 1))
theorem k_al_61 (l : Launch) {h : sm_H} (hz : ∀ i k, 61 < i → h i k = 0) (hdy : sm_dyn 62 h) : sm_MetC l 61 62 (sm_rd 61 61 []) 20 0 0 q_al_init [.ref 61] h 62 (sm_rd 61 62 []) h := by
  refine sm_MetC.of (by decide +kernel) rfl rfl rfl ?_
  intro base sz E p e s m args below meth c G hin hr hlk
  show sm_C p l e (sm_rmC 20 0 0) s m args below meth c _ _ E 62 _ 61 62 (sm_rd 61 61 []) 0 0 0 [(0, .ref 61)] [] h
  refine c_aload_n (f := 0) G 0 rfl (by decide +kernel : decode q_al_init.2.1 0 = .ok (.aload_n 0, 1)) ?_
  refine c_obj G (sm_mq2 19 (by decide +kernel) rfl) ⟨by decide, by decide⟩ (by decide +kernel : decode q_al_init.2.1 1 = .ok (.invokespecial 3, 3)) ?_
  exact c_vret G hr hlk (by decide +kernel) (by decide +kernel : decode q_al_init.2.1 4 = .ok (.return_, 1))
theorem k_lo_62 (l : Launch) {h : sm_H} (hz : ∀ i k, 62 < i → h i k = 0) (hdy : sm_dyn 63 h) : sm_MetC l 62 63 (sm_rd 62 62 []) 20 3 150 q_lo_init [.ref 62] h 66 (sm_rd 62 66 []) h := by
  refine sm_MetC.of (by decide +kernel) rfl rfl rfl ?_
  intro base sz E p e s m args below meth c G hin hr hlk
  show sm_C p l e (sm_rmC 20 3 150) s m args below meth c _ _ E 63 _ 62 63 (sm_rd 62 62 []) 0 0 0 [(0, .ref 62)] [] h
  refine c_aload_n (f := 0) G 0 rfl (by decide +kernel : decode q_lo_init.2.1 0 = .ok (.aload_n 0, 1)) ?_
  refine c_obj G (sm_mq2 44 (by decide +kernel) rfl) ⟨by decide, by decide⟩ (by decide +kernel : decode q_lo_init.2.1 1 = .ok (.invokespecial 1, 3)) ?_
  refine c_aload_n (f := 0) G 0 rfl (by decide +kernel : decode q_lo_init.2.1 4 = .ok (.aload_n 0, 1)) ?_
  refine c_bipush (v := 50) G (by decide) (by decide +kernel : decode q_lo_init.2.1 5 = .ok (.bipush 50, 2)) ?_
  refine c_newa (hi := 63) (atype := .int) (t := 0) (N := 50) G rfl rfl rfl (fun _ _ z => z) rfl (fun k => hz 63 k (by decide)) rfl rfl rfl (by decide +kernel) (sm_dyn.dy hdy rfl) (sm_mq1 78 (by decide +kernel) rfl) (by decide) (by decide) (by decide +kernel) rfl rfl rfl rfl (by decide +kernel : decode q_lo_init.2.1 7 = .ok (.newarray .int, 2)) ?_
  refine c_putR (cl := 3) (x := 1) (i := 62) (nn := 1) (ty := .array .int) (rd' := (sm_rd 62 62 [(62, 1)])) G hin ⟨(sm_R3, sm_F3, 4), rfl, Nat.le_of_ble_eq_true rfl, (sm_mq2 47 (by decide +kernel) rfl), rfl, rfl, by decide +kernel⟩ rfl rfl rfl rfl (fun _ => ⟨rfl, rfl⟩) (sm_rd_cons _ _ _ _ _) (by decide +kernel : decode q_lo_init.2.1 9 = .ok (.putfield 9, 3)) ?_
  refine c_aload_n (f := 0) G 0 rfl (by decide +kernel : decode q_lo_init.2.1 12 = .ok (.aload_n 0, 1)) ?_
  refine c_bipush (v := 50) G (by decide) (by decide +kernel : decode q_lo_init.2.1 13 = .ok (.bipush 50, 2)) ?_
  refine c_newa (hi := 64) (atype := .int) (t := 0) (N := 50) G rfl rfl rfl (fun _ _ z => z) rfl (fun k => hz 64 k (by decide)) rfl rfl rfl (by decide +kernel) (sm_dyn.dy hdy rfl) (sm_mq1 78 (by decide +kernel) rfl) (by decide) (by decide) (by decide +kernel) rfl rfl rfl rfl (by decide +kernel : decode q_lo_init.2.1 15 = .ok (.newarray .int, 2)) ?_
  refine c_putR (cl := 3) (x := 2) (i := 62) (nn := 2) (ty := .array .int) (rd' := (sm_rd 62 62 [(62, 2), (62, 1)])) G hin ⟨(sm_R3, sm_F3, 4), rfl, Nat.le_of_ble_eq_true rfl, (sm_mq2 49 (by decide +kernel) rfl), rfl, rfl, by decide +kernel⟩ rfl rfl rfl rfl (fun _ => ⟨rfl, rfl⟩) (sm_rd_cons _ _ _ _ _) (by decide +kernel : decode q_lo_init.2.1 17 = .ok (.putfield 13, 3)) ?_
  refine c_aload_n (f := 0) G 0 rfl (by decide +kernel : decode q_lo_init.2.1 20 = .ok (.aload_n 0, 1)) ?_
  refine c_bipush (v := 50) G (by decide) (by decide +kernel : decode q_lo_init.2.1 21 = .ok (.bipush 50, 2)) ?_
  refine c_newa (hi := 65) (atype := .int) (t := 0) (N := 50) G rfl rfl rfl (fun _ _ z => z) rfl (fun k => hz 65 k (by decide)) rfl rfl rfl (by decide +kernel) (sm_dyn.dy hdy rfl) (sm_mq1 78 (by decide +kernel) rfl) (by decide) (by decide) (by decide +kernel) rfl rfl rfl rfl (by decide +kernel : decode q_lo_init.2.1 23 = .ok (.newarray .int, 2)) ?_
  refine c_putR (cl := 3) (x := 3) (i := 62) (nn := 3) (ty := .array .int) (rd' := (sm_rd 62 62 [(62, 3), (62, 2), (62, 1)])) G hin ⟨(sm_R3, sm_F3, 4), rfl, Nat.le_of_ble_eq_true rfl, (sm_mq2 51 (by decide +kernel) rfl), rfl, rfl, by decide +kernel⟩ rfl rfl rfl rfl (fun _ => ⟨rfl, rfl⟩) (sm_rd_cons _ _ _ _ _) (by decide +kernel : decode q_lo_init.2.1 25 = .ok (.putfield 16, 3)) ?_
  exact c_vret G hr hlk (by decide +kernel) (by decide +kernel : decode q_lo_init.2.1 28 = .ok (.return_, 1))
theorem k_st_53 (l : Launch) {h : sm_H} (hz : ∀ i k, 53 ≤ i → h i k = 0) (hdy : sm_dyn 54 h) (hpd : h 1 1 = 0) : sm_MetC l 1 54 (sm_rd 1 53 []) 40 12 289 q_st_init [.ref 53, .ref 1] h 66 (sm_rd 1 66 []) (sm_ib 53 1 h) := by
  refine sm_MetC.of (by decide +kernel) rfl rfl rfl ?_
  intro base sz E p e s m args below meth c G hin hr hlk
  show sm_C p l e (sm_rmC 40 12 289) s m args below meth c _ _ E 54 _ 1 54 (sm_rd 1 53 []) 0 0 0 [(0, .ref 53), (1, .ref 1)] [] h
  refine c_aload_n (f := 0) G 0 rfl (by decide +kernel : decode q_st_init.2.1 0 = .ok (.aload_n 0, 1)) ?_
  refine c_obj G (sm_mq2 13 (by decide +kernel) rfl) ⟨by decide, by decide⟩ (by decide +kernel : decode q_st_init.2.1 1 = .ok (.invokespecial 3, 3)) ?_
  refine c_aload_n (f := 0) G 0 rfl (by decide +kernel : decode q_st_init.2.1 4 = .ok (.aload_n 0, 1)) ?_
  refine c_bipush (v := 8) G (by decide) (by decide +kernel : decode q_st_init.2.1 5 = .ok (.bipush 8, 2)) ?_
  refine c_newa (hi := 54) (atype := .int) (t := 0) (N := 8) G rfl rfl rfl (fun _ _ z => z) rfl (fun k => hz 54 k (by decide)) rfl rfl rfl (by decide +kernel) (sm_dyn.dy hdy rfl) (sm_mq1 78 (by decide +kernel) rfl) (by decide) (by decide) (by decide +kernel) rfl rfl rfl rfl (by decide +kernel : decode q_st_init.2.1 7 = .ok (.newarray .int, 2)) ?_
  refine c_putR (cl := 7) (x := 9) (i := 53) (nn := 1) (ty := .array .int) (rd' := (sm_rd 1 53 [(53, 9)])) G hin ⟨(sm_R7, sm_F7, 18), rfl, Nat.le_of_ble_eq_true rfl, (sm_mq2 108 (by decide +kernel) rfl), rfl, rfl, by decide +kernel⟩ rfl rfl rfl rfl (fun _ => ⟨rfl, rfl⟩) (sm_rd_cons _ _ _ _ _) (by decide +kernel : decode q_st_init.2.1 9 = .ok (.putfield 9, 3)) ?_
  refine c_aload_n (f := 0) G 0 rfl (by decide +kernel : decode q_st_init.2.1 12 = .ok (.aload_n 0, 1)) ?_
  refine c_bipush (v := 8) G (by decide) (by decide +kernel : decode q_st_init.2.1 13 = .ok (.bipush 8, 2)) ?_
  refine c_newa (hi := 55) (atype := .int) (t := 0) (N := 8) G rfl rfl rfl (fun _ _ z => z) rfl (fun k => hz 55 k (by decide)) rfl rfl rfl (by decide +kernel) (sm_dyn.dy hdy rfl) (sm_mq1 78 (by decide +kernel) rfl) (by decide) (by decide) (by decide +kernel) rfl rfl rfl rfl (by decide +kernel : decode q_st_init.2.1 15 = .ok (.newarray .int, 2)) ?_
  refine c_putR (cl := 7) (x := 10) (i := 53) (nn := 2) (ty := .array .int) (rd' := (sm_rd 1 53 [(53, 10), (53, 9)])) G hin ⟨(sm_R7, sm_F7, 18), rfl, Nat.le_of_ble_eq_true rfl, (sm_mq2 112 (by decide +kernel) rfl), rfl, rfl, by decide +kernel⟩ rfl rfl rfl rfl (fun _ => ⟨rfl, rfl⟩) (sm_rd_cons _ _ _ _ _) (by decide +kernel : decode q_st_init.2.1 17 = .ok (.putfield 15, 3)) ?_
  refine c_aload_n (f := 0) G 0 rfl (by decide +kernel : decode q_st_init.2.1 20 = .ok (.aload_n 0, 1)) ?_
  refine c_bipush (v := 23) G (by decide) (by decide +kernel : decode q_st_init.2.1 21 = .ok (.bipush 23, 2)) ?_
  refine c_newa (hi := 56) (atype := .int) (t := 0) (N := 23) G rfl rfl rfl (fun _ _ z => z) rfl (fun k => hz 56 k (by decide)) rfl rfl rfl (by decide +kernel) (sm_dyn.dy hdy rfl) (sm_mq1 78 (by decide +kernel) rfl) (by decide) (by decide) (by decide +kernel) rfl rfl rfl rfl (by decide +kernel : decode q_st_init.2.1 23 = .ok (.newarray .int, 2)) ?_
  refine c_putR (cl := 7) (x := 11) (i := 53) (nn := 3) (ty := .array .int) (rd' := (sm_rd 1 53 [(53, 11), (53, 10), (53, 9)])) G hin ⟨(sm_R7, sm_F7, 18), rfl, Nat.le_of_ble_eq_true rfl, (sm_mq2 115 (by decide +kernel) rfl), rfl, rfl, by decide +kernel⟩ rfl rfl rfl rfl (fun _ => ⟨rfl, rfl⟩) (sm_rd_cons _ _ _ _ _) (by decide +kernel : decode q_st_init.2.1 25 = .ok (.putfield 18, 3)) ?_
  refine c_aload_n (f := 0) G 0 rfl (by decide +kernel : decode q_st_init.2.1 28 = .ok (.aload_n 0, 1)) ?_
  refine c_bipush (v := 23) G (by decide) (by decide +kernel : decode q_st_init.2.1 29 = .ok (.bipush 23, 2)) ?_
  refine c_newa (hi := 57) (atype := .int) (t := 0) (N := 23) G rfl rfl rfl (fun _ _ z => z) rfl (fun k => hz 57 k (by decide)) rfl rfl rfl (by decide +kernel) (sm_dyn.dy hdy rfl) (sm_mq1 78 (by decide +kernel) rfl) (by decide) (by decide) (by decide +kernel) rfl rfl rfl rfl (by decide +kernel : decode q_st_init.2.1 31 = .ok (.newarray .int, 2)) ?_
  refine c_putR (cl := 7) (x := 12) (i := 53) (nn := 4) (ty := .array .int) (rd' := (sm_rd 1 53 [(53, 12), (53, 11), (53, 10), (53, 9)])) G hin ⟨(sm_R7, sm_F7, 18), rfl, Nat.le_of_ble_eq_true rfl, (sm_mq2 119 (by decide +kernel) rfl), rfl, rfl, by decide +kernel⟩ rfl rfl rfl rfl (fun _ => ⟨rfl, rfl⟩) (sm_rd_cons _ _ _ _ _) (by decide +kernel : decode q_st_init.2.1 33 = .ok (.putfield 21, 3)) ?_
  refine c_aload_n (f := 0) G 0 rfl (by decide +kernel : decode q_st_init.2.1 36 = .ok (.aload_n 0, 1)) ?_
  refine c_bipush (v := 23) G (by decide) (by decide +kernel : decode q_st_init.2.1 37 = .ok (.bipush 23, 2)) ?_
  refine c_newa (hi := 58) (atype := .int) (t := 0) (N := 23) G rfl rfl rfl (fun _ _ z => z) rfl (fun k => hz 58 k (by decide)) rfl rfl rfl (by decide +kernel) (sm_dyn.dy hdy rfl) (sm_mq1 78 (by decide +kernel) rfl) (by decide) (by decide) (by decide +kernel) rfl rfl rfl rfl (by decide +kernel : decode q_st_init.2.1 39 = .ok (.newarray .int, 2)) ?_
  refine c_putR (cl := 7) (x := 13) (i := 53) (nn := 5) (ty := .array .int) (rd' := (sm_rd 1 53 [(53, 13), (53, 12), (53, 11), (53, 10), (53, 9)])) G hin ⟨(sm_R7, sm_F7, 18), rfl, Nat.le_of_ble_eq_true rfl, (sm_mq2 122 (by decide +kernel) rfl), rfl, rfl, by decide +kernel⟩ rfl rfl rfl rfl (fun _ => ⟨rfl, rfl⟩) (sm_rd_cons _ _ _ _ _) (by decide +kernel : decode q_st_init.2.1 41 = .ok (.putfield 24, 3)) ?_
  refine c_aload_n (f := 0) G 0 rfl (by decide +kernel : decode q_st_init.2.1 44 = .ok (.aload_n 0, 1)) ?_
  refine c_bipush (v := 23) G (by decide) (by decide +kernel : decode q_st_init.2.1 45 = .ok (.bipush 23, 2)) ?_
  refine c_newa (hi := 59) (atype := .int) (t := 0) (N := 23) G rfl rfl rfl (fun _ _ z => z) rfl (fun k => hz 59 k (by decide)) rfl rfl rfl (by decide +kernel) (sm_dyn.dy hdy rfl) (sm_mq1 78 (by decide +kernel) rfl) (by decide) (by decide) (by decide +kernel) rfl rfl rfl rfl (by decide +kernel : decode q_st_init.2.1 47 = .ok (.newarray .int, 2)) ?_
  refine c_putR (cl := 7) (x := 14) (i := 53) (nn := 6) (ty := .array .int) (rd' := (sm_rd 1 53 [(53, 14), (53, 13), (53, 12), (53, 11), (53, 10), (53, 9)])) G hin ⟨(sm_R7, sm_F7, 18), rfl, Nat.le_of_ble_eq_true rfl, (sm_mq2 125 (by decide +kernel) rfl), rfl, rfl, by decide +kernel⟩ rfl rfl rfl rfl (fun _ => ⟨rfl, rfl⟩) (sm_rd_cons _ _ _ _ _) (by decide +kernel : decode q_st_init.2.1 49 = .ok (.putfield 27, 3)) ?_
  refine c_aload_n (f := 0) G 0 rfl (by decide +kernel : decode q_st_init.2.1 52 = .ok (.aload_n 0, 1)) ?_
  refine c_bipush (v := 23) G (by decide) (by decide +kernel : decode q_st_init.2.1 53 = .ok (.bipush 23, 2)) ?_
  refine c_newa (hi := 60) (atype := .int) (t := 0) (N := 23) G rfl rfl rfl (fun _ _ z => z) rfl (fun k => hz 60 k (by decide)) rfl rfl rfl (by decide +kernel) (sm_dyn.dy hdy rfl) (sm_mq1 78 (by decide +kernel) rfl) (by decide) (by decide) (by decide +kernel) rfl rfl rfl rfl (by decide +kernel : decode q_st_init.2.1 55 = .ok (.newarray .int, 2)) ?_
  refine c_putR (cl := 7) (x := 15) (i := 53) (nn := 7) (ty := .array .int) (rd' := (sm_rd 1 53 [(53, 15), (53, 14), (53, 13), (53, 12), (53, 11), (53, 10), (53, 9)])) G hin ⟨(sm_R7, sm_F7, 18), rfl, Nat.le_of_ble_eq_true rfl, (sm_mq2 127 (by decide +kernel) rfl), rfl, rfl, by decide +kernel⟩ rfl rfl rfl rfl (fun _ => ⟨rfl, rfl⟩) (sm_rd_cons _ _ _ _ _) (by decide +kernel : decode q_st_init.2.1 57 = .ok (.putfield 30, 3)) ?_
  refine c_aload_n (f := 0) G 0 rfl (by decide +kernel : decode q_st_init.2.1 60 = .ok (.aload_n 0, 1)) ?_
  refine c_new (hi := 61) (cl := 0) (N := 4) (C := "SmokeControl$Alarms") (z := (sm_R0, sm_F0, 4)) G rfl rfl rfl rfl (fun k => hz 61 k (by decide)) (fun _ => rfl) rfl rfl rfl (by decide +kernel) (sm_dyn.dy hdy rfl) (sm_mq2 14 (by decide +kernel) rfl) (sm_mq2 15 (by decide +kernel) rfl) (sm_mq1 7 (by decide +kernel) rfl) rfl rfl rfl rfl (by decide +kernel : decode q_st_init.2.1 61 = .ok (.new 33, 3)) ?_
  refine c_dup G rfl (by decide +kernel : decode q_st_init.2.1 64 = .ok (.dup, 1)) ?_
  refine c_ctorN (d := 20) (mc := 0) (ms := 0) (lo' := 61) (hi2 := 62) (b := 61) (As := []) (rdc := (sm_rd 61 61 [])) (rd2 := (sm_rd 61 62 [])) (rd' := (sm_rd 1 53 [(53, 15), (53, 14), (53, 13), (53, 12), (53, 11), (53, 10), (53, 9)])) (h2 := h) G ck_st_35 (k_al_61 l (fun i k z => hz i k (by omega)) (hdy.mono (by decide))) rfl (by decide +kernel) (by decide +kernel) rfl (by decide +kernel) (by decide +kernel) (sm_dyn.dyB hdy rfl) (by decide +kernel) (by decide +kernel) (fun _ _ _ => rfl) rfl rfl (by decide +kernel : decode q_st_init.2.1 65 = .ok (.invokespecial 35, 3)) ?_
  refine c_putR (cl := 7) (x := 16) (i := 53) (nn := 8) (ty := .object "SmokeControl$Alarms") (rd' := (sm_rd 1 53 [(53, 16), (53, 15), (53, 14), (53, 13), (53, 12), (53, 11), (53, 10), (53, 9)])) G hin ⟨(sm_R7, sm_F7, 18), rfl, Nat.le_of_ble_eq_true rfl, (sm_mq2 129 (by decide +kernel) rfl), rfl, rfl, by decide +kernel⟩ rfl rfl rfl rfl (fun _ => ⟨rfl, rfl⟩) (sm_rd_cons _ _ _ _ _) (by decide +kernel : decode q_st_init.2.1 68 = .ok (.putfield 36, 3)) ?_
  refine c_aload_n (f := 0) G 0 rfl (by decide +kernel : decode q_st_init.2.1 71 = .ok (.aload_n 0, 1)) ?_
  refine c_new (hi := 62) (cl := 3) (N := 4) (C := "SmokeControl$Log") (z := (sm_R3, sm_F3, 4)) G rfl rfl rfl rfl (fun k => hz 62 k (by decide)) (fun _ => rfl) rfl rfl rfl (by decide +kernel) (sm_dyn.dy hdy rfl) (sm_mq2 39 (by decide +kernel) rfl) (sm_mq2 40 (by decide +kernel) rfl) (sm_mq1 8 (by decide +kernel) rfl) rfl rfl rfl rfl (by decide +kernel : decode q_st_init.2.1 72 = .ok (.new 40, 3)) ?_
  refine c_dup G rfl (by decide +kernel : decode q_st_init.2.1 75 = .ok (.dup, 1)) ?_
  refine c_ctorN (d := 20) (mc := 3) (ms := 150) (lo' := 62) (hi2 := 66) (b := 62) (As := []) (rdc := (sm_rd 62 62 [])) (rd2 := (sm_rd 62 66 [])) (rd' := (sm_rd 1 53 [(62, 1), (62, 2), (62, 3), (53, 16), (53, 15), (53, 14), (53, 13), (53, 12), (53, 11), (53, 10), (53, 9)])) (h2 := h) G ck_st_42 (k_lo_62 l (fun i k z => hz i k (by omega)) (hdy.mono (by decide))) rfl (by decide +kernel) (by decide +kernel) rfl (by decide +kernel) (by decide +kernel) (sm_dyn.dyB hdy rfl) (by decide +kernel) (by decide +kernel) (fun _ _ _ => rfl) rfl rfl (by decide +kernel : decode q_st_init.2.1 76 = .ok (.invokespecial 42, 3)) ?_
  refine c_putR (cl := 7) (x := 17) (i := 53) (nn := 9) (ty := .object "SmokeControl$Log") (rd' := (sm_rd 1 53 [(53, 17), (62, 1), (62, 2), (62, 3), (53, 16), (53, 15), (53, 14), (53, 13), (53, 12), (53, 11), (53, 10), (53, 9)])) G hin ⟨(sm_R7, sm_F7, 18), rfl, Nat.le_of_ble_eq_true rfl, (sm_mq2 133 (by decide +kernel) rfl), rfl, rfl, by decide +kernel⟩ rfl rfl rfl rfl (fun _ => ⟨rfl, rfl⟩) (sm_rd_cons _ _ _ _ _) (by decide +kernel : decode q_st_init.2.1 79 = .ok (.putfield 43, 3)) ?_
  refine c_aload_n (f := 0) G 0 rfl (by decide +kernel : decode q_st_init.2.1 82 = .ok (.aload_n 0, 1)) ?_
  refine c_aload_n (f := 1) G 1 rfl (by decide +kernel : decode q_st_init.2.1 83 = .ok (.aload_n 1, 1)) ?_
  refine c_callV (lo' := 1) (hi' := 66) (b := 53) (d := (0 + 1)) (cl := 7) (z := (sm_R7, sm_F7, 18)) (As := [.ref 1]) (rv := none) (h1 := (sm_ib 53 1 h)) G cvv_st_47 rfl rfl rfl (m_st_begin l 1 66 0 ⟨by decide, by decide⟩ (sm_atD (by decide +kernel)) (sm_atD (by decide +kernel)) (p_st_begin (by decide) rfl hz hpd)) rfl (by decide +kernel) rfl (by decide +kernel) (by decide +kernel) (by decide +kernel) (fun i _ _ z => sm_ib_fr (by omega)) (by decide +kernel : decode q_st_init.2.1 84 = .ok (.invokevirtual 47, 3)) ?_
  exact c_vret G hr hlk (by decide +kernel) (by decide +kernel : decode q_st_init.2.1 87 = .ok (.return_, 1))
theorem k_al_75 (l : Launch) {h : sm_H} (hz : ∀ i k, 75 < i → h i k = 0) (hdy : sm_dyn 76 h) : sm_MetC l 75 76 (sm_rd 75 75 []) 20 0 0 q_al_init [.ref 75] h 76 (sm_rd 75 76 []) h := by
  refine sm_MetC.of (by decide +kernel) rfl rfl rfl ?_
  intro base sz E p e s m args below meth c G hin hr hlk
  show sm_C p l e (sm_rmC 20 0 0) s m args below meth c _ _ E 76 _ 75 76 (sm_rd 75 75 []) 0 0 0 [(0, .ref 75)] [] h
  refine c_aload_n (f := 0) G 0 rfl (by decide +kernel : decode q_al_init.2.1 0 = .ok (.aload_n 0, 1)) ?_
  refine c_obj G (sm_mq2 19 (by decide +kernel) rfl) ⟨by decide, by decide⟩ (by decide +kernel : decode q_al_init.2.1 1 = .ok (.invokespecial 3, 3)) ?_
  exact c_vret G hr hlk (by decide +kernel) (by decide +kernel : decode q_al_init.2.1 4 = .ok (.return_, 1))
theorem k_lo_76 (l : Launch) {h : sm_H} (hz : ∀ i k, 76 < i → h i k = 0) (hdy : sm_dyn 77 h) : sm_MetC l 76 77 (sm_rd 76 76 []) 20 3 150 q_lo_init [.ref 76] h 80 (sm_rd 76 80 []) h := by
  refine sm_MetC.of (by decide +kernel) rfl rfl rfl ?_
  intro base sz E p e s m args below meth c G hin hr hlk
  show sm_C p l e (sm_rmC 20 3 150) s m args below meth c _ _ E 77 _ 76 77 (sm_rd 76 76 []) 0 0 0 [(0, .ref 76)] [] h
  refine c_aload_n (f := 0) G 0 rfl (by decide +kernel : decode q_lo_init.2.1 0 = .ok (.aload_n 0, 1)) ?_
  refine c_obj G (sm_mq2 44 (by decide +kernel) rfl) ⟨by decide, by decide⟩ (by decide +kernel : decode q_lo_init.2.1 1 = .ok (.invokespecial 1, 3)) ?_
  refine c_aload_n (f := 0) G 0 rfl (by decide +kernel : decode q_lo_init.2.1 4 = .ok (.aload_n 0, 1)) ?_
  refine c_bipush (v := 50) G (by decide) (by decide +kernel : decode q_lo_init.2.1 5 = .ok (.bipush 50, 2)) ?_
  refine c_newa (hi := 77) (atype := .int) (t := 0) (N := 50) G rfl rfl rfl (fun _ _ z => z) rfl (fun k => hz 77 k (by decide)) rfl rfl rfl (by decide +kernel) (sm_dyn.dy hdy rfl) (sm_mq1 78 (by decide +kernel) rfl) (by decide) (by decide) (by decide +kernel) rfl rfl rfl rfl (by decide +kernel : decode q_lo_init.2.1 7 = .ok (.newarray .int, 2)) ?_
  refine c_putR (cl := 3) (x := 1) (i := 76) (nn := 1) (ty := .array .int) (rd' := (sm_rd 76 76 [(76, 1)])) G hin ⟨(sm_R3, sm_F3, 4), rfl, Nat.le_of_ble_eq_true rfl, (sm_mq2 47 (by decide +kernel) rfl), rfl, rfl, by decide +kernel⟩ rfl rfl rfl rfl (fun _ => ⟨rfl, rfl⟩) (sm_rd_cons _ _ _ _ _) (by decide +kernel : decode q_lo_init.2.1 9 = .ok (.putfield 9, 3)) ?_
  refine c_aload_n (f := 0) G 0 rfl (by decide +kernel : decode q_lo_init.2.1 12 = .ok (.aload_n 0, 1)) ?_
  refine c_bipush (v := 50) G (by decide) (by decide +kernel : decode q_lo_init.2.1 13 = .ok (.bipush 50, 2)) ?_
  refine c_newa (hi := 78) (atype := .int) (t := 0) (N := 50) G rfl rfl rfl (fun _ _ z => z) rfl (fun k => hz 78 k (by decide)) rfl rfl rfl (by decide +kernel) (sm_dyn.dy hdy rfl) (sm_mq1 78 (by decide +kernel) rfl) (by decide) (by decide) (by decide +kernel) rfl rfl rfl rfl (by decide +kernel : decode q_lo_init.2.1 15 = .ok (.newarray .int, 2)) ?_
  refine c_putR (cl := 3) (x := 2) (i := 76) (nn := 2) (ty := .array .int) (rd' := (sm_rd 76 76 [(76, 2), (76, 1)])) G hin ⟨(sm_R3, sm_F3, 4), rfl, Nat.le_of_ble_eq_true rfl, (sm_mq2 49 (by decide +kernel) rfl), rfl, rfl, by decide +kernel⟩ rfl rfl rfl rfl (fun _ => ⟨rfl, rfl⟩) (sm_rd_cons _ _ _ _ _) (by decide +kernel : decode q_lo_init.2.1 17 = .ok (.putfield 13, 3)) ?_
  refine c_aload_n (f := 0) G 0 rfl (by decide +kernel : decode q_lo_init.2.1 20 = .ok (.aload_n 0, 1)) ?_
  refine c_bipush (v := 50) G (by decide) (by decide +kernel : decode q_lo_init.2.1 21 = .ok (.bipush 50, 2)) ?_
  refine c_newa (hi := 79) (atype := .int) (t := 0) (N := 50) G rfl rfl rfl (fun _ _ z => z) rfl (fun k => hz 79 k (by decide)) rfl rfl rfl (by decide +kernel) (sm_dyn.dy hdy rfl) (sm_mq1 78 (by decide +kernel) rfl) (by decide) (by decide) (by decide +kernel) rfl rfl rfl rfl (by decide +kernel : decode q_lo_init.2.1 23 = .ok (.newarray .int, 2)) ?_
  refine c_putR (cl := 3) (x := 3) (i := 76) (nn := 3) (ty := .array .int) (rd' := (sm_rd 76 76 [(76, 3), (76, 2), (76, 1)])) G hin ⟨(sm_R3, sm_F3, 4), rfl, Nat.le_of_ble_eq_true rfl, (sm_mq2 51 (by decide +kernel) rfl), rfl, rfl, by decide +kernel⟩ rfl rfl rfl rfl (fun _ => ⟨rfl, rfl⟩) (sm_rd_cons _ _ _ _ _) (by decide +kernel : decode q_lo_init.2.1 25 = .ok (.putfield 16, 3)) ?_
  exact c_vret G hr hlk (by decide +kernel) (by decide +kernel : decode q_lo_init.2.1 28 = .ok (.return_, 1))
theorem k_st_67 (l : Launch) {h : sm_H} (hz : ∀ i k, 67 ≤ i → h i k = 0) (hdy : sm_dyn 68 h) (hpd : h 1 1 = 0) : sm_MetC l 1 68 (sm_rd 1 67 []) 40 12 289 q_st_init [.ref 67, .ref 1] h 80 (sm_rd 1 80 []) (sm_ib 67 1 h) := by
  refine sm_MetC.of (by decide +kernel) rfl rfl rfl ?_
  intro base sz E p e s m args below meth c G hin hr hlk
  show sm_C p l e (sm_rmC 40 12 289) s m args below meth c _ _ E 68 _ 1 68 (sm_rd 1 67 []) 0 0 0 [(0, .ref 67), (1, .ref 1)] [] h
  refine c_aload_n (f := 0) G 0 rfl (by decide +kernel : decode q_st_init.2.1 0 = .ok (.aload_n 0, 1)) ?_
  refine c_obj G (sm_mq2 13 (by decide +kernel) rfl) ⟨by decide, by decide⟩ (by decide +kernel : decode q_st_init.2.1 1 = .ok (.invokespecial 3, 3)) ?_
  refine c_aload_n (f := 0) G 0 rfl (by decide +kernel : decode q_st_init.2.1 4 = .ok (.aload_n 0, 1)) ?_
  refine c_bipush (v := 8) G (by decide) (by decide +kernel : decode q_st_init.2.1 5 = .ok (.bipush 8, 2)) ?_
  refine c_newa (hi := 68) (atype := .int) (t := 0) (N := 8) G rfl rfl rfl (fun _ _ z => z) rfl (fun k => hz 68 k (by decide)) rfl rfl rfl (by decide +kernel) (sm_dyn.dy hdy rfl) (sm_mq1 78 (by decide +kernel) rfl) (by decide) (by decide) (by decide +kernel) rfl rfl rfl rfl (by decide +kernel : decode q_st_init.2.1 7 = .ok (.newarray .int, 2)) ?_
  refine c_putR (cl := 7) (x := 9) (i := 67) (nn := 1) (ty := .array .int) (rd' := (sm_rd 1 67 [(67, 9)])) G hin ⟨(sm_R7, sm_F7, 18), rfl, Nat.le_of_ble_eq_true rfl, (sm_mq2 108 (by decide +kernel) rfl), rfl, rfl, by decide +kernel⟩ rfl rfl rfl rfl (fun _ => ⟨rfl, rfl⟩) (sm_rd_cons _ _ _ _ _) (by decide +kernel : decode q_st_init.2.1 9 = .ok (.putfield 9, 3)) ?_
  refine c_aload_n (f := 0) G 0 rfl (by decide +kernel : decode q_st_init.2.1 12 = .ok (.aload_n 0, 1)) ?_
  refine c_bipush (v := 8) G (by decide) (by decide +kernel : decode q_st_init.2.1 13 = .ok (.bipush 8, 2)) ?_
  refine c_newa (hi := 69) (atype := .int) (t := 0) (N := 8) G rfl rfl rfl (fun _ _ z => z) rfl (fun k => hz 69 k (by decide)) rfl rfl rfl (by decide +kernel) (sm_dyn.dy hdy rfl) (sm_mq1 78 (by decide +kernel) rfl) (by decide) (by decide) (by decide +kernel) rfl rfl rfl rfl (by decide +kernel : decode q_st_init.2.1 15 = .ok (.newarray .int, 2)) ?_
  refine c_putR (cl := 7) (x := 10) (i := 67) (nn := 2) (ty := .array .int) (rd' := (sm_rd 1 67 [(67, 10), (67, 9)])) G hin ⟨(sm_R7, sm_F7, 18), rfl, Nat.le_of_ble_eq_true rfl, (sm_mq2 112 (by decide +kernel) rfl), rfl, rfl, by decide +kernel⟩ rfl rfl rfl rfl (fun _ => ⟨rfl, rfl⟩) (sm_rd_cons _ _ _ _ _) (by decide +kernel : decode q_st_init.2.1 17 = .ok (.putfield 15, 3)) ?_
  refine c_aload_n (f := 0) G 0 rfl (by decide +kernel : decode q_st_init.2.1 20 = .ok (.aload_n 0, 1)) ?_
  refine c_bipush (v := 23) G (by decide) (by decide +kernel : decode q_st_init.2.1 21 = .ok (.bipush 23, 2)) ?_
  refine c_newa (hi := 70) (atype := .int) (t := 0) (N := 23) G rfl rfl rfl (fun _ _ z => z) rfl (fun k => hz 70 k (by decide)) rfl rfl rfl (by decide +kernel) (sm_dyn.dy hdy rfl) (sm_mq1 78 (by decide +kernel) rfl) (by decide) (by decide) (by decide +kernel) rfl rfl rfl rfl (by decide +kernel : decode q_st_init.2.1 23 = .ok (.newarray .int, 2)) ?_
  refine c_putR (cl := 7) (x := 11) (i := 67) (nn := 3) (ty := .array .int) (rd' := (sm_rd 1 67 [(67, 11), (67, 10), (67, 9)])) G hin ⟨(sm_R7, sm_F7, 18), rfl, Nat.le_of_ble_eq_true rfl, (sm_mq2 115 (by decide +kernel) rfl), rfl, rfl, by decide +kernel⟩ rfl rfl rfl rfl (fun _ => ⟨rfl, rfl⟩) (sm_rd_cons _ _ _ _ _) (by decide +kernel : decode q_st_init.2.1 25 = .ok (.putfield 18, 3)) ?_
  refine c_aload_n (f := 0) G 0 rfl (by decide +kernel : decode q_st_init.2.1 28 = .ok (.aload_n 0, 1)) ?_
  refine c_bipush (v := 23) G (by decide) (by decide +kernel : decode q_st_init.2.1 29 = .ok (.bipush 23, 2)) ?_
  refine c_newa (hi := 71) (atype := .int) (t := 0) (N := 23) G rfl rfl rfl (fun _ _ z => z) rfl (fun k => hz 71 k (by decide)) rfl rfl rfl (by decide +kernel) (sm_dyn.dy hdy rfl) (sm_mq1 78 (by decide +kernel) rfl) (by decide) (by decide) (by decide +kernel) rfl rfl rfl rfl (by decide +kernel : decode q_st_init.2.1 31 = .ok (.newarray .int, 2)) ?_
  refine c_putR (cl := 7) (x := 12) (i := 67) (nn := 4) (ty := .array .int) (rd' := (sm_rd 1 67 [(67, 12), (67, 11), (67, 10), (67, 9)])) G hin ⟨(sm_R7, sm_F7, 18), rfl, Nat.le_of_ble_eq_true rfl, (sm_mq2 119 (by decide +kernel) rfl), rfl, rfl, by decide +kernel⟩ rfl rfl rfl rfl (fun _ => ⟨rfl, rfl⟩) (sm_rd_cons _ _ _ _ _) (by decide +kernel : decode q_st_init.2.1 33 = .ok (.putfield 21, 3)) ?_
  refine c_aload_n (f := 0) G 0 rfl (by decide +kernel : decode q_st_init.2.1 36 = .ok (.aload_n 0, 1)) ?_
  refine c_bipush (v := 23) G (by decide) (by decide +kernel : decode q_st_init.2.1 37 = .ok (.bipush 23, 2)) ?_
  refine c_newa (hi := 72) (atype := .int) (t := 0) (N := 23) G rfl rfl rfl (fun _ _ z => z) rfl (fun k => hz 72 k (by decide)) rfl rfl rfl (by decide +kernel) (sm_dyn.dy hdy rfl) (sm_mq1 78 (by decide +kernel) rfl) (by decide) (by decide) (by decide +kernel) rfl rfl rfl rfl (by decide +kernel : decode q_st_init.2.1 39 = .ok (.newarray .int, 2)) ?_
  refine c_putR (cl := 7) (x := 13) (i := 67) (nn := 5) (ty := .array .int) (rd' := (sm_rd 1 67 [(67, 13), (67, 12), (67, 11), (67, 10), (67, 9)])) G hin ⟨(sm_R7, sm_F7, 18), rfl, Nat.le_of_ble_eq_true rfl, (sm_mq2 122 (by decide +kernel) rfl), rfl, rfl, by decide +kernel⟩ rfl rfl rfl rfl (fun _ => ⟨rfl, rfl⟩) (sm_rd_cons _ _ _ _ _) (by decide +kernel : decode q_st_init.2.1 41 = .ok (.putfield 24, 3)) ?_
  refine c_aload_n (f := 0) G 0 rfl (by decide +kernel : decode q_st_init.2.1 44 = .ok (.aload_n 0, 1)) ?_
  refine c_bipush (v := 23) G (by decide) (by decide +kernel : decode q_st_init.2.1 45 = .ok (.bipush 23, 2)) ?_
  refine c_newa (hi := 73) (atype := .int) (t := 0) (N := 23) G rfl rfl rfl (fun _ _ z => z) rfl (fun k => hz 73 k (by decide)) rfl rfl rfl (by decide +kernel) (sm_dyn.dy hdy rfl) (sm_mq1 78 (by decide +kernel) rfl) (by decide) (by decide) (by decide +kernel) rfl rfl rfl rfl (by decide +kernel : decode q_st_init.2.1 47 = .ok (.newarray .int, 2)) ?_
  refine c_putR (cl := 7) (x := 14) (i := 67) (nn := 6) (ty := .array .int) (rd' := (sm_rd 1 67 [(67, 14), (67, 13), (67, 12), (67, 11), (67, 10), (67, 9)])) G hin ⟨(sm_R7, sm_F7, 18), rfl, Nat.le_of_ble_eq_true rfl, (sm_mq2 125 (by decide +kernel) rfl), rfl, rfl, by decide +kernel⟩ rfl rfl rfl rfl (fun _ => ⟨rfl, rfl⟩) (sm_rd_cons _ _ _ _ _) (by decide +kernel : decode q_st_init.2.1 49 = .ok (.putfield 27, 3)) ?_
  refine c_aload_n (f := 0) G 0 rfl (by decide +kernel : decode q_st_init.2.1 52 = .ok (.aload_n 0, 1)) ?_
  refine c_bipush (v := 23) G (by decide) (by decide +kernel : decode q_st_init.2.1 53 = .ok (.bipush 23, 2)) ?_
  refine c_newa (hi := 74) (atype := .int) (t := 0) (N := 23) G rfl rfl rfl (fun _ _ z => z) rfl (fun k => hz 74 k (by decide)) rfl rfl rfl (by decide +kernel) (sm_dyn.dy hdy rfl) (sm_mq1 78 (by decide +kernel) rfl) (by decide) (by decide) (by decide +kernel) rfl rfl rfl rfl (by decide +kernel : decode q_st_init.2.1 55 = .ok (.newarray .int, 2)) ?_
  refine c_putR (cl := 7) (x := 15) (i := 67) (nn := 7) (ty := .array .int) (rd' := (sm_rd 1 67 [(67, 15), (67, 14), (67, 13), (67, 12), (67, 11), (67, 10), (67, 9)])) G hin ⟨(sm_R7, sm_F7, 18), rfl, Nat.le_of_ble_eq_true rfl, (sm_mq2 127 (by decide +kernel) rfl), rfl, rfl, by decide +kernel⟩ rfl rfl rfl rfl (fun _ => ⟨rfl, rfl⟩) (sm_rd_cons _ _ _ _ _) (by decide +kernel : decode q_st_init.2.1 57 = .ok (.putfield 30, 3)) ?_
  refine c_aload_n (f := 0) G 0 rfl (by decide +kernel : decode q_st_init.2.1 60 = .ok (.aload_n 0, 1)) ?_
  refine c_new (hi := 75) (cl := 0) (N := 4) (C := "SmokeControl$Alarms") (z := (sm_R0, sm_F0, 4)) G rfl rfl rfl rfl (fun k => hz 75 k (by decide)) (fun _ => rfl) rfl rfl rfl (by decide +kernel) (sm_dyn.dy hdy rfl) (sm_mq2 14 (by decide +kernel) rfl) (sm_mq2 15 (by decide +kernel) rfl) (sm_mq1 7 (by decide +kernel) rfl) rfl rfl rfl rfl (by decide +kernel : decode q_st_init.2.1 61 = .ok (.new 33, 3)) ?_
  refine c_dup G rfl (by decide +kernel : decode q_st_init.2.1 64 = .ok (.dup, 1)) ?_
  refine c_ctorN (d := 20) (mc := 0) (ms := 0) (lo' := 75) (hi2 := 76) (b := 75) (As := []) (rdc := (sm_rd 75 75 [])) (rd2 := (sm_rd 75 76 [])) (rd' := (sm_rd 1 67 [(67, 15), (67, 14), (67, 13), (67, 12), (67, 11), (67, 10), (67, 9)])) (h2 := h) G ck_st_35 (k_al_75 l (fun i k z => hz i k (by omega)) (hdy.mono (by decide))) rfl (by decide +kernel) (by decide +kernel) rfl (by decide +kernel) (by decide +kernel) (sm_dyn.dyB hdy rfl) (by decide +kernel) (by decide +kernel) (fun _ _ _ => rfl) rfl rfl (by decide +kernel : decode q_st_init.2.1 65 = .ok (.invokespecial 35, 3)) ?_
  refine c_putR (cl := 7) (x := 16) (i := 67) (nn := 8) (ty := .object "SmokeControl$Alarms") (rd' := (sm_rd 1 67 [(67, 16), (67, 15), (67, 14), (67, 13), (67, 12), (67, 11), (67, 10), (67, 9)])) G hin ⟨(sm_R7, sm_F7, 18), rfl, Nat.le_of_ble_eq_true rfl, (sm_mq2 129 (by decide +kernel) rfl), rfl, rfl, by decide +kernel⟩ rfl rfl rfl rfl (fun _ => ⟨rfl, rfl⟩) (sm_rd_cons _ _ _ _ _) (by decide +kernel : decode q_st_init.2.1 68 = .ok (.putfield 36, 3)) ?_
  refine c_aload_n (f := 0) G 0 rfl (by decide +kernel : decode q_st_init.2.1 71 = .ok (.aload_n 0, 1)) ?_
  refine c_new (hi := 76) (cl := 3) (N := 4) (C := "SmokeControl$Log") (z := (sm_R3, sm_F3, 4)) G rfl rfl rfl rfl (fun k => hz 76 k (by decide)) (fun _ => rfl) rfl rfl rfl (by decide +kernel) (sm_dyn.dy hdy rfl) (sm_mq2 39 (by decide +kernel) rfl) (sm_mq2 40 (by decide +kernel) rfl) (sm_mq1 8 (by decide +kernel) rfl) rfl rfl rfl rfl (by decide +kernel : decode q_st_init.2.1 72 = .ok (.new 40, 3)) ?_
  refine c_dup G rfl (by decide +kernel : decode q_st_init.2.1 75 = .ok (.dup, 1)) ?_
  refine c_ctorN (d := 20) (mc := 3) (ms := 150) (lo' := 76) (hi2 := 80) (b := 76) (As := []) (rdc := (sm_rd 76 76 [])) (rd2 := (sm_rd 76 80 [])) (rd' := (sm_rd 1 67 [(76, 1), (76, 2), (76, 3), (67, 16), (67, 15), (67, 14), (67, 13), (67, 12), (67, 11), (67, 10), (67, 9)])) (h2 := h) G ck_st_42 (k_lo_76 l (fun i k z => hz i k (by omega)) (hdy.mono (by decide))) rfl (by decide +kernel) (by decide +kernel) rfl (by decide +kernel) (by decide +kernel) (sm_dyn.dyB hdy rfl) (by decide +kernel) (by decide +kernel) (fun _ _ _ => rfl) rfl rfl (by decide +kernel : decode q_st_init.2.1 76 = .ok (.invokespecial 42, 3)) ?_
  refine c_putR (cl := 7) (x := 17) (i := 67) (nn := 9) (ty := .object "SmokeControl$Log") (rd' := (sm_rd 1 67 [(67, 17), (76, 1), (76, 2), (76, 3), (67, 16), (67, 15), (67, 14), (67, 13), (67, 12), (67, 11), (67, 10), (67, 9)])) G hin ⟨(sm_R7, sm_F7, 18), rfl, Nat.le_of_ble_eq_true rfl, (sm_mq2 133 (by decide +kernel) rfl), rfl, rfl, by decide +kernel⟩ rfl rfl rfl rfl (fun _ => ⟨rfl, rfl⟩) (sm_rd_cons _ _ _ _ _) (by decide +kernel : decode q_st_init.2.1 79 = .ok (.putfield 43, 3)) ?_
  refine c_aload_n (f := 0) G 0 rfl (by decide +kernel : decode q_st_init.2.1 82 = .ok (.aload_n 0, 1)) ?_
  refine c_aload_n (f := 1) G 1 rfl (by decide +kernel : decode q_st_init.2.1 83 = .ok (.aload_n 1, 1)) ?_
  refine c_callV (lo' := 1) (hi' := 80) (b := 67) (d := (0 + 1)) (cl := 7) (z := (sm_R7, sm_F7, 18)) (As := [.ref 1]) (rv := none) (h1 := (sm_ib 67 1 h)) G cvv_st_47 rfl rfl rfl (m_st_begin l 1 80 0 ⟨by decide, by decide⟩ (sm_atD (by decide +kernel)) (sm_atD (by decide +kernel)) (p_st_begin (by decide) rfl hz hpd)) rfl (by decide +kernel) rfl (by decide +kernel) (by decide +kernel) (by decide +kernel) (fun i _ _ z => sm_ib_fr (by omega)) (by decide +kernel : decode q_st_init.2.1 84 = .ok (.invokevirtual 47, 3)) ?_
  exact c_vret G hr hlk (by decide +kernel) (by decide +kernel : decode q_st_init.2.1 87 = .ok (.return_, 1))
theorem k_al_88 (l : Launch) {h : sm_H} (hz : ∀ i k, 88 < i → h i k = 0) (hdy : sm_dyn 89 h) : sm_MetC l 88 89 (sm_rd 88 88 []) 20 0 0 q_al_init [.ref 88] h 89 (sm_rd 88 89 []) h := by
  refine sm_MetC.of (by decide +kernel) rfl rfl rfl ?_
  intro base sz E p e s m args below meth c G hin hr hlk
  show sm_C p l e (sm_rmC 20 0 0) s m args below meth c _ _ E 89 _ 88 89 (sm_rd 88 88 []) 0 0 0 [(0, .ref 88)] [] h
  refine c_aload_n (f := 0) G 0 rfl (by decide +kernel : decode q_al_init.2.1 0 = .ok (.aload_n 0, 1)) ?_
  refine c_obj G (sm_mq2 19 (by decide +kernel) rfl) ⟨by decide, by decide⟩ (by decide +kernel : decode q_al_init.2.1 1 = .ok (.invokespecial 3, 3)) ?_
  exact c_vret G hr hlk (by decide +kernel) (by decide +kernel : decode q_al_init.2.1 4 = .ok (.return_, 1))
theorem k_lo_89 (l : Launch) {h : sm_H} (hz : ∀ i k, 89 < i → h i k = 0) (hdy : sm_dyn 90 h) : sm_MetC l 89 90 (sm_rd 89 89 []) 20 3 150 q_lo_init [.ref 89] h 93 (sm_rd 89 93 []) h := by
  refine sm_MetC.of (by decide +kernel) rfl rfl rfl ?_
  intro base sz E p e s m args below meth c G hin hr hlk
  show sm_C p l e (sm_rmC 20 3 150) s m args below meth c _ _ E 90 _ 89 90 (sm_rd 89 89 []) 0 0 0 [(0, .ref 89)] [] h
  refine c_aload_n (f := 0) G 0 rfl (by decide +kernel : decode q_lo_init.2.1 0 = .ok (.aload_n 0, 1)) ?_
  refine c_obj G (sm_mq2 44 (by decide +kernel) rfl) ⟨by decide, by decide⟩ (by decide +kernel : decode q_lo_init.2.1 1 = .ok (.invokespecial 1, 3)) ?_
  refine c_aload_n (f := 0) G 0 rfl (by decide +kernel : decode q_lo_init.2.1 4 = .ok (.aload_n 0, 1)) ?_
  refine c_bipush (v := 50) G (by decide) (by decide +kernel : decode q_lo_init.2.1 5 = .ok (.bipush 50, 2)) ?_
  refine c_newa (hi := 90) (atype := .int) (t := 0) (N := 50) G rfl rfl rfl (fun _ _ z => z) rfl (fun k => hz 90 k (by decide)) rfl rfl rfl (by decide +kernel) (sm_dyn.dy hdy rfl) (sm_mq1 78 (by decide +kernel) rfl) (by decide) (by decide) (by decide +kernel) rfl rfl rfl rfl (by decide +kernel : decode q_lo_init.2.1 7 = .ok (.newarray .int, 2)) ?_
  refine c_putR (cl := 3) (x := 1) (i := 89) (nn := 1) (ty := .array .int) (rd' := (sm_rd 89 89 [(89, 1)])) G hin ⟨(sm_R3, sm_F3, 4), rfl, Nat.le_of_ble_eq_true rfl, (sm_mq2 47 (by decide +kernel) rfl), rfl, rfl, by decide +kernel⟩ rfl rfl rfl rfl (fun _ => ⟨rfl, rfl⟩) (sm_rd_cons _ _ _ _ _) (by decide +kernel : decode q_lo_init.2.1 9 = .ok (.putfield 9, 3)) ?_
  refine c_aload_n (f := 0) G 0 rfl (by decide +kernel : decode q_lo_init.2.1 12 = .ok (.aload_n 0, 1)) ?_
  refine c_bipush (v := 50) G (by decide) (by decide +kernel : decode q_lo_init.2.1 13 = .ok (.bipush 50, 2)) ?_
  refine c_newa (hi := 91) (atype := .int) (t := 0) (N := 50) G rfl rfl rfl (fun _ _ z => z) rfl (fun k => hz 91 k (by decide)) rfl rfl rfl (by decide +kernel) (sm_dyn.dy hdy rfl) (sm_mq1 78 (by decide +kernel) rfl) (by decide) (by decide) (by decide +kernel) rfl rfl rfl rfl (by decide +kernel : decode q_lo_init.2.1 15 = .ok (.newarray .int, 2)) ?_
  refine c_putR (cl := 3) (x := 2) (i := 89) (nn := 2) (ty := .array .int) (rd' := (sm_rd 89 89 [(89, 2), (89, 1)])) G hin ⟨(sm_R3, sm_F3, 4), rfl, Nat.le_of_ble_eq_true rfl, (sm_mq2 49 (by decide +kernel) rfl), rfl, rfl, by decide +kernel⟩ rfl rfl rfl rfl (fun _ => ⟨rfl, rfl⟩) (sm_rd_cons _ _ _ _ _) (by decide +kernel : decode q_lo_init.2.1 17 = .ok (.putfield 13, 3)) ?_
  refine c_aload_n (f := 0) G 0 rfl (by decide +kernel : decode q_lo_init.2.1 20 = .ok (.aload_n 0, 1)) ?_
  refine c_bipush (v := 50) G (by decide) (by decide +kernel : decode q_lo_init.2.1 21 = .ok (.bipush 50, 2)) ?_
  refine c_newa (hi := 92) (atype := .int) (t := 0) (N := 50) G rfl rfl rfl (fun _ _ z => z) rfl (fun k => hz 92 k (by decide)) rfl rfl rfl (by decide +kernel) (sm_dyn.dy hdy rfl) (sm_mq1 78 (by decide +kernel) rfl) (by decide) (by decide) (by decide +kernel) rfl rfl rfl rfl (by decide +kernel : decode q_lo_init.2.1 23 = .ok (.newarray .int, 2)) ?_
  refine c_putR (cl := 3) (x := 3) (i := 89) (nn := 3) (ty := .array .int) (rd' := (sm_rd 89 89 [(89, 3), (89, 2), (89, 1)])) G hin ⟨(sm_R3, sm_F3, 4), rfl, Nat.le_of_ble_eq_true rfl, (sm_mq2 51 (by decide +kernel) rfl), rfl, rfl, by decide +kernel⟩ rfl rfl rfl rfl (fun _ => ⟨rfl, rfl⟩) (sm_rd_cons _ _ _ _ _) (by decide +kernel : decode q_lo_init.2.1 25 = .ok (.putfield 16, 3)) ?_
  exact c_vret G hr hlk (by decide +kernel) (by decide +kernel : decode q_lo_init.2.1 28 = .ok (.return_, 1))
theorem k_st_80 (l : Launch) {h : sm_H} (hz : ∀ i k, 80 ≤ i → h i k = 0) (hdy : sm_dyn 81 h) (hpd : h 1 1 = 0) : sm_MetC l 1 81 (sm_rd 1 80 []) 40 12 289 q_st_init [.ref 80, .ref 1] h 93 (sm_rd 1 93 []) (sm_ib 80 1 h) := by
  refine sm_MetC.of (by decide +kernel) rfl rfl rfl ?_
  intro base sz E p e s m args below meth c G hin hr hlk
  show sm_C p l e (sm_rmC 40 12 289) s m args below meth c _ _ E 81 _ 1 81 (sm_rd 1 80 []) 0 0 0 [(0, .ref 80), (1, .ref 1)] [] h
  refine c_aload_n (f := 0) G 0 rfl (by decide +kernel : decode q_st_init.2.1 0 = .ok (.aload_n 0, 1)) ?_
  refine c_obj G (sm_mq2 13 (by decide +kernel) rfl) ⟨by decide, by decide⟩ (by decide +kernel : decode q_st_init.2.1 1 = .ok (.invokespecial 3, 3)) ?_
  refine c_aload_n (f := 0) G 0 rfl (by decide +kernel : decode q_st_init.2.1 4 = .ok (.aload_n 0, 1)) ?_
  refine c_bipush (v := 8) G (by decide) (by decide +kernel : decode q_st_init.2.1 5 = .ok (.bipush 8, 2)) ?_
  refine c_newa (hi := 81) (atype := .int) (t := 0) (N := 8) G rfl rfl rfl (fun _ _ z => z) rfl (fun k => hz 81 k (by decide)) rfl rfl rfl (by decide +kernel) (sm_dyn.dy hdy rfl) (sm_mq1 78 (by decide +kernel) rfl) (by decide) (by decide) (by decide +kernel) rfl rfl rfl rfl (by decide +kernel : decode q_st_init.2.1 7 = .ok (.newarray .int, 2)) ?_
  refine c_putR (cl := 7) (x := 9) (i := 80) (nn := 1) (ty := .array .int) (rd' := (sm_rd 1 80 [(80, 9)])) G hin ⟨(sm_R7, sm_F7, 18), rfl, Nat.le_of_ble_eq_true rfl, (sm_mq2 108 (by decide +kernel) rfl), rfl, rfl, by decide +kernel⟩ rfl rfl rfl rfl (fun _ => ⟨rfl, rfl⟩) (sm_rd_cons _ _ _ _ _) (by decide +kernel : decode q_st_init.2.1 9 = .ok (.putfield 9, 3)) ?_
  refine c_aload_n (f := 0) G 0 rfl (by decide +kernel : decode q_st_init.2.1 12 = .ok (.aload_n 0, 1)) ?_
  refine c_bipush (v := 8) G (by decide) (by decide +kernel : decode q_st_init.2.1 13 = .ok (.bipush 8, 2)) ?_
  refine c_newa (hi := 82) (atype := .int) (t := 0) (N := 8) G rfl rfl rfl (fun _ _ z => z) rfl (fun k => hz 82 k (by decide)) rfl rfl rfl (by decide +kernel) (sm_dyn.dy hdy rfl) (sm_mq1 78 (by decide +kernel) rfl) (by decide) (by decide) (by decide +kernel) rfl rfl rfl rfl (by decide +kernel : decode q_st_init.2.1 15 = .ok (.newarray .int, 2)) ?_
  refine c_putR (cl := 7) (x := 10) (i := 80) (nn := 2) (ty := .array .int) (rd' := (sm_rd 1 80 [(80, 10), (80, 9)])) G hin ⟨(sm_R7, sm_F7, 18), rfl, Nat.le_of_ble_eq_true rfl, (sm_mq2 112 (by decide +kernel) rfl), rfl, rfl, by decide +kernel⟩ rfl rfl rfl rfl (fun _ => ⟨rfl, rfl⟩) (sm_rd_cons _ _ _ _ _) (by decide +kernel : decode q_st_init.2.1 17 = .ok (.putfield 15, 3)) ?_
  refine c_aload_n (f := 0) G 0 rfl (by decide +kernel : decode q_st_init.2.1 20 = .ok (.aload_n 0, 1)) ?_
  refine c_bipush (v := 23) G (by decide) (by decide +kernel : decode q_st_init.2.1 21 = .ok (.bipush 23, 2)) ?_
  refine c_newa (hi := 83) (atype := .int) (t := 0) (N := 23) G rfl rfl rfl (fun _ _ z => z) rfl (fun k => hz 83 k (by decide)) rfl rfl rfl (by decide +kernel) (sm_dyn.dy hdy rfl) (sm_mq1 78 (by decide +kernel) rfl) (by decide) (by decide) (by decide +kernel) rfl rfl rfl rfl (by decide +kernel : decode q_st_init.2.1 23 = .ok (.newarray .int, 2)) ?_
  refine c_putR (cl := 7) (x := 11) (i := 80) (nn := 3) (ty := .array .int) (rd' := (sm_rd 1 80 [(80, 11), (80, 10), (80, 9)])) G hin ⟨(sm_R7, sm_F7, 18), rfl, Nat.le_of_ble_eq_true rfl, (sm_mq2 115 (by decide +kernel) rfl), rfl, rfl, by decide +kernel⟩ rfl rfl rfl rfl (fun _ => ⟨rfl, rfl⟩) (sm_rd_cons _ _ _ _ _) (by decide +kernel : decode q_st_init.2.1 25 = .ok (.putfield 18, 3)) ?_
  refine c_aload_n (f := 0) G 0 rfl (by decide +kernel : decode q_st_init.2.1 28 = .ok (.aload_n 0, 1)) ?_
  refine c_bipush (v := 23) G (by decide) (by decide +kernel : decode q_st_init.2.1 29 = .ok (.bipush 23, 2)) ?_
  refine c_newa (hi := 84) (atype := .int) (t := 0) (N := 23) G rfl rfl rfl (fun _ _ z => z) rfl (fun k => hz 84 k (by decide)) rfl rfl rfl (by decide +kernel) (sm_dyn.dy hdy rfl) (sm_mq1 78 (by decide +kernel) rfl) (by decide) (by decide) (by decide +kernel) rfl rfl rfl rfl (by decide +kernel : decode q_st_init.2.1 31 = .ok (.newarray .int, 2)) ?_
  refine c_putR (cl := 7) (x := 12) (i := 80) (nn := 4) (ty := .array .int) (rd' := (sm_rd 1 80 [(80, 12), (80, 11), (80, 10), (80, 9)])) G hin ⟨(sm_R7, sm_F7, 18), rfl, Nat.le_of_ble_eq_true rfl, (sm_mq2 119 (by decide +kernel) rfl), rfl, rfl, by decide +kernel⟩ rfl rfl rfl rfl (fun _ => ⟨rfl, rfl⟩) (sm_rd_cons _ _ _ _ _) (by decide +kernel : decode q_st_init.2.1 33 = .ok (.putfield 21, 3)) ?_
  refine c_aload_n (f := 0) G 0 rfl (by decide +kernel : decode q_st_init.2.1 36 = .ok (.aload_n 0, 1)) ?_
  refine c_bipush (v := 23) G (by decide) (by decide +kernel : decode q_st_init.2.1 37 = .ok (.bipush 23, 2)) ?_
  refine c_newa (hi := 85) (atype := .int) (t := 0) (N := 23) G rfl rfl rfl (fun _ _ z => z) rfl (fun k => hz 85 k (by decide)) rfl rfl rfl (by decide +kernel) (sm_dyn.dy hdy rfl) (sm_mq1 78 (by decide +kernel) rfl) (by decide) (by decide) (by decide +kernel) rfl rfl rfl rfl (by decide +kernel : decode q_st_init.2.1 39 = .ok (.newarray .int, 2)) ?_
  refine c_putR (cl := 7) (x := 13) (i := 80) (nn := 5) (ty := .array .int) (rd' := (sm_rd 1 80 [(80, 13), (80, 12), (80, 11), (80, 10), (80, 9)])) G hin ⟨(sm_R7, sm_F7, 18), rfl, Nat.le_of_ble_eq_true rfl, (sm_mq2 122 (by decide +kernel) rfl), rfl, rfl, by decide +kernel⟩ rfl rfl rfl rfl (fun _ => ⟨rfl, rfl⟩) (sm_rd_cons _ _ _ _ _) (by decide +kernel : decode q_st_init.2.1 41 = .ok (.putfield 24, 3)) ?_
  refine c_aload_n (f := 0) G 0 rfl (by decide +kernel : decode q_st_init.2.1 44 = .ok (.aload_n 0, 1)) ?_
  refine c_bipush (v := 23) G (by decide) (by decide +kernel : decode q_st_init.2.1 45 = .ok (.bipush 23, 2)) ?_
  refine c_newa (hi := 86) (atype := .int) (t := 0) (N := 23) G rfl rfl rfl (fun _ _ z => z) rfl (fun k => hz 86 k (by decide)) rfl rfl rfl (by decide +kernel) (sm_dyn.dy hdy rfl) (sm_mq1 78 (by decide +kernel) rfl) (by decide) (by decide) (by decide +kernel) rfl rfl rfl rfl (by decide +kernel : decode q_st_init.2.1 47 = .ok (.newarray .int, 2)) ?_
  refine c_putR (cl := 7) (x := 14) (i := 80) (nn := 6) (ty := .array .int) (rd' := (sm_rd 1 80 [(80, 14), (80, 13), (80, 12), (80, 11), (80, 10), (80, 9)])) G hin ⟨(sm_R7, sm_F7, 18), rfl, Nat.le_of_ble_eq_true rfl, (sm_mq2 125 (by decide +kernel) rfl), rfl, rfl, by decide +kernel⟩ rfl rfl rfl rfl (fun _ => ⟨rfl, rfl⟩) (sm_rd_cons _ _ _ _ _) (by decide +kernel : decode q_st_init.2.1 49 = .ok (.putfield 27, 3)) ?_
  refine c_aload_n (f := 0) G 0 rfl (by decide +kernel : decode q_st_init.2.1 52 = .ok (.aload_n 0, 1)) ?_
  refine c_bipush (v := 23) G (by decide) (by decide +kernel : decode q_st_init.2.1 53 = .ok (.bipush 23, 2)) ?_
  refine c_newa (hi := 87) (atype := .int) (t := 0) (N := 23) G rfl rfl rfl (fun _ _ z => z) rfl (fun k => hz 87 k (by decide)) rfl rfl rfl (by decide +kernel) (sm_dyn.dy hdy rfl) (sm_mq1 78 (by decide +kernel) rfl) (by decide) (by decide) (by decide +kernel) rfl rfl rfl rfl (by decide +kernel : decode q_st_init.2.1 55 = .ok (.newarray .int, 2)) ?_
  refine c_putR (cl := 7) (x := 15) (i := 80) (nn := 7) (ty := .array .int) (rd' := (sm_rd 1 80 [(80, 15), (80, 14), (80, 13), (80, 12), (80, 11), (80, 10), (80, 9)])) G hin ⟨(sm_R7, sm_F7, 18), rfl, Nat.le_of_ble_eq_true rfl, (sm_mq2 127 (by decide +kernel) rfl), rfl, rfl, by decide +kernel⟩ rfl rfl rfl rfl (fun _ => ⟨rfl, rfl⟩) (sm_rd_cons _ _ _ _ _) (by decide +kernel : decode q_st_init.2.1 57 = .ok (.putfield 30, 3)) ?_
  refine c_aload_n (f := 0) G 0 rfl (by decide +kernel : decode q_st_init.2.1 60 = .ok (.aload_n 0, 1)) ?_
  refine c_new (hi := 88) (cl := 0) (N := 4) (C := "SmokeControl$Alarms") (z := (sm_R0, sm_F0, 4)) G rfl rfl rfl rfl (fun k => hz 88 k (by decide)) (fun _ => rfl) rfl rfl rfl (by decide +kernel) (sm_dyn.dy hdy rfl) (sm_mq2 14 (by decide +kernel) rfl) (sm_mq2 15 (by decide +kernel) rfl) (sm_mq1 7 (by decide +kernel) rfl) rfl rfl rfl rfl (by decide +kernel : decode q_st_init.2.1 61 = .ok (.new 33, 3)) ?_
  refine c_dup G rfl (by decide +kernel : decode q_st_init.2.1 64 = .ok (.dup, 1)) ?_
  refine c_ctorN (d := 20) (mc := 0) (ms := 0) (lo' := 88) (hi2 := 89) (b := 88) (As := []) (rdc := (sm_rd 88 88 [])) (rd2 := (sm_rd 88 89 [])) (rd' := (sm_rd 1 80 [(80, 15), (80, 14), (80, 13), (80, 12), (80, 11), (80, 10), (80, 9)])) (h2 := h) G ck_st_35 (k_al_88 l (fun i k z => hz i k (by omega)) (hdy.mono (by decide))) rfl (by decide +kernel) (by decide +kernel) rfl (by decide +kernel) (by decide +kernel) (sm_dyn.dyB hdy rfl) (by decide +kernel) (by decide +kernel) (fun _ _ _ => rfl) rfl rfl (by decide +kernel : decode q_st_init.2.1 65 = .ok (.invokespecial 35, 3)) ?_
  refine c_putR (cl := 7) (x := 16) (i := 80) (nn := 8) (ty := .object "SmokeControl$Alarms") (rd' := (sm_rd 1 80 [(80, 16), (80, 15), (80, 14), (80, 13), (80, 12), (80, 11), (80, 10), (80, 9)])) G hin ⟨(sm_R7, sm_F7, 18), rfl, Nat.le_of_ble_eq_true rfl, (sm_mq2 129 (by decide +kernel) rfl), rfl, rfl, by decide +kernel⟩ rfl rfl rfl rfl (fun _ => ⟨rfl, rfl⟩) (sm_rd_cons _ _ _ _ _) (by decide +kernel : decode q_st_init.2.1 68 = .ok (.putfield 36, 3)) ?_
  refine c_aload_n (f := 0) G 0 rfl (by decide +kernel : decode q_st_init.2.1 71 = .ok (.aload_n 0, 1)) ?_
  refine c_new (hi := 89) (cl := 3) (N := 4) (C := "SmokeControl$Log") (z := (sm_R3, sm_F3, 4)) G rfl rfl rfl rfl (fun k => hz 89 k (by decide)) (fun _ => rfl) rfl rfl rfl (by decide +kernel) (sm_dyn.dy hdy rfl) (sm_mq2 39 (by decide +kernel) rfl) (sm_mq2 40 (by decide +kernel) rfl) (sm_mq1 8 (by decide +kernel) rfl) rfl rfl rfl rfl (by decide +kernel : decode q_st_init.2.1 72 = .ok (.new 40, 3)) ?_
  refine c_dup G rfl (by decide +kernel : decode q_st_init.2.1 75 = .ok (.dup, 1)) ?_
  refine c_ctorN (d := 20) (mc := 3) (ms := 150) (lo' := 89) (hi2 := 93) (b := 89) (As := []) (rdc := (sm_rd 89 89 [])) (rd2 := (sm_rd 89 93 [])) (rd' := (sm_rd 1 80 [(89, 1), (89, 2), (89, 3), (80, 16), (80, 15), (80, 14), (80, 13), (80, 12), (80, 11), (80, 10), (80, 9)])) (h2 := h) G ck_st_42 (k_lo_89 l (fun i k z => hz i k (by omega)) (hdy.mono (by decide))) rfl (by decide +kernel) (by decide +kernel) rfl (by decide +kernel) (by decide +kernel) (sm_dyn.dyB hdy rfl) (by decide +kernel) (by decide +kernel) (fun _ _ _ => rfl) rfl rfl (by decide +kernel : decode q_st_init.2.1 76 = .ok (.invokespecial 42, 3)) ?_
  refine c_putR (cl := 7) (x := 17) (i := 80) (nn := 9) (ty := .object "SmokeControl$Log") (rd' := (sm_rd 1 80 [(80, 17), (89, 1), (89, 2), (89, 3), (80, 16), (80, 15), (80, 14), (80, 13), (80, 12), (80, 11), (80, 10), (80, 9)])) G hin ⟨(sm_R7, sm_F7, 18), rfl, Nat.le_of_ble_eq_true rfl, (sm_mq2 133 (by decide +kernel) rfl), rfl, rfl, by decide +kernel⟩ rfl rfl rfl rfl (fun _ => ⟨rfl, rfl⟩) (sm_rd_cons _ _ _ _ _) (by decide +kernel : decode q_st_init.2.1 79 = .ok (.putfield 43, 3)) ?_
  refine c_aload_n (f := 0) G 0 rfl (by decide +kernel : decode q_st_init.2.1 82 = .ok (.aload_n 0, 1)) ?_
  refine c_aload_n (f := 1) G 1 rfl (by decide +kernel : decode q_st_init.2.1 83 = .ok (.aload_n 1, 1)) ?_
  refine c_callV (lo' := 1) (hi' := 93) (b := 80) (d := (0 + 1)) (cl := 7) (z := (sm_R7, sm_F7, 18)) (As := [.ref 1]) (rv := none) (h1 := (sm_ib 80 1 h)) G cvv_st_47 rfl rfl rfl (m_st_begin l 1 93 0 ⟨by decide, by decide⟩ (sm_atD (by decide +kernel)) (sm_atD (by decide +kernel)) (p_st_begin (by decide) rfl hz hpd)) rfl (by decide +kernel) rfl (by decide +kernel) (by decide +kernel) (by decide +kernel) (fun i _ _ z => sm_ib_fr (by omega)) (by decide +kernel : decode q_st_init.2.1 84 = .ok (.invokevirtual 47, 3)) ?_
  exact c_vret G hr hlk (by decide +kernel) (by decide +kernel : decode q_st_init.2.1 87 = .ok (.return_, 1))
theorem k_al_101 (l : Launch) {h : sm_H} (hz : ∀ i k, 101 < i → h i k = 0) (hdy : sm_dyn 102 h) : sm_MetC l 101 102 (sm_rd 101 101 []) 20 0 0 q_al_init [.ref 101] h 102 (sm_rd 101 102 []) h := by
  refine sm_MetC.of (by decide +kernel) rfl rfl rfl ?_
  intro base sz E p e s m args below meth c G hin hr hlk
  show sm_C p l e (sm_rmC 20 0 0) s m args below meth c _ _ E 102 _ 101 102 (sm_rd 101 101 []) 0 0 0 [(0, .ref 101)] [] h
  refine c_aload_n (f := 0) G 0 rfl (by decide +kernel : decode q_al_init.2.1 0 = .ok (.aload_n 0, 1)) ?_
  refine c_obj G (sm_mq2 19 (by decide +kernel) rfl) ⟨by decide, by decide⟩ (by decide +kernel : decode q_al_init.2.1 1 = .ok (.invokespecial 3, 3)) ?_
  exact c_vret G hr hlk (by decide +kernel) (by decide +kernel : decode q_al_init.2.1 4 = .ok (.return_, 1))
theorem k_lo_102 (l : Launch) {h : sm_H} (hz : ∀ i k, 102 < i → h i k = 0) (hdy : sm_dyn 103 h) : sm_MetC l 102 103 (sm_rd 102 102 []) 20 3 150 q_lo_init [.ref 102] h 106 (sm_rd 102 106 []) h := by
  refine sm_MetC.of (by decide +kernel) rfl rfl rfl ?_
  intro base sz E p e s m args below meth c G hin hr hlk
  show sm_C p l e (sm_rmC 20 3 150) s m args below meth c _ _ E 103 _ 102 103 (sm_rd 102 102 []) 0 0 0 [(0, .ref 102)] [] h
  refine c_aload_n (f := 0) G 0 rfl (by decide +kernel : decode q_lo_init.2.1 0 = .ok (.aload_n 0, 1)) ?_
  refine c_obj G (sm_mq2 44 (by decide +kernel) rfl) ⟨by decide, by decide⟩ (by decide +kernel : decode q_lo_init.2.1 1 = .ok (.invokespecial 1, 3)) ?_
  refine c_aload_n (f := 0) G 0 rfl (by decide +kernel : decode q_lo_init.2.1 4 = .ok (.aload_n 0, 1)) ?_
  refine c_bipush (v := 50) G (by decide) (by decide +kernel : decode q_lo_init.2.1 5 = .ok (.bipush 50, 2)) ?_
  refine c_newa (hi := 103) (atype := .int) (t := 0) (N := 50) G rfl rfl rfl (fun _ _ z => z) rfl (fun k => hz 103 k (by decide)) rfl rfl rfl (by decide +kernel) (sm_dyn.dy hdy rfl) (sm_mq1 78 (by decide +kernel) rfl) (by decide) (by decide) (by decide +kernel) rfl rfl rfl rfl (by decide +kernel : decode q_lo_init.2.1 7 = .ok (.newarray .int, 2)) ?_
  refine c_putR (cl := 3) (x := 1) (i := 102) (nn := 1) (ty := .array .int) (rd' := (sm_rd 102 102 [(102, 1)])) G hin ⟨(sm_R3, sm_F3, 4), rfl, Nat.le_of_ble_eq_true rfl, (sm_mq2 47 (by decide +kernel) rfl), rfl, rfl, by decide +kernel⟩ rfl rfl rfl rfl (fun _ => ⟨rfl, rfl⟩) (sm_rd_cons _ _ _ _ _) (by decide +kernel : decode q_lo_init.2.1 9 = .ok (.putfield 9, 3)) ?_
  refine c_aload_n (f := 0) G 0 rfl (by decide +kernel : decode q_lo_init.2.1 12 = .ok (.aload_n 0, 1)) ?_
  refine c_bipush (v := 50) G (by decide) (by decide +kernel : decode q_lo_init.2.1 13 = .ok (.bipush 50, 2)) ?_
  refine c_newa (hi := 104) (atype := .int) (t := 0) (N := 50) G rfl rfl rfl (fun _ _ z => z) rfl (fun k => hz 104 k (by decide)) rfl rfl rfl (by decide +kernel) (sm_dyn.dy hdy rfl) (sm_mq1 78 (by decide +kernel) rfl) (by decide) (by decide) (by decide +kernel) rfl rfl rfl rfl (by decide +kernel : decode q_lo_init.2.1 15 = .ok (.newarray .int, 2)) ?_
  refine c_putR (cl := 3) (x := 2) (i := 102) (nn := 2) (ty := .array .int) (rd' := (sm_rd 102 102 [(102, 2), (102, 1)])) G hin ⟨(sm_R3, sm_F3, 4), rfl, Nat.le_of_ble_eq_true rfl, (sm_mq2 49 (by decide +kernel) rfl), rfl, rfl, by decide +kernel⟩ rfl rfl rfl rfl (fun _ => ⟨rfl, rfl⟩) (sm_rd_cons _ _ _ _ _) (by decide +kernel : decode q_lo_init.2.1 17 = .ok (.putfield 13, 3)) ?_
  refine c_aload_n (f := 0) G 0 rfl (by decide +kernel : decode q_lo_init.2.1 20 = .ok (.aload_n 0, 1)) ?_
  refine c_bipush (v := 50) G (by decide) (by decide +kernel : decode q_lo_init.2.1 21 = .ok (.bipush 50, 2)) ?_
  refine c_newa (hi := 105) (atype := .int) (t := 0) (N := 50) G rfl rfl rfl (fun _ _ z => z) rfl (fun k => hz 105 k (by decide)) rfl rfl rfl (by decide +kernel) (sm_dyn.dy hdy rfl) (sm_mq1 78 (by decide +kernel) rfl) (by decide) (by decide) (by decide +kernel) rfl rfl rfl rfl (by decide +kernel : decode q_lo_init.2.1 23 = .ok (.newarray .int, 2)) ?_
  refine c_putR (cl := 3) (x := 3) (i := 102) (nn := 3) (ty := .array .int) (rd' := (sm_rd 102 102 [(102, 3), (102, 2), (102, 1)])) G hin ⟨(sm_R3, sm_F3, 4), rfl, Nat.le_of_ble_eq_true rfl, (sm_mq2 51 (by decide +kernel) rfl), rfl, rfl, by decide +kernel⟩ rfl rfl rfl rfl (fun _ => ⟨rfl, rfl⟩) (sm_rd_cons _ _ _ _ _) (by decide +kernel : decode q_lo_init.2.1 25 = .ok (.putfield 16, 3)) ?_
  exact c_vret G hr hlk (by decide +kernel) (by decide +kernel : decode q_lo_init.2.1 28 = .ok (.return_, 1))
theorem k_st_93 (l : Launch) {h : sm_H} (hz : ∀ i k, 93 ≤ i → h i k = 0) (hdy : sm_dyn 94 h) (hpd : h 1 1 = 0) : sm_MetC l 1 94 (sm_rd 1 93 []) 40 12 289 q_st_init [.ref 93, .ref 1] h 106 (sm_rd 1 106 []) (sm_ib 93 1 h) := by
  refine sm_MetC.of (by decide +kernel) rfl rfl rfl ?_
  intro base sz E p e s m args below meth c G hin hr hlk
  show sm_C p l e (sm_rmC 40 12 289) s m args below meth c _ _ E 94 _ 1 94 (sm_rd 1 93 []) 0 0 0 [(0, .ref 93), (1, .ref 1)] [] h
  refine c_aload_n (f := 0) G 0 rfl (by decide +kernel : decode q_st_init.2.1 0 = .ok (.aload_n 0, 1)) ?_
  refine c_obj G (sm_mq2 13 (by decide +kernel) rfl) ⟨by decide, by decide⟩ (by decide +kernel : decode q_st_init.2.1 1 = .ok (.invokespecial 3, 3)) ?_
  refine c_aload_n (f := 0) G 0 rfl (by decide +kernel : decode q_st_init.2.1 4 = .ok (.aload_n 0, 1)) ?_
  refine c_bipush (v := 8) G (by decide) (by decide +kernel : decode q_st_init.2.1 5 = .ok (.bipush 8, 2)) ?_
  refine c_newa (hi := 94) (atype := .int) (t := 0) (N := 8) G rfl rfl rfl (fun _ _ z => z) rfl (fun k => hz 94 k (by decide)) rfl rfl rfl (by decide +kernel) (sm_dyn.dy hdy rfl) (sm_mq1 78 (by decide +kernel) rfl) (by decide) (by decide) (by decide +kernel) rfl rfl rfl rfl (by decide +kernel : decode q_st_init.2.1 7 = .ok (.newarray .int, 2)) ?_
  refine c_putR (cl := 7) (x := 9) (i := 93) (nn := 1) (ty := .array .int) (rd' := (sm_rd 1 93 [(93, 9)])) G hin ⟨(sm_R7, sm_F7, 18), rfl, Nat.le_of_ble_eq_true rfl, (sm_mq2 108 (by decide +kernel) rfl), rfl, rfl, by decide +kernel⟩ rfl rfl rfl rfl (fun _ => ⟨rfl, rfl⟩) (sm_rd_cons _ _ _ _ _) (by decide +kernel : decode q_st_init.2.1 9 = .ok (.putfield 9, 3)) ?_
  refine c_aload_n (f := 0) G 0 rfl (by decide +kernel : decode q_st_init.2.1 12 = .ok (.aload_n 0, 1)) ?_
  refine c_bipush (v := 8) G (by decide) (by decide +kernel : decode q_st_init.2.1 13 = .ok (.bipush 8, 2)) ?_
  refine c_newa (hi := 95) (atype := .int) (t := 0) (N := 8) G rfl rfl rfl (fun _ _ z => z) rfl (fun k => hz 95 k (by decide)) rfl rfl rfl (by decide +kernel) (sm_dyn.dy hdy rfl) (sm_mq1 78 (by decide +kernel) rfl) (by decide) (by decide) (by decide +kernel) rfl rfl rfl rfl (by decide +kernel : decode q_st_init.2.1 15 = .ok (.newarray .int, 2)) ?_
  refine c_putR (cl := 7) (x := 10) (i := 93) (nn := 2) (ty := .array .int) (rd' := (sm_rd 1 93 [(93, 10), (93, 9)])) G hin ⟨(sm_R7, sm_F7, 18), rfl, Nat.le_of_ble_eq_true rfl, (sm_mq2 112 (by decide +kernel) rfl), rfl, rfl, by decide +kernel⟩ rfl rfl rfl rfl (fun _ => ⟨rfl, rfl⟩) (sm_rd_cons _ _ _ _ _) (by decide +kernel : decode q_st_init.2.1 17 = .ok (.putfield 15, 3)) ?_
  refine c_aload_n (f := 0) G 0 rfl (by decide +kernel : decode q_st_init.2.1 20 = .ok (.aload_n 0, 1)) ?_
  refine c_bipush (v := 23) G (by decide) (by decide +kernel : decode q_st_init.2.1 21 = .ok (.bipush 23, 2)) ?_
  refine c_newa (hi := 96) (atype := .int) (t := 0) (N := 23) G rfl rfl rfl (fun _ _ z => z) rfl (fun k => hz 96 k (by decide)) rfl rfl rfl (by decide +kernel) (sm_dyn.dy hdy rfl) (sm_mq1 78 (by decide +kernel) rfl) (by decide) (by decide) (by decide +kernel) rfl rfl rfl rfl (by decide +kernel : decode q_st_init.2.1 23 = .ok (.newarray .int, 2)) ?_
  refine c_putR (cl := 7) (x := 11) (i := 93) (nn := 3) (ty := .array .int) (rd' := (sm_rd 1 93 [(93, 11), (93, 10), (93, 9)])) G hin ⟨(sm_R7, sm_F7, 18), rfl, Nat.le_of_ble_eq_true rfl, (sm_mq2 115 (by decide +kernel) rfl), rfl, rfl, by decide +kernel⟩ rfl rfl rfl rfl (fun _ => ⟨rfl, rfl⟩) (sm_rd_cons _ _ _ _ _) (by decide +kernel : decode q_st_init.2.1 25 = .ok (.putfield 18, 3)) ?_
  refine c_aload_n (f := 0) G 0 rfl (by decide +kernel : decode q_st_init.2.1 28 = .ok (.aload_n 0, 1)) ?_
  refine c_bipush (v := 23) G (by decide) (by decide +kernel : decode q_st_init.2.1 29 = .ok (.bipush 23, 2)) ?_
  refine c_newa (hi := 97) (atype := .int) (t := 0) (N := 23) G rfl rfl rfl (fun _ _ z => z) rfl (fun k => hz 97 k (by decide)) rfl rfl rfl (by decide +kernel) (sm_dyn.dy hdy rfl) (sm_mq1 78 (by decide +kernel) rfl) (by decide) (by decide) (by decide +kernel) rfl rfl rfl rfl (by decide +kernel : decode q_st_init.2.1 31 = .ok (.newarray .int, 2)) ?_
  refine c_putR (cl := 7) (x := 12) (i := 93) (nn := 4) (ty := .array .int) (rd' := (sm_rd 1 93 [(93, 12), (93, 11), (93, 10), (93, 9)])) G hin ⟨(sm_R7, sm_F7, 18), rfl, Nat.le_of_ble_eq_true rfl, (sm_mq2 119 (by decide +kernel) rfl), rfl, rfl, by decide +kernel⟩ rfl rfl rfl rfl (fun _ => ⟨rfl, rfl⟩) (sm_rd_cons _ _ _ _ _) (by decide +kernel : decode q_st_init.2.1 33 = .ok (.putfield 21, 3)) ?_
  refine c_aload_n (f := 0) G 0 rfl (by decide +kernel : decode q_st_init.2.1 36 = .ok (.aload_n 0, 1)) ?_
  refine c_bipush (v := 23) G (by decide) (by decide +kernel : decode q_st_init.2.1 37 = .ok (.bipush 23, 2)) ?_
  refine c_newa (hi := 98) (atype := .int) (t := 0) (N := 23) G rfl rfl rfl (fun _ _ z => z) rfl (fun k => hz 98 k (by decide)) rfl rfl rfl (by decide +kernel) (sm_dyn.dy hdy rfl) (sm_mq1 78 (by decide +kernel) rfl) (by decide) (by decide) (by decide +kernel) rfl rfl rfl rfl (by decide +kernel : decode q_st_init.2.1 39 = .ok (.newarray .int, 2)) ?_
  refine c_putR (cl := 7) (x := 13) (i := 93) (nn := 5) (ty := .array .int) (rd' := (sm_rd 1 93 [(93, 13), (93, 12), (93, 11), (93, 10), (93, 9)])) G hin ⟨(sm_R7, sm_F7, 18), rfl, Nat.le_of_ble_eq_true rfl, (sm_mq2 122 (by decide +kernel) rfl), rfl, rfl, by decide +kernel⟩ rfl rfl rfl rfl (fun _ => ⟨rfl, rfl⟩) (sm_rd_cons _ _ _ _ _) (by decide +kernel : decode q_st_init.2.1 41 = .ok (.putfield 24, 3)) ?_
  refine c_aload_n (f := 0) G 0 rfl (by decide +kernel : decode q_st_init.2.1 44 = .ok (.aload_n 0, 1)) ?_
  refine c_bipush (v := 23) G (by decide) (by decide +kernel : decode q_st_init.2.1 45 = .ok (.bipush 23, 2)) ?_
  refine c_newa (hi := 99) (atype := .int) (t := 0) (N := 23) G rfl rfl rfl (fun _ _ z => z) rfl (fun k => hz 99 k (by decide)) rfl rfl rfl (by decide +kernel) (sm_dyn.dy hdy rfl) (sm_mq1 78 (by decide +kernel) rfl) (by decide) (by decide) (by decide +kernel) rfl rfl rfl rfl (by decide +kernel : decode q_st_init.2.1 47 = .ok (.newarray .int, 2)) ?_
  refine c_putR (cl := 7) (x := 14) (i := 93) (nn := 6) (ty := .array .int) (rd' := (sm_rd 1 93 [(93, 14), (93, 13), (93, 12), (93, 11), (93, 10), (93, 9)])) G hin ⟨(sm_R7, sm_F7, 18), rfl, Nat.le_of_ble_eq_true rfl, (sm_mq2 125 (by decide +kernel) rfl), rfl, rfl, by decide +kernel⟩ rfl rfl rfl rfl (fun _ => ⟨rfl, rfl⟩) (sm_rd_cons _ _ _ _ _) (by decide +kernel : decode q_st_init.2.1 49 = .ok (.putfield 27, 3)) ?_
  refine c_aload_n (f := 0) G 0 rfl (by decide +kernel : decode q_st_init.2.1 52 = .ok (.aload_n 0, 1)) ?_
  refine c_bipush (v := 23) G (by decide) (by decide +kernel : decode q_st_init.2.1 53 = .ok (.bipush 23, 2)) ?_
  refine c_newa (hi := 100) (atype := .int) (t := 0) (N := 23) G rfl rfl rfl (fun _ _ z => z) rfl (fun k => hz 100 k (by decide)) rfl rfl rfl (by decide +kernel) (sm_dyn.dy hdy rfl) (sm_mq1 78 (by decide +kernel) rfl) (by decide) (by decide) (by decide +kernel) rfl rfl rfl rfl (by decide +kernel : decode q_st_init.2.1 55 = .ok (.newarray .int, 2)) ?_
  refine c_putR (cl := 7) (x := 15) (i := 93) (nn := 7) (ty := .array .int) (rd' := (sm_rd 1 93 [(93, 15), (93, 14), (93, 13), (93, 12), (93, 11), (93, 10), (93, 9)])) G hin ⟨(sm_R7, sm_F7, 18), rfl, Nat.le_of_ble_eq_true rfl, (sm_mq2 127 (by decide +kernel) rfl), rfl, rfl, by decide +kernel⟩ rfl rfl rfl rfl (fun _ => ⟨rfl, rfl⟩) (sm_rd_cons _ _ _ _ _) (by decide +kernel : decode q_st_init.2.1 57 = .ok (.putfield 30, 3)) ?_
  refine c_aload_n (f := 0) G 0 rfl (by decide +kernel : decode q_st_init.2.1 60 = .ok (.aload_n 0, 1)) ?_
  refine c_new (hi := 101) (cl := 0) (N := 4) (C := "SmokeControl$Alarms") (z := (sm_R0, sm_F0, 4)) G rfl rfl rfl rfl (fun k => hz 101 k (by decide)) (fun _ => rfl) rfl rfl rfl (by decide +kernel) (sm_dyn.dy hdy rfl) (sm_mq2 14 (by decide +kernel) rfl) (sm_mq2 15 (by decide +kernel) rfl) (sm_mq1 7 (by decide +kernel) rfl) rfl rfl rfl rfl (by decide +kernel : decode q_st_init.2.1 61 = .ok (.new 33, 3)) ?_
  refine c_dup G rfl (by decide +kernel : decode q_st_init.2.1 64 = .ok (.dup, 1)) ?_
  refine c_ctorN (d := 20) (mc := 0) (ms := 0) (lo' := 101) (hi2 := 102) (b := 101) (As := []) (rdc := (sm_rd 101 101 [])) (rd2 := (sm_rd 101 102 [])) (rd' := (sm_rd 1 93 [(93, 15), (93, 14), (93, 13), (93, 12), (93, 11), (93, 10), (93, 9)])) (h2 := h) G ck_st_35 (k_al_101 l (fun i k z => hz i k (by omega)) (hdy.mono (by decide))) rfl (by decide +kernel) (by decide +kernel) rfl (by decide +kernel) (by decide +kernel) (sm_dyn.dyB hdy rfl) (by decide +kernel) (by decide +kernel) (fun _ _ _ => rfl) rfl rfl (by decide +kernel : decode q_st_init.2.1 65 = .ok (.invokespecial 35, 3)) ?_
  refine c_putR (cl := 7) (x := 16) (i := 93) (nn := 8) (ty := .object "SmokeControl$Alarms") (rd' := (sm_rd 1 93 [(93, 16), (93, 15), (93, 14), (93, 13), (93, 12), (93, 11), (93, 10), (93, 9)])) G hin ⟨(sm_R7, sm_F7, 18), rfl, Nat.le_of_ble_eq_true rfl, (sm_mq2 129 (by decide +kernel) rfl), rfl, rfl, by decide +kernel⟩ rfl rfl rfl rfl (fun _ => ⟨rfl, rfl⟩) (sm_rd_cons _ _ _ _ _) (by decide +kernel : decode q_st_init.2.1 68 = .ok (.putfield 36, 3)) ?_
  refine c_aload_n (f := 0) G 0 rfl (by decide +kernel : decode q_st_init.2.1 71 = .ok (.aload_n 0, 1)) ?_
  refine c_new (hi := 102) (cl := 3) (N := 4) (C := "SmokeControl$Log") (z := (sm_R3, sm_F3, 4)) G rfl rfl rfl rfl (fun k => hz 102 k (by decide)) (fun _ => rfl) rfl rfl rfl (by decide +kernel) (sm_dyn.dy hdy rfl) (sm_mq2 39 (by decide +kernel) rfl) (sm_mq2 40 (by decide +kernel) rfl) (sm_mq1 8 (by decide +kernel) rfl) rfl rfl rfl rfl (by decide +kernel : decode q_st_init.2.1 72 = .ok (.new 40, 3)) ?_
  refine c_dup G rfl (by decide +kernel : decode q_st_init.2.1 75 = .ok (.dup, 1)) ?_
  refine c_ctorN (d := 20) (mc := 3) (ms := 150) (lo' := 102) (hi2 := 106) (b := 102) (As := []) (rdc := (sm_rd 102 102 [])) (rd2 := (sm_rd 102 106 [])) (rd' := (sm_rd 1 93 [(102, 1), (102, 2), (102, 3), (93, 16), (93, 15), (93, 14), (93, 13), (93, 12), (93, 11), (93, 10), (93, 9)])) (h2 := h) G ck_st_42 (k_lo_102 l (fun i k z => hz i k (by omega)) (hdy.mono (by decide))) rfl (by decide +kernel) (by decide +kernel) rfl (by decide +kernel) (by decide +kernel) (sm_dyn.dyB hdy rfl) (by decide +kernel) (by decide +kernel) (fun _ _ _ => rfl) rfl rfl (by decide +kernel : decode q_st_init.2.1 76 = .ok (.invokespecial 42, 3)) ?_
  refine c_putR (cl := 7) (x := 17) (i := 93) (nn := 9) (ty := .object "SmokeControl$Log") (rd' := (sm_rd 1 93 [(93, 17), (102, 1), (102, 2), (102, 3), (93, 16), (93, 15), (93, 14), (93, 13), (93, 12), (93, 11), (93, 10), (93, 9)])) G hin ⟨(sm_R7, sm_F7, 18), rfl, Nat.le_of_ble_eq_true rfl, (sm_mq2 133 (by decide +kernel) rfl), rfl, rfl, by decide +kernel⟩ rfl rfl rfl rfl (fun _ => ⟨rfl, rfl⟩) (sm_rd_cons _ _ _ _ _) (by decide +kernel : decode q_st_init.2.1 79 = .ok (.putfield 43, 3)) ?_
  refine c_aload_n (f := 0) G 0 rfl (by decide +kernel : decode q_st_init.2.1 82 = .ok (.aload_n 0, 1)) ?_
  refine c_aload_n (f := 1) G 1 rfl (by decide +kernel : decode q_st_init.2.1 83 = .ok (.aload_n 1, 1)) ?_
  refine c_callV (lo' := 1) (hi' := 106) (b := 93) (d := (0 + 1)) (cl := 7) (z := (sm_R7, sm_F7, 18)) (As := [.ref 1]) (rv := none) (h1 := (sm_ib 93 1 h)) G cvv_st_47 rfl rfl rfl (m_st_begin l 1 106 0 ⟨by decide, by decide⟩ (sm_atD (by decide +kernel)) (sm_atD (by decide +kernel)) (p_st_begin (by decide) rfl hz hpd)) rfl (by decide +kernel) rfl (by decide +kernel) (by decide +kernel) (by decide +kernel) (fun i _ _ z => sm_ib_fr (by omega)) (by decide +kernel : decode q_st_init.2.1 84 = .ok (.invokevirtual 47, 3)) ?_
  exact c_vret G hr hlk (by decide +kernel) (by decide +kernel : decode q_st_init.2.1 87 = .ok (.return_, 1))
theorem k_co_107 (l : Launch) {h : sm_H} (hz : ∀ i k, 107 < i → h i k = 0) (hdy : sm_dyn 108 h) : sm_MetC l 107 108 (sm_rd 107 107 []) 20 3 69 q_co_init [.ref 107] h 111 (sm_rd 107 111 []) h := by
  refine sm_MetC.of (by decide +kernel) rfl rfl rfl ?_
  intro base sz E p e s m args below meth c G hin hr hlk
  show sm_C p l e (sm_rmC 20 3 69) s m args below meth c _ _ E 108 _ 107 108 (sm_rd 107 107 []) 0 0 0 [(0, .ref 107)] [] h
  refine c_aload_n (f := 0) G 0 rfl (by decide +kernel : decode q_co_init.2.1 0 = .ok (.aload_n 0, 1)) ?_
  refine c_obj G (sm_mq2 186 (by decide +kernel) rfl) ⟨by decide, by decide⟩ (by decide +kernel : decode q_co_init.2.1 1 = .ok (.invokespecial 3, 3)) ?_
  refine c_aload_n (f := 0) G 0 rfl (by decide +kernel : decode q_co_init.2.1 4 = .ok (.aload_n 0, 1)) ?_
  refine c_bipush (v := 23) G (by decide) (by decide +kernel : decode q_co_init.2.1 5 = .ok (.bipush 23, 2)) ?_
  refine c_newa (hi := 108) (atype := .int) (t := 0) (N := 23) G rfl rfl rfl (fun _ _ z => z) rfl (fun k => hz 108 k (by decide)) rfl rfl rfl (by decide +kernel) (sm_dyn.dy hdy rfl) (sm_mq1 78 (by decide +kernel) rfl) (by decide) (by decide) (by decide +kernel) rfl rfl rfl rfl (by decide +kernel : decode q_co_init.2.1 7 = .ok (.newarray .int, 2)) ?_
  refine c_putR (cl := 1) (x := 0) (i := 107) (nn := 1) (ty := .array .int) (rd' := (sm_rd 107 107 [(107, 0)])) G hin ⟨(sm_R1, sm_F1, 3), rfl, Nat.le_of_ble_eq_true rfl, (sm_mq2 187 (by decide +kernel) rfl), rfl, rfl, by decide +kernel⟩ rfl rfl rfl rfl (fun _ => ⟨rfl, rfl⟩) (sm_rd_cons _ _ _ _ _) (by decide +kernel : decode q_co_init.2.1 9 = .ok (.putfield 9, 3)) ?_
  refine c_aload_n (f := 0) G 0 rfl (by decide +kernel : decode q_co_init.2.1 12 = .ok (.aload_n 0, 1)) ?_
  refine c_bipush (v := 23) G (by decide) (by decide +kernel : decode q_co_init.2.1 13 = .ok (.bipush 23, 2)) ?_
  refine c_newa (hi := 109) (atype := .int) (t := 0) (N := 23) G rfl rfl rfl (fun _ _ z => z) rfl (fun k => hz 109 k (by decide)) rfl rfl rfl (by decide +kernel) (sm_dyn.dy hdy rfl) (sm_mq1 78 (by decide +kernel) rfl) (by decide) (by decide) (by decide +kernel) rfl rfl rfl rfl (by decide +kernel : decode q_co_init.2.1 15 = .ok (.newarray .int, 2)) ?_
  refine c_putR (cl := 1) (x := 1) (i := 107) (nn := 2) (ty := .array .int) (rd' := (sm_rd 107 107 [(107, 1), (107, 0)])) G hin ⟨(sm_R1, sm_F1, 3), rfl, Nat.le_of_ble_eq_true rfl, (sm_mq2 188 (by decide +kernel) rfl), rfl, rfl, by decide +kernel⟩ rfl rfl rfl rfl (fun _ => ⟨rfl, rfl⟩) (sm_rd_cons _ _ _ _ _) (by decide +kernel : decode q_co_init.2.1 17 = .ok (.putfield 15, 3)) ?_
  refine c_aload_n (f := 0) G 0 rfl (by decide +kernel : decode q_co_init.2.1 20 = .ok (.aload_n 0, 1)) ?_
  refine c_bipush (v := 23) G (by decide) (by decide +kernel : decode q_co_init.2.1 21 = .ok (.bipush 23, 2)) ?_
  refine c_newa (hi := 110) (atype := .int) (t := 0) (N := 23) G rfl rfl rfl (fun _ _ z => z) rfl (fun k => hz 110 k (by decide)) rfl rfl rfl (by decide +kernel) (sm_dyn.dy hdy rfl) (sm_mq1 78 (by decide +kernel) rfl) (by decide) (by decide) (by decide +kernel) rfl rfl rfl rfl (by decide +kernel : decode q_co_init.2.1 23 = .ok (.newarray .int, 2)) ?_
  refine c_putR (cl := 1) (x := 2) (i := 107) (nn := 3) (ty := .array .int) (rd' := (sm_rd 107 107 [(107, 2), (107, 1), (107, 0)])) G hin ⟨(sm_R1, sm_F1, 3), rfl, Nat.le_of_ble_eq_true rfl, (sm_mq2 191 (by decide +kernel) rfl), rfl, rfl, by decide +kernel⟩ rfl rfl rfl rfl (fun _ => ⟨rfl, rfl⟩) (sm_rd_cons _ _ _ _ _) (by decide +kernel : decode q_co_init.2.1 25 = .ok (.putfield 18, 3)) ?_
  exact c_vret G hr hlk (by decide +kernel) (by decide +kernel : decode q_co_init.2.1 28 = .ok (.return_, 1))
theorem k_en_106 (l : Launch) {h : sm_H} (hz : ∀ i k, 106 < i → h i k = 0) (hdy : sm_dyn 107 h) : sm_MetC l 106 107 (sm_rd 106 106 []) 40 7 96 q_en_init [.ref 106] h 114 (sm_rd 106 114 []) h := by
  refine sm_MetC.of (by decide +kernel) rfl rfl rfl ?_
  intro base sz E p e s m args below meth c G hin hr hlk
  show sm_C p l e (sm_rmC 40 7 96) s m args below meth c _ _ E 107 _ 106 107 (sm_rd 106 106 []) 0 0 0 [(0, .ref 106)] [] h
  refine c_aload_n (f := 0) G 0 rfl (by decide +kernel : decode q_en_init.2.1 0 = .ok (.aload_n 0, 1)) ?_
  refine c_obj G (sm_mq2 180 (by decide +kernel) rfl) ⟨by decide, by decide⟩ (by decide +kernel : decode q_en_init.2.1 1 = .ok (.invokespecial 3, 3)) ?_
  refine c_aload_n (f := 0) G 0 rfl (by decide +kernel : decode q_en_init.2.1 4 = .ok (.aload_n 0, 1)) ?_
  refine c_new (hi := 107) (cl := 1) (N := 3) (C := "SmokeControl$Commands") (z := (sm_R1, sm_F1, 3)) G rfl rfl rfl rfl (fun k => hz 107 k (by decide)) (fun _ => rfl) rfl rfl rfl (by decide +kernel) (sm_dyn.dy hdy rfl) (sm_mq2 181 (by decide +kernel) rfl) (sm_mq2 182 (by decide +kernel) rfl) (sm_mq1 11 (by decide +kernel) rfl) rfl rfl rfl rfl (by decide +kernel : decode q_en_init.2.1 5 = .ok (.new 9, 3)) ?_
  refine c_dup G rfl (by decide +kernel : decode q_en_init.2.1 8 = .ok (.dup, 1)) ?_
  refine c_ctorN (d := 20) (mc := 3) (ms := 69) (lo' := 107) (hi2 := 111) (b := 107) (As := []) (rdc := (sm_rd 107 107 [])) (rd2 := (sm_rd 107 111 [])) (rd' := (sm_rd 106 106 [(107, 0), (107, 1), (107, 2)])) (h2 := h) G ck_en_11 (k_co_107 l (fun i k z => hz i k (by omega)) (hdy.mono (by decide))) rfl (by decide +kernel) (by decide +kernel) rfl (by decide +kernel) (by decide +kernel) (sm_dyn.dyB hdy rfl) (by decide +kernel) (by decide +kernel) (fun _ _ _ => rfl) rfl rfl (by decide +kernel : decode q_en_init.2.1 9 = .ok (.invokespecial 11, 3)) ?_
  refine c_putR (cl := 2) (x := 0) (i := 106) (nn := 1) (ty := .object "SmokeControl$Commands") (rd' := (sm_rd 106 106 [(106, 0), (107, 0), (107, 1), (107, 2)])) G hin ⟨(sm_R2, sm_F2, 4), rfl, Nat.le_of_ble_eq_true rfl, (sm_mq2 200 (by decide +kernel) rfl), rfl, rfl, by decide +kernel⟩ rfl rfl rfl rfl (fun _ => ⟨rfl, rfl⟩) (sm_rd_cons _ _ _ _ _) (by decide +kernel : decode q_en_init.2.1 12 = .ok (.putfield 12, 3)) ?_
  refine c_aload_n (f := 0) G 0 rfl (by decide +kernel : decode q_en_init.2.1 15 = .ok (.aload_n 0, 1)) ?_
  refine c_bipush (v := 8) G (by decide) (by decide +kernel : decode q_en_init.2.1 16 = .ok (.bipush 8, 2)) ?_
  refine c_newa (hi := 111) (atype := .int) (t := 0) (N := 8) G rfl rfl rfl (fun _ _ z => z) rfl (fun k => hz 111 k (by decide)) rfl rfl rfl (by decide +kernel) (sm_dyn.dy hdy rfl) (sm_mq1 78 (by decide +kernel) rfl) (by decide) (by decide) (by decide +kernel) rfl rfl rfl rfl (by decide +kernel : decode q_en_init.2.1 18 = .ok (.newarray .int, 2)) ?_
  refine c_putR (cl := 2) (x := 1) (i := 106) (nn := 5) (ty := .array .int) (rd' := (sm_rd 106 106 [(106, 1), (106, 0), (107, 0), (107, 1), (107, 2)])) G hin ⟨(sm_R2, sm_F2, 4), rfl, Nat.le_of_ble_eq_true rfl, (sm_mq2 202 (by decide +kernel) rfl), rfl, rfl, by decide +kernel⟩ rfl rfl rfl rfl (fun _ => ⟨rfl, rfl⟩) (sm_rd_cons _ _ _ _ _) (by decide +kernel : decode q_en_init.2.1 20 = .ok (.putfield 18, 3)) ?_
  refine c_aload_n (f := 0) G 0 rfl (by decide +kernel : decode q_en_init.2.1 23 = .ok (.aload_n 0, 1)) ?_
  refine c_bipush (v := 8) G (by decide) (by decide +kernel : decode q_en_init.2.1 24 = .ok (.bipush 8, 2)) ?_
  refine c_newa (hi := 112) (atype := .int) (t := 0) (N := 8) G rfl rfl rfl (fun _ _ z => z) rfl (fun k => hz 112 k (by decide)) rfl rfl rfl (by decide +kernel) (sm_dyn.dy hdy rfl) (sm_mq1 78 (by decide +kernel) rfl) (by decide) (by decide) (by decide +kernel) rfl rfl rfl rfl (by decide +kernel : decode q_en_init.2.1 26 = .ok (.newarray .int, 2)) ?_
  refine c_putR (cl := 2) (x := 2) (i := 106) (nn := 6) (ty := .array .int) (rd' := (sm_rd 106 106 [(106, 2), (106, 1), (106, 0), (107, 0), (107, 1), (107, 2)])) G hin ⟨(sm_R2, sm_F2, 4), rfl, Nat.le_of_ble_eq_true rfl, (sm_mq2 204 (by decide +kernel) rfl), rfl, rfl, by decide +kernel⟩ rfl rfl rfl rfl (fun _ => ⟨rfl, rfl⟩) (sm_rd_cons _ _ _ _ _) (by decide +kernel : decode q_en_init.2.1 28 = .ok (.putfield 22, 3)) ?_
  refine c_aload_n (f := 0) G 0 rfl (by decide +kernel : decode q_en_init.2.1 31 = .ok (.aload_n 0, 1)) ?_
  refine c_bipush (v := 8) G (by decide) (by decide +kernel : decode q_en_init.2.1 32 = .ok (.bipush 8, 2)) ?_
  refine c_newa (hi := 113) (atype := .int) (t := 0) (N := 8) G rfl rfl rfl (fun _ _ z => z) rfl (fun k => hz 113 k (by decide)) rfl rfl rfl (by decide +kernel) (sm_dyn.dy hdy rfl) (sm_mq1 78 (by decide +kernel) rfl) (by decide) (by decide) (by decide +kernel) rfl rfl rfl rfl (by decide +kernel : decode q_en_init.2.1 34 = .ok (.newarray .int, 2)) ?_
  refine c_putR (cl := 2) (x := 3) (i := 106) (nn := 7) (ty := .array .int) (rd' := (sm_rd 106 106 [(106, 3), (106, 2), (106, 1), (106, 0), (107, 0), (107, 1), (107, 2)])) G hin ⟨(sm_R2, sm_F2, 4), rfl, Nat.le_of_ble_eq_true rfl, (sm_mq2 206 (by decide +kernel) rfl), rfl, rfl, by decide +kernel⟩ rfl rfl rfl rfl (fun _ => ⟨rfl, rfl⟩) (sm_rd_cons _ _ _ _ _) (by decide +kernel : decode q_en_init.2.1 36 = .ok (.putfield 25, 3)) ?_
  exact c_vret G hr hlk (by decide +kernel) (by decide +kernel : decode q_en_init.2.1 39 = .ok (.return_, 1))
theorem k_re_17 (l : Launch) {h : sm_H} (hz : ∀ i k, 17 < i → h i k = 0) (hdy : sm_dyn 18 h) : sm_MetC l 17 18 (sm_rd 17 17 []) 40 22 5457 q_re_init [.ref 17] h 40 (sm_rd 17 40 []) (sm_up (sm_up (sm_ip 24 h) 17 1 (nI 24)) 17 3 (-1)) := by
  refine sm_MetC.of (by decide +kernel) rfl rfl rfl ?_
  intro base sz E p e s m args below meth c G hin hr hlk
  show sm_C p l e (sm_rmC 40 22 5457) s m args below meth c _ _ E 18 _ 17 18 (sm_rd 17 17 []) 0 0 0 [(0, .ref 17)] [] h
  refine c_aload_n (f := 0) G 0 rfl (by decide +kernel : decode q_re_init.2.1 0 = .ok (.aload_n 0, 1)) ?_
  refine c_obj G (sm_mq1 185 (by decide +kernel) rfl) ⟨by decide, by decide⟩ (by decide +kernel : decode q_re_init.2.1 1 = .ok (.invokespecial 3, 3)) ?_
  refine c_aload_n (f := 0) G 0 rfl (by decide +kernel : decode q_re_init.2.1 4 = .ok (.aload_n 0, 1)) ?_
  refine c_new (hi := 18) (cl := 8) (N := 8) (C := "SmokeControl$Text") (z := (sm_R8, sm_F8, 8)) G rfl rfl rfl rfl (fun k => hz 18 k (by decide)) (fun _ => rfl) rfl rfl rfl (by decide +kernel) (sm_dyn.dy hdy rfl) (sm_mq1 186 (by decide +kernel) rfl) (sm_mq1 187 (by decide +kernel) rfl) (sm_mq1 5 (by decide +kernel) rfl) rfl rfl rfl rfl (by decide +kernel : decode q_re_init.2.1 5 = .ok (.new 9, 3)) ?_
  refine c_dup G rfl (by decide +kernel : decode q_re_init.2.1 8 = .ok (.dup, 1)) ?_
  refine c_ctorN (d := 20) (mc := 5) (ms := 4504) (lo' := 18) (hi2 := 24) (b := 18) (As := []) (rdc := (sm_rd 18 18 [])) (rd2 := (sm_rd 18 24 [])) (rd' := (sm_rd 17 17 [(18, 0), (18, 2), (18, 3), (18, 4), (18, 5)])) (h2 := h) G ck_re_11 (k_te_18 l (fun i k z => hz i k (by omega)) (hdy.mono (by decide))) rfl (by decide +kernel) (by decide +kernel) rfl (by decide +kernel) (by decide +kernel) (sm_dyn.dyB hdy rfl) (by decide +kernel) (by decide +kernel) (fun _ _ _ => rfl) rfl rfl (by decide +kernel : decode q_re_init.2.1 9 = .ok (.invokespecial 11, 3)) ?_
  refine c_putR (cl := 5) (x := 0) (i := 17) (nn := 1) (ty := .object "SmokeControl$Text") (rd' := (sm_rd 17 17 [(17, 0), (18, 0), (18, 2), (18, 3), (18, 4), (18, 5)])) G hin ⟨(sm_R5, sm_F5, 6), rfl, Nat.le_of_ble_eq_true rfl, (sm_mq1 225 (by decide +kernel) rfl), rfl, rfl, by decide +kernel⟩ rfl rfl rfl rfl (fun _ => ⟨rfl, rfl⟩) (sm_rd_cons _ _ _ _ _) (by decide +kernel : decode q_re_init.2.1 12 = .ok (.putfield 12, 3)) ?_
  refine c_aload_n (f := 0) G 0 rfl (by decide +kernel : decode q_re_init.2.1 15 = .ok (.aload_n 0, 1)) ?_
  refine c_new (hi := 24) (cl := 4) (N := 16) (C := "SmokeControl$Plant") (z := (sm_R4, sm_F4, 16)) G rfl rfl rfl rfl (fun k => hz 24 k (by decide)) (fun _ => rfl) rfl rfl rfl (by decide +kernel) (sm_dyn.dy hdy rfl) (sm_mq1 223 (by decide +kernel) rfl) (sm_mq1 29 (by decide +kernel) rfl) (sm_mq1 2 (by decide +kernel) rfl) rfl rfl rfl rfl (by decide +kernel : decode q_re_init.2.1 16 = .ok (.new 18, 3)) ?_
  refine c_dup G rfl (by decide +kernel : decode q_re_init.2.1 19 = .ok (.dup, 1)) ?_
  refine c_ctor (d := 30) (mc := 15) (ms := 929) (lo' := 24) (hi2 := 40) (b := 24) (As := []) (rdc := (sm_rd 24 24 [])) (rd2 := (sm_rd 24 40 [])) (rd' := (sm_rd 17 17 [(24, 7), (24, 8), (24, 9), (24, 10), (24, 11), (24, 12), (24, 13), (24, 14), (24, 15), (33, 3), (33, 4), (33, 5), (33, 6), (33, 7), (33, 8), (17, 0), (18, 0), (18, 2), (18, 3), (18, 4), (18, 5)])) (h2 := (sm_ip 24 h)) G ck_re_20 (k_pl_24 l (fun i k z => hz i k (by omega)) (hdy.mono (by decide))) rfl (by decide +kernel) (by decide +kernel) rfl (by decide +kernel) (by decide +kernel) (sm_dyn.dyB hdy rfl) (by decide +kernel) (by decide +kernel) (fun i _ z => sm_ip_fr (Or.inl z)) rfl rfl (by decide +kernel : decode q_re_init.2.1 20 = .ok (.invokespecial 20, 3)) ?_
  refine c_putD (cl := 5) (x := 1) (cn := "SmokeControl$Plant") G ⟨(sm_R5, sm_F5, 6), rfl, Nat.le_of_ble_eq_true rfl, (sm_mq1 227 (by decide +kernel) rfl), rfl, by decide +kernel⟩ rfl rfl rfl rfl rfl rfl rfl (by decide +kernel : decode q_re_init.2.1 23 = .ok (.putfield 21, 3)) ?_
  refine c_aload_n (f := 0) G 0 rfl (by decide +kernel : decode q_re_init.2.1 26 = .ok (.aload_n 0, 1)) ?_
  refine c_iconst (v := (-1)) G (by decide) (by decide +kernel : decode q_re_init.2.1 27 = .ok (.iconst (-1), 1)) ?_
  refine c_putI (cl := 5) (x := 3) G ⟨(sm_R5, sm_F5, 6), rfl, Nat.le_of_ble_eq_true rfl, (sm_mq1 231 (by decide +kernel) rfl), rfl, by decide +kernel⟩ rfl rfl rfl rfl rfl (by decide +kernel : decode q_re_init.2.1 28 = .ok (.putfield 25, 3)) ?_
  exact c_vret G hr hlk (by decide +kernel) (by decide +kernel : decode q_re_init.2.1 31 = .ok (.return_, 1))
def sm_z0 : sm_H := fun _ _ => 0
def sm_z1 : sm_H := sm_ip 1 sm_z0
def sm_z2 : sm_H := sm_up (sm_up (sm_ip 24 sm_z1) 17 1 (nI 24)) 17 3 (-1)
def sm_z3 : sm_H := sm_ib 40 1 sm_z2
def sm_z4 : sm_H := sm_ib 53 1 sm_z3
def sm_z5 : sm_H := sm_up (sm_ib 67 1 sm_z4) 66 0 (nI 67)
def sm_z6 : sm_H := sm_up (sm_ib 80 1 sm_z5) 66 1 (nI 80)
def sm_z7 : sm_H := sm_up (sm_ib 93 1 sm_z6) 66 2 (nI 93)
theorem sm_zz1 : ∀ i k, 17 ≤ i → sm_z1 i k = 0 := fun i k h => by unfold sm_z1; rw [sm_ip_fr (by omega)]; rfl
theorem sm_zz2 : ∀ i k, 40 ≤ i → sm_z2 i k = 0 := fun i k h => by unfold sm_z2; rw [sm_up_off (by omega), sm_up_off (by omega), sm_ip_fr (by omega)]; exact sm_zz1 i k (by omega)
theorem sm_zz3 : ∀ i k, 53 ≤ i → sm_z3 i k = 0 := fun i k h => by unfold sm_z3; rw [sm_ib_fr (by omega)]; exact sm_zz2 i k (by omega)
theorem sm_zz4 : ∀ i k, 66 ≤ i → sm_z4 i k = 0 := fun i k h => by unfold sm_z4; rw [sm_ib_fr (by omega)]; exact sm_zz3 i k (by omega)
theorem sm_zz5 : ∀ i k, 80 ≤ i → sm_z5 i k = 0 := fun i k h => by unfold sm_z5; rw [sm_up_off (by omega), sm_ib_fr (by omega)]; exact sm_zz4 i k (by omega)
theorem sm_zz6 : ∀ i k, 93 ≤ i → sm_z6 i k = 0 := fun i k h => by unfold sm_z6; rw [sm_up_off (by omega), sm_ib_fr (by omega)]; exact sm_zz5 i k (by omega)
theorem sm_zz7 : ∀ i k, 106 ≤ i → sm_z7 i k = 0 := fun i k h => by unfold sm_z7; rw [sm_up_off (by omega), sm_ib_fr (by omega)]; exact sm_zz6 i k (by omega)
theorem sm_zd0 : sm_dyn 1 sm_z0 := ⟨fun _ _ _ _ _ => Or.inl rfl, fun _ _ _ _ _ _ => Or.inl rfl⟩
theorem sm_zd1 : sm_dyn 17 sm_z1 := sm_dynOf (by unfold sm_dq; decide +kernel) (by unfold sm_dq; decide +kernel) (by unfold sm_dq; decide +kernel) (by unfold sm_dq; decide +kernel) (by unfold sm_dq; decide +kernel) (by unfold sm_dq; decide +kernel) (by unfold sm_dq; decide +kernel) (by unfold sm_dq; decide +kernel) (by unfold sm_dq; decide +kernel)
theorem sm_zd2 : sm_dyn 25 sm_z2 := sm_dynOf (by unfold sm_dq; decide +kernel) (by unfold sm_dq; decide +kernel) (by unfold sm_dq; decide +kernel) (by unfold sm_dq; decide +kernel) (by unfold sm_dq; decide +kernel) (by unfold sm_dq; decide +kernel) (by unfold sm_dq; decide +kernel) (by unfold sm_dq; decide +kernel) (by unfold sm_dq; decide +kernel)
theorem sm_zd3 : sm_dyn 25 sm_z3 := sm_dynOf (by unfold sm_dq; decide +kernel) (by unfold sm_dq; decide +kernel) (by unfold sm_dq; decide +kernel) (by unfold sm_dq; decide +kernel) (by unfold sm_dq; decide +kernel) (by unfold sm_dq; decide +kernel) (by unfold sm_dq; decide +kernel) (by unfold sm_dq; decide +kernel) (by unfold sm_dq; decide +kernel)
theorem sm_zd4 : sm_dyn 25 sm_z4 := sm_dynOf (by unfold sm_dq; decide +kernel) (by unfold sm_dq; decide +kernel) (by unfold sm_dq; decide +kernel) (by unfold sm_dq; decide +kernel) (by unfold sm_dq; decide +kernel) (by unfold sm_dq; decide +kernel) (by unfold sm_dq; decide +kernel) (by unfold sm_dq; decide +kernel) (by unfold sm_dq; decide +kernel)
theorem sm_zd5 : sm_dyn 68 sm_z5 := sm_dynOf (by unfold sm_dq; decide +kernel) (by unfold sm_dq; decide +kernel) (by unfold sm_dq; decide +kernel) (by unfold sm_dq; decide +kernel) (by unfold sm_dq; decide +kernel) (by unfold sm_dq; decide +kernel) (by unfold sm_dq; decide +kernel) (by unfold sm_dq; decide +kernel) (by unfold sm_dq; decide +kernel)
theorem sm_zd6 : sm_dyn 81 sm_z6 := sm_dynOf (by unfold sm_dq; decide +kernel) (by unfold sm_dq; decide +kernel) (by unfold sm_dq; decide +kernel) (by unfold sm_dq; decide +kernel) (by unfold sm_dq; decide +kernel) (by unfold sm_dq; decide +kernel) (by unfold sm_dq; decide +kernel) (by unfold sm_dq; decide +kernel) (by unfold sm_dq; decide +kernel)
theorem sm_zd7 : sm_dyn 94 sm_z7 := sm_dynOf (by unfold sm_dq; decide +kernel) (by unfold sm_dq; decide +kernel) (by unfold sm_dq; decide +kernel) (by unfold sm_dq; decide +kernel) (by unfold sm_dq; decide +kernel) (by unfold sm_dq; decide +kernel) (by unfold sm_dq; decide +kernel) (by unfold sm_dq; decide +kernel) (by unfold sm_dq; decide +kernel)
theorem k_sc_0 (l : Launch) : sm_MetC l 0 1 (sm_rd 1 1 []) 60 113 8046 q_sc_init [.ref 0] sm_z0 114 (sm_rd 0 114 []) sm_z7 := by
  refine sm_MetC.of (by decide +kernel) rfl rfl rfl ?_
  intro base sz E p e s m args below meth c G hin hr hlk
  show sm_C p l e (sm_rmC 60 113 8046) s m args below meth c _ _ E 1 _ 0 1 (sm_rd 1 1 []) 0 0 0 [(0, .ref 0)] [] sm_z0
  refine c_aload_n (f := 0) G 0 rfl (by decide +kernel : decode q_sc_init.2.1 0 = .ok (.aload_n 0, 1)) ?_
  refine c_obj G (sm_mq1 25 (by decide +kernel) rfl) ⟨by decide, by decide⟩ (by decide +kernel : decode q_sc_init.2.1 1 = .ok (.invokespecial 3, 3)) ?_
  refine c_new (hi := 1) (cl := 4) (N := 16) (C := "SmokeControl$Plant") (z := (sm_R4, sm_F4, 16)) G rfl rfl rfl rfl (fun k => rfl) (fun _ => rfl) rfl rfl rfl (by decide +kernel) (sm_dyn.dy sm_zd0 rfl) (sm_mq1 28 (by decide +kernel) rfl) (sm_mq1 29 (by decide +kernel) rfl) (sm_mq1 2 (by decide +kernel) rfl) rfl rfl rfl rfl (by decide +kernel : decode q_sc_init.2.1 4 = .ok (.new 9, 3)) ?_
  refine c_dup G rfl (by decide +kernel : decode q_sc_init.2.1 7 = .ok (.dup, 1)) ?_
  refine c_ctor (d := 30) (mc := 15) (ms := 929) (lo' := 1) (hi2 := 17) (b := 1) (As := []) (rdc := (sm_rd 1 1 [])) (rd2 := (sm_rd 1 17 [])) (rd' := (sm_rd 1 17 [])) (h2 := sm_z1) G ck_sc_11 (k_pl_1 l (fun i k _ => rfl) (sm_zd0.mono (by decide))) rfl (by decide +kernel) (by decide +kernel) rfl (by decide +kernel) (by decide +kernel) (sm_dyn.dyB sm_zd0 rfl) (by decide +kernel) (by decide +kernel) (fun i _ z => sm_ip_fr (by omega)) rfl rfl (by decide +kernel : decode q_sc_init.2.1 8 = .ok (.invokespecial 11, 3)) ?_
  refine c_astore_n (f := 1) (lv' := [(1, .ref 1), (0, .ref 0)]) G (by decide +kernel : decode q_sc_init.2.1 11 = .ok (.astore_n 1, 1)) rfl rfl ?_
  refine c_aload_n (f := 0) G 1 rfl (by decide +kernel : decode q_sc_init.2.1 12 = .ok (.aload_n 0, 1)) ?_
  refine c_new (hi := 17) (cl := 5) (N := 6) (C := "SmokeControl$Reader") (z := (sm_R5, sm_F5, 6)) G rfl rfl rfl rfl (fun k => sm_zz1 17 k (by decide)) (fun _ => rfl) rfl rfl rfl (by decide +kernel) (sm_dyn.dy sm_zd1 rfl) (sm_mq1 180 (by decide +kernel) rfl) (sm_mq1 181 (by decide +kernel) rfl) (sm_mq1 4 (by decide +kernel) rfl) rfl rfl rfl rfl (by decide +kernel : decode q_sc_init.2.1 13 = .ok (.new 12, 3)) ?_
  refine c_dup G rfl (by decide +kernel : decode q_sc_init.2.1 16 = .ok (.dup, 1)) ?_
  refine c_ctorN (d := 40) (mc := 22) (ms := 5457) (lo' := 17) (hi2 := 40) (b := 17) (As := []) (rdc := (sm_rd 17 17 [])) (rd2 := (sm_rd 17 40 [])) (rd' := (sm_rd 1 40 [])) (h2 := sm_z2) G ck_sc_14 (k_re_17 l (fun i k z => sm_zz1 i k (by omega)) (sm_zd1.mono (by decide))) rfl (by decide +kernel) (by decide +kernel) rfl (by decide +kernel) (by decide +kernel) (sm_dyn.dyB sm_zd1 rfl) (by decide +kernel) (by decide +kernel) (fun i _ z => by unfold sm_z2; funext k; rw [sm_up_off (by omega), sm_up_off (by omega), sm_ip_fr (by omega)]) rfl rfl (by decide +kernel : decode q_sc_init.2.1 17 = .ok (.invokespecial 14, 3)) ?_
  refine c_putR (cl := 9) (x := 0) (i := 0) (nn := 17) (ty := .object "SmokeControl$Reader") (rd' := (sm_rd 1 40 [(0, 0)])) G hin ⟨(sm_R9, sm_F9, 6), rfl, Nat.le_of_ble_eq_true rfl, (sm_mq2 216 (by decide +kernel) rfl), rfl, rfl, by decide +kernel⟩ rfl rfl rfl rfl (fun _ => ⟨rfl, rfl⟩) (sm_rd_cons _ _ _ _ _) (by decide +kernel : decode q_sc_init.2.1 20 = .ok (.putfield 15, 3)) ?_
  refine c_aload_n (f := 0) G 1 rfl (by decide +kernel : decode q_sc_init.2.1 23 = .ok (.aload_n 0, 1)) ?_
  refine c_new (hi := 40) (cl := 7) (N := 18) (C := "SmokeControl$State") (z := (sm_R7, sm_F7, 18)) G rfl rfl rfl rfl (fun k => sm_zz2 40 k (by decide)) (fun _ => rfl) rfl rfl rfl (by decide +kernel) (sm_dyn.dy sm_zd2 rfl) (sm_mq2 8 (by decide +kernel) rfl) (sm_mq2 9 (by decide +kernel) rfl) (sm_mq1 6 (by decide +kernel) rfl) rfl rfl rfl rfl (by decide +kernel : decode q_sc_init.2.1 24 = .ok (.new 19, 3)) ?_
  refine c_dup G rfl (by decide +kernel : decode q_sc_init.2.1 27 = .ok (.dup, 1)) ?_
  refine c_aload_n (f := 1) G 0 rfl (by decide +kernel : decode q_sc_init.2.1 28 = .ok (.aload_n 1, 1)) ?_
  refine c_ctor (d := 40) (mc := 12) (ms := 289) (lo' := 1) (hi2 := 53) (b := 40) (As := [.ref 1]) (rdc := (sm_rd 1 40 [])) (rd2 := (sm_rd 1 53 [])) (rd' := (sm_rd 1 53 [(0, 0)])) (h2 := sm_z3) G ck_sc_21 (k_st_40 l (fun i k z => sm_zz2 i k (by omega)) (sm_zd2.mono (by decide)) (by decide +kernel)) rfl (by decide +kernel) (by decide +kernel) rfl (by decide +kernel) (by decide +kernel) (sm_dyn.dyB sm_zd2 rfl) (by decide +kernel) (by decide +kernel) (fun i _ z => sm_ib_fr (by omega)) rfl rfl (by decide +kernel : decode q_sc_init.2.1 29 = .ok (.invokespecial 21, 3)) ?_
  refine c_putR (cl := 9) (x := 1) (i := 0) (nn := 40) (ty := .object "SmokeControl$State") (rd' := (sm_rd 1 53 [(0, 1), (0, 0)])) G hin ⟨(sm_R9, sm_F9, 6), rfl, Nat.le_of_ble_eq_true rfl, (sm_mq2 217 (by decide +kernel) rfl), rfl, rfl, by decide +kernel⟩ rfl rfl rfl rfl (fun _ => ⟨rfl, rfl⟩) (sm_rd_cons _ _ _ _ _) (by decide +kernel : decode q_sc_init.2.1 32 = .ok (.putfield 24, 3)) ?_
  refine c_aload_n (f := 0) G 1 rfl (by decide +kernel : decode q_sc_init.2.1 35 = .ok (.aload_n 0, 1)) ?_
  refine c_new (hi := 53) (cl := 7) (N := 18) (C := "SmokeControl$State") (z := (sm_R7, sm_F7, 18)) G rfl rfl rfl rfl (fun k => sm_zz3 53 k (by decide)) (fun _ => rfl) rfl rfl rfl (by decide +kernel) (sm_dyn.dy sm_zd3 rfl) (sm_mq2 8 (by decide +kernel) rfl) (sm_mq2 9 (by decide +kernel) rfl) (sm_mq1 6 (by decide +kernel) rfl) rfl rfl rfl rfl (by decide +kernel : decode q_sc_init.2.1 36 = .ok (.new 19, 3)) ?_
  refine c_dup G rfl (by decide +kernel : decode q_sc_init.2.1 39 = .ok (.dup, 1)) ?_
  refine c_aload_n (f := 1) G 0 rfl (by decide +kernel : decode q_sc_init.2.1 40 = .ok (.aload_n 1, 1)) ?_
  refine c_ctor (d := 40) (mc := 12) (ms := 289) (lo' := 1) (hi2 := 66) (b := 53) (As := [.ref 1]) (rdc := (sm_rd 1 53 [])) (rd2 := (sm_rd 1 66 [])) (rd' := (sm_rd 1 66 [(0, 1), (0, 0)])) (h2 := sm_z4) G ck_sc_21 (k_st_53 l (fun i k z => sm_zz3 i k (by omega)) (sm_zd3.mono (by decide)) (by decide +kernel)) rfl (by decide +kernel) (by decide +kernel) rfl (by decide +kernel) (by decide +kernel) (sm_dyn.dyB sm_zd3 rfl) (by decide +kernel) (by decide +kernel) (fun i _ z => sm_ib_fr (by omega)) rfl rfl (by decide +kernel : decode q_sc_init.2.1 41 = .ok (.invokespecial 21, 3)) ?_
  refine c_putR (cl := 9) (x := 2) (i := 0) (nn := 53) (ty := .object "SmokeControl$State") (rd' := (sm_rd 1 66 [(0, 2), (0, 1), (0, 0)])) G hin ⟨(sm_R9, sm_F9, 6), rfl, Nat.le_of_ble_eq_true rfl, (sm_mq2 218 (by decide +kernel) rfl), rfl, rfl, by decide +kernel⟩ rfl rfl rfl rfl (fun _ => ⟨rfl, rfl⟩) (sm_rd_cons _ _ _ _ _) (by decide +kernel : decode q_sc_init.2.1 44 = .ok (.putfield 28, 3)) ?_
  refine c_aload_n (f := 0) G 1 rfl (by decide +kernel : decode q_sc_init.2.1 47 = .ok (.aload_n 0, 1)) ?_
  refine c_iconst (v := 3) G (by decide) (by decide +kernel : decode q_sc_init.2.1 48 = .ok (.iconst 3, 1)) ?_
  refine c_newq (hi := 66) (b := 67) (k0 := 13) G rfl (fun k => sm_zz4 66 k (by decide)) rfl rfl rfl (by decide +kernel) (sm_dyn.dy sm_zd4 rfl) (sm_mq2 8 (by decide +kernel) rfl) rfl rfl rfl rfl (by decide +kernel : decode q_sc_init.2.1 49 = .ok (.anewarray 19, 3)) ?_
  refine c_dup G rfl (by decide +kernel : decode q_sc_init.2.1 52 = .ok (.dup, 1)) ?_
  refine c_iconst (v := 0) G (by decide) (by decide +kernel : decode q_sc_init.2.1 53 = .ok (.iconst 0, 1)) ?_
  refine c_new (hi := 67) (cl := 7) (N := 18) (C := "SmokeControl$State") (z := (sm_R7, sm_F7, 18)) G rfl rfl rfl rfl (fun k => sm_zz4 67 k (by decide)) (fun _ => rfl) rfl rfl rfl (by decide +kernel) (sm_dyn.dy sm_zd4 rfl) (sm_mq2 8 (by decide +kernel) rfl) (sm_mq2 9 (by decide +kernel) rfl) (sm_mq1 6 (by decide +kernel) rfl) rfl rfl rfl rfl (by decide +kernel : decode q_sc_init.2.1 54 = .ok (.new 19, 3)) ?_
  refine c_dup G rfl (by decide +kernel : decode q_sc_init.2.1 57 = .ok (.dup, 1)) ?_
  refine c_aload_n (f := 1) G 0 rfl (by decide +kernel : decode q_sc_init.2.1 58 = .ok (.aload_n 1, 1)) ?_
  refine c_ctor (d := 40) (mc := 12) (ms := 289) (lo' := 1) (hi2 := 80) (b := 67) (As := [.ref 1]) (rdc := (sm_rd 1 67 [])) (rd2 := (sm_rd 1 80 [])) (rd' := (sm_rd 1 80 [(0, 2), (0, 1), (0, 0)])) (h2 := (sm_ib 67 1 sm_z4)) G ck_sc_21 (k_st_67 l (fun i k z => sm_zz4 i k (by omega)) (sm_zd4.mono (by decide)) (by decide +kernel)) rfl (by decide +kernel) (by decide +kernel) rfl (by decide +kernel) (by decide +kernel) (sm_dyn.dyB sm_zd4 rfl) (by decide +kernel) (by decide +kernel) (fun i _ z => sm_ib_fr (by omega)) rfl rfl (by decide +kernel : decode q_sc_init.2.1 59 = .ok (.invokespecial 21, 3)) ?_
  refine c_aast (j := 0) (b := 67) (k0 := 13) G rfl rfl rfl rfl rfl rfl rfl (by decide) (by decide +kernel : decode q_sc_init.2.1 62 = .ok (.aastore, 1)) ?_
  refine c_dup G rfl (by decide +kernel : decode q_sc_init.2.1 63 = .ok (.dup, 1)) ?_
  refine c_iconst (v := 1) G (by decide) (by decide +kernel : decode q_sc_init.2.1 64 = .ok (.iconst 1, 1)) ?_
  refine c_new (hi := 80) (cl := 7) (N := 18) (C := "SmokeControl$State") (z := (sm_R7, sm_F7, 18)) G rfl rfl rfl rfl (fun k => sm_zz5 80 k (by decide)) (fun _ => rfl) rfl rfl rfl (by decide +kernel) (sm_dyn.dy sm_zd5 rfl) (sm_mq2 8 (by decide +kernel) rfl) (sm_mq2 9 (by decide +kernel) rfl) (sm_mq1 6 (by decide +kernel) rfl) rfl rfl rfl rfl (by decide +kernel : decode q_sc_init.2.1 65 = .ok (.new 19, 3)) ?_
  refine c_dup G rfl (by decide +kernel : decode q_sc_init.2.1 68 = .ok (.dup, 1)) ?_
  refine c_aload_n (f := 1) G 0 rfl (by decide +kernel : decode q_sc_init.2.1 69 = .ok (.aload_n 1, 1)) ?_
  refine c_ctor (d := 40) (mc := 12) (ms := 289) (lo' := 1) (hi2 := 93) (b := 80) (As := [.ref 1]) (rdc := (sm_rd 1 80 [])) (rd2 := (sm_rd 1 93 [])) (rd' := (sm_rd 1 93 [(0, 2), (0, 1), (0, 0)])) (h2 := (sm_ib 80 1 sm_z5)) G ck_sc_21 (k_st_80 l (fun i k z => sm_zz5 i k (by omega)) (sm_zd5.mono (by decide)) (by decide +kernel)) rfl (by decide +kernel) (by decide +kernel) rfl (by decide +kernel) (by decide +kernel) (sm_dyn.dyB sm_zd5 rfl) (by decide +kernel) (by decide +kernel) (fun i _ z => sm_ib_fr (by omega)) rfl rfl (by decide +kernel : decode q_sc_init.2.1 70 = .ok (.invokespecial 21, 3)) ?_
  refine c_aast (j := 1) (b := 67) (k0 := 13) G rfl rfl rfl rfl rfl rfl rfl (by decide) (by decide +kernel : decode q_sc_init.2.1 73 = .ok (.aastore, 1)) ?_
  refine c_dup G rfl (by decide +kernel : decode q_sc_init.2.1 74 = .ok (.dup, 1)) ?_
  refine c_iconst (v := 2) G (by decide) (by decide +kernel : decode q_sc_init.2.1 75 = .ok (.iconst 2, 1)) ?_
  refine c_new (hi := 93) (cl := 7) (N := 18) (C := "SmokeControl$State") (z := (sm_R7, sm_F7, 18)) G rfl rfl rfl rfl (fun k => sm_zz6 93 k (by decide)) (fun _ => rfl) rfl rfl rfl (by decide +kernel) (sm_dyn.dy sm_zd6 rfl) (sm_mq2 8 (by decide +kernel) rfl) (sm_mq2 9 (by decide +kernel) rfl) (sm_mq1 6 (by decide +kernel) rfl) rfl rfl rfl rfl (by decide +kernel : decode q_sc_init.2.1 76 = .ok (.new 19, 3)) ?_
  refine c_dup G rfl (by decide +kernel : decode q_sc_init.2.1 79 = .ok (.dup, 1)) ?_
  refine c_aload_n (f := 1) G 0 rfl (by decide +kernel : decode q_sc_init.2.1 80 = .ok (.aload_n 1, 1)) ?_
  refine c_ctor (d := 40) (mc := 12) (ms := 289) (lo' := 1) (hi2 := 106) (b := 93) (As := [.ref 1]) (rdc := (sm_rd 1 93 [])) (rd2 := (sm_rd 1 106 [])) (rd' := (sm_rd 1 106 [(0, 2), (0, 1), (0, 0)])) (h2 := (sm_ib 93 1 sm_z6)) G ck_sc_21 (k_st_93 l (fun i k z => sm_zz6 i k (by omega)) (sm_zd6.mono (by decide)) (by decide +kernel)) rfl (by decide +kernel) (by decide +kernel) rfl (by decide +kernel) (by decide +kernel) (sm_dyn.dyB sm_zd6 rfl) (by decide +kernel) (by decide +kernel) (fun i _ z => sm_ib_fr (by omega)) rfl rfl (by decide +kernel : decode q_sc_init.2.1 81 = .ok (.invokespecial 21, 3)) ?_
  refine c_aast (j := 2) (b := 67) (k0 := 13) G rfl rfl rfl rfl rfl rfl rfl (by decide) (by decide +kernel : decode q_sc_init.2.1 84 = .ok (.aastore, 1)) ?_
  refine c_putR (cl := 9) (x := 3) (i := 0) (nn := 66) (ty := .array (.object "SmokeControl$State")) (rd' := (sm_rd 1 106 [(0, 3), (0, 2), (0, 1), (0, 0)])) G hin ⟨(sm_R9, sm_F9, 6), rfl, Nat.le_of_ble_eq_true rfl, (sm_mq2 219 (by decide +kernel) rfl), rfl, rfl, by decide +kernel⟩ rfl rfl rfl rfl (fun _ => ⟨rfl, rfl⟩) (sm_rd_cons _ _ _ _ _) (by decide +kernel : decode q_sc_init.2.1 85 = .ok (.putfield 31, 3)) ?_
  refine c_aload_n (f := 0) G 1 rfl (by decide +kernel : decode q_sc_init.2.1 88 = .ok (.aload_n 0, 1)) ?_
  refine c_new (hi := 106) (cl := 2) (N := 4) (C := "SmokeControl$Engine") (z := (sm_R2, sm_F2, 4)) G rfl rfl rfl rfl (fun k => sm_zz7 106 k (by decide)) (fun _ => rfl) rfl rfl rfl (by decide +kernel) (sm_dyn.dy sm_zd7 rfl) (sm_mq2 175 (by decide +kernel) rfl) (sm_mq2 176 (by decide +kernel) rfl) (sm_mq1 10 (by decide +kernel) rfl) rfl rfl rfl rfl (by decide +kernel : decode q_sc_init.2.1 89 = .ok (.new 35, 3)) ?_
  refine c_dup G rfl (by decide +kernel : decode q_sc_init.2.1 92 = .ok (.dup, 1)) ?_
  refine c_ctorN (d := 40) (mc := 7) (ms := 96) (lo' := 106) (hi2 := 114) (b := 106) (As := []) (rdc := (sm_rd 106 106 [])) (rd2 := (sm_rd 106 114 [])) (rd' := (sm_rd 1 114 [(0, 3), (0, 2), (0, 1), (0, 0)])) (h2 := sm_z7) G ck_sc_37 (k_en_106 l (fun i k z => sm_zz7 i k (by omega)) (sm_zd7.mono (by decide))) rfl (by decide +kernel) (by decide +kernel) rfl (by decide +kernel) (by decide +kernel) (sm_dyn.dyB sm_zd7 rfl) (by decide +kernel) (by decide +kernel) (fun _ _ _ => rfl) rfl rfl (by decide +kernel : decode q_sc_init.2.1 93 = .ok (.invokespecial 37, 3)) ?_
  refine c_putR (cl := 9) (x := 5) (i := 0) (nn := 106) (ty := .object "SmokeControl$Engine") (rd' := (sm_rd 1 114 [(0, 5), (0, 3), (0, 2), (0, 1), (0, 0)])) G hin ⟨(sm_R9, sm_F9, 6), rfl, Nat.le_of_ble_eq_true rfl, (sm_mq2 221 (by decide +kernel) rfl), rfl, rfl, by decide +kernel⟩ rfl rfl rfl rfl (fun _ => ⟨rfl, rfl⟩) (sm_rd_cons _ _ _ _ _) (by decide +kernel : decode q_sc_init.2.1 96 = .ok (.putfield 38, 3)) ?_
  exact c_vret G hr hlk (by decide +kernel) (by decide +kernel : decode q_sc_init.2.1 99 = .ok (.return_, 1))
def sm_mp (h : sm_H) : sm_H := sm_up (sm_up (sm_up h 115 0 1) 115 5 50) 115 6 10
def sm_mb (h : sm_H) : sm_H := sm_up (sm_up h 117 2 100) 117 7 (-1)
theorem p_mo_clearPlan {h : sm_H} (hz : ∀ k, h 115 k = 0) : f_mo_clearPlan 115 h = some (sm_mp h) := by
  have L : ∀ (n i : Nat), 1268 - i < n → i ≤ 1268 → f_mo_clearPlan_L2 n 115 (nI i) h = f_mo_clearPlan_L19 115 h := by
    intro n
    induction n with
    | zero => intro i h1; omega
    | succ n ih =>
      intro i h1 h2
      unfold f_mo_clearPlan_L2
      have e : (1268 : Int32) = nI 1268 := by decide +kernel
      rw [e]
      by_cases z : i = 1268
      · rw [if_pos (nI_le (by omega) (by omega))]
      · rw [if_neg (nI_ge (by omega) (by omega))]
        have hl : sm_len 115 = 1268 := by decide +kernel
        have g : sm_inb (nI i) (sm_len 115) = true := decide_eq_true (nI_in (by omega) (by omega))
        unfold sm_gd
        rw [if_pos g]
        unfold sm_let
        rw [nI_clamp (by omega), sm_up_same (hz i), nI_1]
        exact ih (i + 1) (by omega) (by omega)
  unfold f_mo_clearPlan
  have e0 : (0 : Int32) = nI 0 := rfl
  have := L sm_N 0 (by unfold sm_N; omega) (by omega)
  rw [e0, this]
  rfl
theorem p_mo_begin {h : sm_H} (hz : ∀ k, h 117 k = 0) (hd : h 115 1 = 0) (h5 : h 114 5 = 0) (h6 : h 114 6 = 0) (h7 : h 114 7 = 0) : f_mo_begin 114 h = some (sm_mb h) := by
  have L : ∀ (n i : Nat), 350 - i < n → i ≤ 350 → f_mo_begin_L2 n 114 (nI i) h = f_mo_begin_L22 114 h := by
    intro n
    induction n with
    | zero => intro i h1; omega
    | succ n ih =>
      intro i h1 h2
      unfold f_mo_begin_L2
      have e : (350 : Int32) = nI 350 := by decide +kernel
      rw [e]
      by_cases z : i = 350
      · rw [if_pos (nI_le (by omega) (by omega))]
      · rw [if_neg (nI_ge (by omega) (by omega))]
        have g : sm_inb (nI i) 350 = true := decide_eq_true (nI_in (by omega) (by omega))
        unfold sm_gd
        rw [if_pos g]
        unfold sm_let
        rw [nI_clamp (by omega), sm_up_same (hz i), nI_1]
        exact ih (i + 1) (by omega) (by omega)
  unfold f_mo_begin
  have e0 : (0 : Int32) = nI 0 := rfl
  have := L sm_N 0 (by unfold sm_N; omega) (by omega)
  rw [e0, this]
  unfold f_mo_begin_L22
  have c2 : (2 : Int32).toNatClampNeg = 2 := by decide +kernel
  have c7 : (7 : Int32).toNatClampNeg = 7 := by decide +kernel
  have c1 : (1 : Int32).toNatClampNeg = 1 := by decide +kernel
  have i2 : sm_inb 2 350 = true := by decide +kernel
  have i7 : sm_inb 7 350 = true := by decide +kernel
  have i1 : sm_inb 1 1268 = true := by decide +kernel
  unfold sm_gd sm_let
  dsimp only
  rw [if_pos i2, if_pos i7, c2, c7]
  show f_mo_begin_L40 sm_N 114 0 (sm_mb h) = _
  have eN : sm_N = 19999 + 1 := rfl
  rw [eN]
  unfold f_mo_begin_L40 sm_gd
  rw [if_pos i1, c1]
  have d0 : sm_mb h (114 + 1) 1 = 0 := by
    unfold sm_mb
    rw [sm_up_off (by omega), sm_up_off (by omega)]
    exact hd
  rw [d0, if_pos (by decide)]
  unfold f_mo_begin_L89 sm_let
  have m : ∀ k, sm_mb h 114 k = h 114 k := fun k => by
    unfold sm_mb
    rw [sm_up_off (by omega), sm_up_off (by omega)]
  dsimp only
  rw [sm_up_same ((m 5).trans h5), sm_up_same ((m 6).trans h6), sm_up_same ((m 7).trans h7)]
theorem sm_dyn_up {B k : Nat} {v : Int32} {h : sm_H} (hd : sm_dyn B h) : sm_dyn B (sm_up h 114 k v) := by
  refine ⟨fun i c q a b => ?_, fun i b q j a c => ?_⟩
  · by_cases z : i = 114
    · subst z
      have e : c = 10 := by
        have : sm_Ly 114 = (0, 10, 0) := rfl
        rw [this] at a
        injection a with _ a
        injection a with a _
        exact a.symm
      subst e
      exfalso
      have g : ((List.range 60).all fun k => !decide (sm_fk 10 k = 1)) = true := by decide +kernel
      by_cases y : q < 60
      · have := List.all_eq_true.mp g q (List.mem_range.mpr y)
        simp [b] at this
      · have e2 : sm_fk 10 q = 0 := by
          have hl : (sm_fkL.getD 10 []).length = 35 := by decide +kernel
          unfold sm_fk
          rw [List.getD_eq_getElem?_getD, List.getElem?_eq_none (by omega)]
          rfl
        rw [e2] at b
        cases b
    · rw [sm_up_off (fun y => z y.1)]
      exact hd.1 i c q a b
  · by_cases z : i = 114
    · subst z
      have : sm_Ly 114 = (0, 10, 0) := rfl
      rw [this] at a
      cases a
    · rw [sm_up_off (fun y => z y.1)]
      exact hd.2 i b q j a c
theorem k_mo_114 (l : Launch) {h : sm_H} (hz : ∀ i k, 114 ≤ i → h i k = 0) (hdy : sm_dyn 115 h) : sm_MetC l 114 115 (sm_rd 114 114 []) 60 17 6176 q_mo_init [.ref 114] h 132 (sm_rd 114 132 []) (sm_mb (sm_mp (sm_up h 114 16 (-1)))) := by
  refine sm_MetC.of (by decide +kernel) rfl rfl rfl ?_
  intro base sz E p e s m args below meth c G hin hr hlk
  show sm_C p l e (sm_rmC 60 17 6176) s m args below meth c _ _ E 115 _ 114 115 (sm_rd 114 114 []) 0 0 0 [(0, .ref 114)] [] h
  refine c_aload_n (f := 0) G 0 rfl (by decide +kernel : decode q_mo_init.2.1 0 = .ok (.aload_n 0, 1)) ?_
  refine c_obj G (sm_mq5 184 (by decide +kernel) rfl) ⟨by decide, by decide⟩ (by decide +kernel : decode q_mo_init.2.1 1 = .ok (.invokespecial 1, 3)) ?_
  refine c_aload_n (f := 0) G 0 rfl (by decide +kernel : decode q_mo_init.2.1 4 = .ok (.aload_n 0, 1)) ?_
  refine c_sipush (v := 1268) G (by decide) (by decide +kernel : decode q_mo_init.2.1 5 = .ok (.sipush 1268, 3)) ?_
  refine c_newa (hi := 115) (atype := .int) (t := 0) (N := 1268) G rfl rfl rfl (fun _ _ z => z) rfl (fun k => hz 115 k (by decide)) rfl rfl rfl (by decide +kernel) (sm_dyn.dy hdy rfl) (sm_mq1 78 (by decide +kernel) rfl) (by decide) (by decide) (by decide +kernel) rfl rfl rfl rfl (by decide +kernel : decode q_mo_init.2.1 8 = .ok (.newarray .int, 2)) ?_
  refine c_putR (cl := 10) (x := 0) (i := 114) (nn := 1) (ty := .array .int) (rd' := (sm_rd 114 114 [(114, 0)])) G hin ⟨(sm_R10, sm_F10, 35), rfl, Nat.le_of_ble_eq_true rfl, (sm_mq5 200 (by decide +kernel) rfl), rfl, rfl, by decide +kernel⟩ rfl rfl rfl rfl (fun _ => ⟨rfl, rfl⟩) (sm_rd_cons _ _ _ _ _) (by decide +kernel : decode q_mo_init.2.1 10 = .ok (.putfield 7, 3)) ?_
  refine c_aload_n (f := 0) G 0 rfl (by decide +kernel : decode q_mo_init.2.1 13 = .ok (.aload_n 0, 1)) ?_
  refine c_sipush (v := 1268) G (by decide) (by decide +kernel : decode q_mo_init.2.1 14 = .ok (.sipush 1268, 3)) ?_
  refine c_newa (hi := 116) (atype := .int) (t := 0) (N := 1268) G rfl rfl rfl (fun _ _ z => z) rfl (fun k => hz 116 k (by decide)) rfl rfl rfl (by decide +kernel) (sm_dyn.dy hdy rfl) (sm_mq1 78 (by decide +kernel) rfl) (by decide) (by decide) (by decide +kernel) rfl rfl rfl rfl (by decide +kernel : decode q_mo_init.2.1 17 = .ok (.newarray .int, 2)) ?_
  refine c_putR (cl := 10) (x := 1) (i := 114) (nn := 2) (ty := .array .int) (rd' := (sm_rd 114 114 [(114, 1), (114, 0)])) G hin ⟨(sm_R10, sm_F10, 35), rfl, Nat.le_of_ble_eq_true rfl, (sm_mq5 201 (by decide +kernel) rfl), rfl, rfl, by decide +kernel⟩ rfl rfl rfl rfl (fun _ => ⟨rfl, rfl⟩) (sm_rd_cons _ _ _ _ _) (by decide +kernel : decode q_mo_init.2.1 19 = .ok (.putfield 13, 3)) ?_
  refine c_aload_n (f := 0) G 0 rfl (by decide +kernel : decode q_mo_init.2.1 22 = .ok (.aload_n 0, 1)) ?_
  refine c_sipush (v := 350) G (by decide) (by decide +kernel : decode q_mo_init.2.1 23 = .ok (.sipush 350, 3)) ?_
  refine c_newa (hi := 117) (atype := .int) (t := 0) (N := 350) G rfl rfl rfl (fun _ _ z => z) rfl (fun k => hz 117 k (by decide)) rfl rfl rfl (by decide +kernel) (sm_dyn.dy hdy rfl) (sm_mq1 78 (by decide +kernel) rfl) (by decide) (by decide) (by decide +kernel) rfl rfl rfl rfl (by decide +kernel : decode q_mo_init.2.1 26 = .ok (.newarray .int, 2)) ?_
  refine c_putR (cl := 10) (x := 2) (i := 114) (nn := 3) (ty := .array .int) (rd' := (sm_rd 114 114 [(114, 2), (114, 1), (114, 0)])) G hin ⟨(sm_R10, sm_F10, 35), rfl, Nat.le_of_ble_eq_true rfl, (sm_mq5 202 (by decide +kernel) rfl), rfl, rfl, by decide +kernel⟩ rfl rfl rfl rfl (fun _ => ⟨rfl, rfl⟩) (sm_rd_cons _ _ _ _ _) (by decide +kernel : decode q_mo_init.2.1 28 = .ok (.putfield 16, 3)) ?_
  refine c_aload_n (f := 0) G 0 rfl (by decide +kernel : decode q_mo_init.2.1 31 = .ok (.aload_n 0, 1)) ?_
  refine c_sipush (v := 350) G (by decide) (by decide +kernel : decode q_mo_init.2.1 32 = .ok (.sipush 350, 3)) ?_
  refine c_newa (hi := 118) (atype := .int) (t := 0) (N := 350) G rfl rfl rfl (fun _ _ z => z) rfl (fun k => hz 118 k (by decide)) rfl rfl rfl (by decide +kernel) (sm_dyn.dy hdy rfl) (sm_mq1 78 (by decide +kernel) rfl) (by decide) (by decide) (by decide +kernel) rfl rfl rfl rfl (by decide +kernel : decode q_mo_init.2.1 35 = .ok (.newarray .int, 2)) ?_
  refine c_putR (cl := 10) (x := 3) (i := 114) (nn := 4) (ty := .array .int) (rd' := (sm_rd 114 114 [(114, 3), (114, 2), (114, 1), (114, 0)])) G hin ⟨(sm_R10, sm_F10, 35), rfl, Nat.le_of_ble_eq_true rfl, (sm_mq5 203 (by decide +kernel) rfl), rfl, rfl, by decide +kernel⟩ rfl rfl rfl rfl (fun _ => ⟨rfl, rfl⟩) (sm_rd_cons _ _ _ _ _) (by decide +kernel : decode q_mo_init.2.1 37 = .ok (.putfield 19, 3)) ?_
  refine c_aload_n (f := 0) G 0 rfl (by decide +kernel : decode q_mo_init.2.1 40 = .ok (.aload_n 0, 1)) ?_
  refine c_sipush (v := 1050) G (by decide) (by decide +kernel : decode q_mo_init.2.1 41 = .ok (.sipush 1050, 3)) ?_
  refine c_newa (hi := 119) (atype := .int) (t := 0) (N := 1050) G rfl rfl rfl (fun _ _ z => z) rfl (fun k => hz 119 k (by decide)) rfl rfl rfl (by decide +kernel) (sm_dyn.dy hdy rfl) (sm_mq1 78 (by decide +kernel) rfl) (by decide) (by decide) (by decide +kernel) rfl rfl rfl rfl (by decide +kernel : decode q_mo_init.2.1 44 = .ok (.newarray .int, 2)) ?_
  refine c_putR (cl := 10) (x := 4) (i := 114) (nn := 5) (ty := .array .int) (rd' := (sm_rd 114 114 [(114, 4), (114, 3), (114, 2), (114, 1), (114, 0)])) G hin ⟨(sm_R10, sm_F10, 35), rfl, Nat.le_of_ble_eq_true rfl, (sm_mq5 204 (by decide +kernel) rfl), rfl, rfl, by decide +kernel⟩ rfl rfl rfl rfl (fun _ => ⟨rfl, rfl⟩) (sm_rd_cons _ _ _ _ _) (by decide +kernel : decode q_mo_init.2.1 46 = .ok (.putfield 22, 3)) ?_
  refine c_aload_n (f := 0) G 0 rfl (by decide +kernel : decode q_mo_init.2.1 49 = .ok (.aload_n 0, 1)) ?_
  refine c_sipush (v := 900) G (by decide) (by decide +kernel : decode q_mo_init.2.1 50 = .ok (.sipush 900, 3)) ?_
  refine c_newa (hi := 120) (atype := .int) (t := 0) (N := 900) G rfl rfl rfl (fun _ _ z => z) rfl (fun k => hz 120 k (by decide)) rfl rfl rfl (by decide +kernel) (sm_dyn.dy hdy rfl) (sm_mq1 78 (by decide +kernel) rfl) (by decide) (by decide) (by decide +kernel) rfl rfl rfl rfl (by decide +kernel : decode q_mo_init.2.1 53 = .ok (.newarray .int, 2)) ?_
  refine c_putR (cl := 10) (x := 8) (i := 114) (nn := 6) (ty := .array .int) (rd' := (sm_rd 114 114 [(114, 8), (114, 4), (114, 3), (114, 2), (114, 1), (114, 0)])) G hin ⟨(sm_R10, sm_F10, 35), rfl, Nat.le_of_ble_eq_true rfl, (sm_mq5 208 (by decide +kernel) rfl), rfl, rfl, by decide +kernel⟩ rfl rfl rfl rfl (fun _ => ⟨rfl, rfl⟩) (sm_rd_cons _ _ _ _ _) (by decide +kernel : decode q_mo_init.2.1 55 = .ok (.putfield 25, 3)) ?_
  refine c_aload_n (f := 0) G 0 rfl (by decide +kernel : decode q_mo_init.2.1 58 = .ok (.aload_n 0, 1)) ?_
  refine c_iconst (v := (-1)) G (by decide) (by decide +kernel : decode q_mo_init.2.1 59 = .ok (.iconst (-1), 1)) ?_
  refine c_putI (cl := 10) (x := 16) G ⟨(sm_R10, sm_F10, 35), rfl, Nat.le_of_ble_eq_true rfl, (sm_mq5 216 (by decide +kernel) rfl), rfl, by decide +kernel⟩ rfl rfl rfl rfl rfl (by decide +kernel : decode q_mo_init.2.1 60 = .ok (.putfield 28, 3)) ?_
  refine c_aload_n (f := 0) G 0 rfl (by decide +kernel : decode q_mo_init.2.1 63 = .ok (.aload_n 0, 1)) ?_
  refine c_sipush (v := 450) G (by decide) (by decide +kernel : decode q_mo_init.2.1 64 = .ok (.sipush 450, 3)) ?_
  refine c_newa (hi := 121) (atype := .int) (t := 0) (N := 450) G rfl rfl rfl (fun _ _ z => z) rfl (fun k => (by rw [sm_up_off (by omega)]; exact hz 121 k (by decide))) rfl rfl rfl (by decide +kernel) (sm_dyn.dy (sm_dyn_up hdy) rfl) (sm_mq1 78 (by decide +kernel) rfl) (by decide) (by decide) (by decide +kernel) rfl rfl rfl rfl (by decide +kernel : decode q_mo_init.2.1 67 = .ok (.newarray .int, 2)) ?_
  refine c_putR (cl := 10) (x := 18) (i := 114) (nn := 7) (ty := .array .int) (rd' := (sm_rd 114 114 [(114, 18), (114, 8), (114, 4), (114, 3), (114, 2), (114, 1), (114, 0)])) G hin ⟨(sm_R10, sm_F10, 35), rfl, Nat.le_of_ble_eq_true rfl, (sm_mq5 218 (by decide +kernel) rfl), rfl, rfl, by decide +kernel⟩ rfl rfl rfl rfl (fun _ => ⟨rfl, rfl⟩) (sm_rd_cons _ _ _ _ _) (by decide +kernel : decode q_mo_init.2.1 69 = .ok (.putfield 32, 3)) ?_
  refine c_aload_n (f := 0) G 0 rfl (by decide +kernel : decode q_mo_init.2.1 72 = .ok (.aload_n 0, 1)) ?_
  refine c_sipush (v := 450) G (by decide) (by decide +kernel : decode q_mo_init.2.1 73 = .ok (.sipush 450, 3)) ?_
  refine c_newa (hi := 122) (atype := .boolean) (t := 2) (N := 450) G rfl rfl rfl (fun _ _ z => z) rfl (fun k => (by rw [sm_up_off (by omega)]; exact hz 122 k (by decide))) rfl rfl rfl (by decide +kernel) (sm_dyn.dy (sm_dyn_up hdy) rfl) (sm_mq6 66 (by decide +kernel) rfl) (by decide) (by decide) (by decide +kernel) rfl rfl rfl rfl (by decide +kernel : decode q_mo_init.2.1 76 = .ok (.newarray .boolean, 2)) ?_
  refine c_putR (cl := 10) (x := 24) (i := 114) (nn := 8) (ty := .array .boolean) (rd' := (sm_rd 114 114 [(114, 24), (114, 18), (114, 8), (114, 4), (114, 3), (114, 2), (114, 1), (114, 0)])) G hin ⟨(sm_R10, sm_F10, 35), rfl, Nat.le_of_ble_eq_true rfl, (sm_mq5 224 (by decide +kernel) rfl), rfl, rfl, by decide +kernel⟩ rfl rfl rfl rfl (fun _ => ⟨rfl, rfl⟩) (sm_rd_cons _ _ _ _ _) (by decide +kernel : decode q_mo_init.2.1 78 = .ok (.putfield 35, 3)) ?_
  refine c_aload_n (f := 0) G 0 rfl (by decide +kernel : decode q_mo_init.2.1 81 = .ok (.aload_n 0, 1)) ?_
  refine c_bipush (v := 16) G (by decide) (by decide +kernel : decode q_mo_init.2.1 82 = .ok (.bipush 16, 2)) ?_
  refine c_newa (hi := 123) (atype := .int) (t := 0) (N := 16) G rfl rfl rfl (fun _ _ z => z) rfl (fun k => (by rw [sm_up_off (by omega)]; exact hz 123 k (by decide))) rfl rfl rfl (by decide +kernel) (sm_dyn.dy (sm_dyn_up hdy) rfl) (sm_mq1 78 (by decide +kernel) rfl) (by decide) (by decide) (by decide +kernel) rfl rfl rfl rfl (by decide +kernel : decode q_mo_init.2.1 84 = .ok (.newarray .int, 2)) ?_
  refine c_putR (cl := 10) (x := 25) (i := 114) (nn := 9) (ty := .array .int) (rd' := (sm_rd 114 114 [(114, 25), (114, 24), (114, 18), (114, 8), (114, 4), (114, 3), (114, 2), (114, 1), (114, 0)])) G hin ⟨(sm_R10, sm_F10, 35), rfl, Nat.le_of_ble_eq_true rfl, (sm_mq5 225 (by decide +kernel) rfl), rfl, rfl, by decide +kernel⟩ rfl rfl rfl rfl (fun _ => ⟨rfl, rfl⟩) (sm_rd_cons _ _ _ _ _) (by decide +kernel : decode q_mo_init.2.1 86 = .ok (.putfield 39, 3)) ?_
  refine c_aload_n (f := 0) G 0 rfl (by decide +kernel : decode q_mo_init.2.1 89 = .ok (.aload_n 0, 1)) ?_
  refine c_bipush (v := 6) G (by decide) (by decide +kernel : decode q_mo_init.2.1 90 = .ok (.bipush 6, 2)) ?_
  refine c_newa (hi := 124) (atype := .int) (t := 0) (N := 6) G rfl rfl rfl (fun _ _ z => z) rfl (fun k => (by rw [sm_up_off (by omega)]; exact hz 124 k (by decide))) rfl rfl rfl (by decide +kernel) (sm_dyn.dy (sm_dyn_up hdy) rfl) (sm_mq1 78 (by decide +kernel) rfl) (by decide) (by decide) (by decide +kernel) rfl rfl rfl rfl (by decide +kernel : decode q_mo_init.2.1 92 = .ok (.newarray .int, 2)) ?_
  refine c_putR (cl := 10) (x := 26) (i := 114) (nn := 10) (ty := .array .int) (rd' := (sm_rd 114 114 [(114, 26), (114, 25), (114, 24), (114, 18), (114, 8), (114, 4), (114, 3), (114, 2), (114, 1), (114, 0)])) G hin ⟨(sm_R10, sm_F10, 35), rfl, Nat.le_of_ble_eq_true rfl, (sm_mq5 226 (by decide +kernel) rfl), rfl, rfl, by decide +kernel⟩ rfl rfl rfl rfl (fun _ => ⟨rfl, rfl⟩) (sm_rd_cons _ _ _ _ _) (by decide +kernel : decode q_mo_init.2.1 94 = .ok (.putfield 42, 3)) ?_
  refine c_aload_n (f := 0) G 0 rfl (by decide +kernel : decode q_mo_init.2.1 97 = .ok (.aload_n 0, 1)) ?_
  refine c_bipush (v := 16) G (by decide) (by decide +kernel : decode q_mo_init.2.1 98 = .ok (.bipush 16, 2)) ?_
  refine c_newa (hi := 125) (atype := .int) (t := 0) (N := 16) G rfl rfl rfl (fun _ _ z => z) rfl (fun k => (by rw [sm_up_off (by omega)]; exact hz 125 k (by decide))) rfl rfl rfl (by decide +kernel) (sm_dyn.dy (sm_dyn_up hdy) rfl) (sm_mq1 78 (by decide +kernel) rfl) (by decide) (by decide) (by decide +kernel) rfl rfl rfl rfl (by decide +kernel : decode q_mo_init.2.1 100 = .ok (.newarray .int, 2)) ?_
  refine c_putR (cl := 10) (x := 27) (i := 114) (nn := 11) (ty := .array .int) (rd' := (sm_rd 114 114 [(114, 27), (114, 26), (114, 25), (114, 24), (114, 18), (114, 8), (114, 4), (114, 3), (114, 2), (114, 1), (114, 0)])) G hin ⟨(sm_R10, sm_F10, 35), rfl, Nat.le_of_ble_eq_true rfl, (sm_mq5 227 (by decide +kernel) rfl), rfl, rfl, by decide +kernel⟩ rfl rfl rfl rfl (fun _ => ⟨rfl, rfl⟩) (sm_rd_cons _ _ _ _ _) (by decide +kernel : decode q_mo_init.2.1 102 = .ok (.putfield 45, 3)) ?_
  refine c_aload_n (f := 0) G 0 rfl (by decide +kernel : decode q_mo_init.2.1 105 = .ok (.aload_n 0, 1)) ?_
  refine c_bipush (v := 16) G (by decide) (by decide +kernel : decode q_mo_init.2.1 106 = .ok (.bipush 16, 2)) ?_
  refine c_newa (hi := 126) (atype := .int) (t := 0) (N := 16) G rfl rfl rfl (fun _ _ z => z) rfl (fun k => (by rw [sm_up_off (by omega)]; exact hz 126 k (by decide))) rfl rfl rfl (by decide +kernel) (sm_dyn.dy (sm_dyn_up hdy) rfl) (sm_mq1 78 (by decide +kernel) rfl) (by decide) (by decide) (by decide +kernel) rfl rfl rfl rfl (by decide +kernel : decode q_mo_init.2.1 108 = .ok (.newarray .int, 2)) ?_
  refine c_putR (cl := 10) (x := 28) (i := 114) (nn := 12) (ty := .array .int) (rd' := (sm_rd 114 114 [(114, 28), (114, 27), (114, 26), (114, 25), (114, 24), (114, 18), (114, 8), (114, 4), (114, 3), (114, 2), (114, 1), (114, 0)])) G hin ⟨(sm_R10, sm_F10, 35), rfl, Nat.le_of_ble_eq_true rfl, (sm_mq5 228 (by decide +kernel) rfl), rfl, rfl, by decide +kernel⟩ rfl rfl rfl rfl (fun _ => ⟨rfl, rfl⟩) (sm_rd_cons _ _ _ _ _) (by decide +kernel : decode q_mo_init.2.1 110 = .ok (.putfield 48, 3)) ?_
  refine c_aload_n (f := 0) G 0 rfl (by decide +kernel : decode q_mo_init.2.1 113 = .ok (.aload_n 0, 1)) ?_
  refine c_bipush (v := 6) G (by decide) (by decide +kernel : decode q_mo_init.2.1 114 = .ok (.bipush 6, 2)) ?_
  refine c_newa (hi := 127) (atype := .int) (t := 0) (N := 6) G rfl rfl rfl (fun _ _ z => z) rfl (fun k => (by rw [sm_up_off (by omega)]; exact hz 127 k (by decide))) rfl rfl rfl (by decide +kernel) (sm_dyn.dy (sm_dyn_up hdy) rfl) (sm_mq1 78 (by decide +kernel) rfl) (by decide) (by decide) (by decide +kernel) rfl rfl rfl rfl (by decide +kernel : decode q_mo_init.2.1 116 = .ok (.newarray .int, 2)) ?_
  refine c_putR (cl := 10) (x := 29) (i := 114) (nn := 13) (ty := .array .int) (rd' := (sm_rd 114 114 [(114, 29), (114, 28), (114, 27), (114, 26), (114, 25), (114, 24), (114, 18), (114, 8), (114, 4), (114, 3), (114, 2), (114, 1), (114, 0)])) G hin ⟨(sm_R10, sm_F10, 35), rfl, Nat.le_of_ble_eq_true rfl, (sm_mq5 229 (by decide +kernel) rfl), rfl, rfl, by decide +kernel⟩ rfl rfl rfl rfl (fun _ => ⟨rfl, rfl⟩) (sm_rd_cons _ _ _ _ _) (by decide +kernel : decode q_mo_init.2.1 118 = .ok (.putfield 51, 3)) ?_
  refine c_aload_n (f := 0) G 0 rfl (by decide +kernel : decode q_mo_init.2.1 121 = .ok (.aload_n 0, 1)) ?_
  refine c_bipush (v := 6) G (by decide) (by decide +kernel : decode q_mo_init.2.1 122 = .ok (.bipush 6, 2)) ?_
  refine c_newa (hi := 128) (atype := .int) (t := 0) (N := 6) G rfl rfl rfl (fun _ _ z => z) rfl (fun k => (by rw [sm_up_off (by omega)]; exact hz 128 k (by decide))) rfl rfl rfl (by decide +kernel) (sm_dyn.dy (sm_dyn_up hdy) rfl) (sm_mq1 78 (by decide +kernel) rfl) (by decide) (by decide) (by decide +kernel) rfl rfl rfl rfl (by decide +kernel : decode q_mo_init.2.1 124 = .ok (.newarray .int, 2)) ?_
  refine c_putR (cl := 10) (x := 30) (i := 114) (nn := 14) (ty := .array .int) (rd' := (sm_rd 114 114 [(114, 30), (114, 29), (114, 28), (114, 27), (114, 26), (114, 25), (114, 24), (114, 18), (114, 8), (114, 4), (114, 3), (114, 2), (114, 1), (114, 0)])) G hin ⟨(sm_R10, sm_F10, 35), rfl, Nat.le_of_ble_eq_true rfl, (sm_mq5 230 (by decide +kernel) rfl), rfl, rfl, by decide +kernel⟩ rfl rfl rfl rfl (fun _ => ⟨rfl, rfl⟩) (sm_rd_cons _ _ _ _ _) (by decide +kernel : decode q_mo_init.2.1 126 = .ok (.putfield 54, 3)) ?_
  refine c_aload_n (f := 0) G 0 rfl (by decide +kernel : decode q_mo_init.2.1 129 = .ok (.aload_n 0, 1)) ?_
  refine c_bipush (v := 8) G (by decide) (by decide +kernel : decode q_mo_init.2.1 130 = .ok (.bipush 8, 2)) ?_
  refine c_newa (hi := 129) (atype := .int) (t := 0) (N := 8) G rfl rfl rfl (fun _ _ z => z) rfl (fun k => (by rw [sm_up_off (by omega)]; exact hz 129 k (by decide))) rfl rfl rfl (by decide +kernel) (sm_dyn.dy (sm_dyn_up hdy) rfl) (sm_mq1 78 (by decide +kernel) rfl) (by decide) (by decide) (by decide +kernel) rfl rfl rfl rfl (by decide +kernel : decode q_mo_init.2.1 132 = .ok (.newarray .int, 2)) ?_
  refine c_putR (cl := 10) (x := 32) (i := 114) (nn := 15) (ty := .array .int) (rd' := (sm_rd 114 114 [(114, 32), (114, 30), (114, 29), (114, 28), (114, 27), (114, 26), (114, 25), (114, 24), (114, 18), (114, 8), (114, 4), (114, 3), (114, 2), (114, 1), (114, 0)])) G hin ⟨(sm_R10, sm_F10, 35), rfl, Nat.le_of_ble_eq_true rfl, (sm_mq5 232 (by decide +kernel) rfl), rfl, rfl, by decide +kernel⟩ rfl rfl rfl rfl (fun _ => ⟨rfl, rfl⟩) (sm_rd_cons _ _ _ _ _) (by decide +kernel : decode q_mo_init.2.1 134 = .ok (.putfield 57, 3)) ?_
  refine c_aload_n (f := 0) G 0 rfl (by decide +kernel : decode q_mo_init.2.1 137 = .ok (.aload_n 0, 1)) ?_
  refine c_bipush (v := 8) G (by decide) (by decide +kernel : decode q_mo_init.2.1 138 = .ok (.bipush 8, 2)) ?_
  refine c_newa (hi := 130) (atype := .int) (t := 0) (N := 8) G rfl rfl rfl (fun _ _ z => z) rfl (fun k => (by rw [sm_up_off (by omega)]; exact hz 130 k (by decide))) rfl rfl rfl (by decide +kernel) (sm_dyn.dy (sm_dyn_up hdy) rfl) (sm_mq1 78 (by decide +kernel) rfl) (by decide) (by decide) (by decide +kernel) rfl rfl rfl rfl (by decide +kernel : decode q_mo_init.2.1 140 = .ok (.newarray .int, 2)) ?_
  refine c_putR (cl := 10) (x := 33) (i := 114) (nn := 16) (ty := .array .int) (rd' := (sm_rd 114 114 [(114, 33), (114, 32), (114, 30), (114, 29), (114, 28), (114, 27), (114, 26), (114, 25), (114, 24), (114, 18), (114, 8), (114, 4), (114, 3), (114, 2), (114, 1), (114, 0)])) G hin ⟨(sm_R10, sm_F10, 35), rfl, Nat.le_of_ble_eq_true rfl, (sm_mq5 233 (by decide +kernel) rfl), rfl, rfl, by decide +kernel⟩ rfl rfl rfl rfl (fun _ => ⟨rfl, rfl⟩) (sm_rd_cons _ _ _ _ _) (by decide +kernel : decode q_mo_init.2.1 142 = .ok (.putfield 60, 3)) ?_
  refine c_aload_n (f := 0) G 0 rfl (by decide +kernel : decode q_mo_init.2.1 145 = .ok (.aload_n 0, 1)) ?_
  refine c_bipush (v := 8) G (by decide) (by decide +kernel : decode q_mo_init.2.1 146 = .ok (.bipush 8, 2)) ?_
  refine c_newa (hi := 131) (atype := .int) (t := 0) (N := 8) G rfl rfl rfl (fun _ _ z => z) rfl (fun k => (by rw [sm_up_off (by omega)]; exact hz 131 k (by decide))) rfl rfl rfl (by decide +kernel) (sm_dyn.dy (sm_dyn_up hdy) rfl) (sm_mq1 78 (by decide +kernel) rfl) (by decide) (by decide) (by decide +kernel) rfl rfl rfl rfl (by decide +kernel : decode q_mo_init.2.1 148 = .ok (.newarray .int, 2)) ?_
  refine c_putR (cl := 10) (x := 34) (i := 114) (nn := 17) (ty := .array .int) (rd' := (sm_rd 114 114 [(114, 34), (114, 33), (114, 32), (114, 30), (114, 29), (114, 28), (114, 27), (114, 26), (114, 25), (114, 24), (114, 18), (114, 8), (114, 4), (114, 3), (114, 2), (114, 1), (114, 0)])) G hin ⟨(sm_R10, sm_F10, 35), rfl, Nat.le_of_ble_eq_true rfl, (sm_mq5 234 (by decide +kernel) rfl), rfl, rfl, by decide +kernel⟩ rfl rfl rfl rfl (fun _ => ⟨rfl, rfl⟩) (sm_rd_cons _ _ _ _ _) (by decide +kernel : decode q_mo_init.2.1 150 = .ok (.putfield 63, 3)) ?_
  refine c_aload_n (f := 0) G 0 rfl (by decide +kernel : decode q_mo_init.2.1 153 = .ok (.aload_n 0, 1)) ?_
  refine c_getR (cl := 10) (x := 0) (i := 114) (nn := 1) G ⟨(sm_R10, sm_F10, 35), rfl, Nat.le_of_ble_eq_true rfl, (sm_mq5 200 (by decide +kernel) rfl)⟩ rfl rfl rfl rfl rfl (by decide +kernel : decode q_mo_init.2.1 154 = .ok (.getfield 7, 3)) ?_
  refine c_callS (lo' := 114) (hi' := 132) (d := 0) (As := [.ref 115]) (rv := none) (h1 := (sm_mp (sm_up h 114 16 (-1)))) G cvs_mo_66 (m_mo_clearPlan l 114 132 0 (sm_arrD (by decide +kernel)) (p_mo_clearPlan (fun k => by rw [sm_up_off (by omega)]; exact hz 115 k (by decide)))) rfl (by decide +kernel) rfl (by decide +kernel) (by decide +kernel) (by decide +kernel) (fun i a b z => by omega) (by decide +kernel : decode q_mo_init.2.1 157 = .ok (.invokestatic 66, 3)) ?_
  refine c_aload_n (f := 0) G 0 rfl (by decide +kernel : decode q_mo_init.2.1 160 = .ok (.aload_n 0, 1)) ?_
  refine c_callV (lo' := 114) (hi' := 132) (b := 114) (d := (0 + 1)) (cl := 10) (z := (sm_R10, sm_F10, 35)) (As := []) (rv := none) (h1 := (sm_mb (sm_mp (sm_up h 114 16 (-1))))) G cvv_mo_70 rfl rfl rfl (m_mo_begin l 114 132 0 (sm_atD (by decide +kernel)) (p_mo_begin (fun k => by unfold sm_mp; rw [sm_up_off (by omega), sm_up_off (by omega), sm_up_off (by omega), sm_up_off (by omega)]; exact hz 117 k (by decide)) (by unfold sm_mp; rw [sm_up_off (by omega), sm_up_off (by omega), sm_up_off (by omega), sm_up_off (by omega)]; exact hz 115 1 (by decide)) (by unfold sm_mp; rw [sm_up_off (by omega), sm_up_off (by omega), sm_up_off (by omega), sm_up_off (by omega)]; exact hz 114 5 (by decide)) (by unfold sm_mp; rw [sm_up_off (by omega), sm_up_off (by omega), sm_up_off (by omega), sm_up_off (by omega)]; exact hz 114 6 (by decide)) (by unfold sm_mp; rw [sm_up_off (by omega), sm_up_off (by omega), sm_up_off (by omega), sm_up_off (by omega)]; exact hz 114 7 (by decide)))) rfl (by decide +kernel) rfl (by decide +kernel) (by decide +kernel) (by decide +kernel) (fun i a b z => by omega) (by decide +kernel : decode q_mo_init.2.1 161 = .ok (.invokevirtual 70, 3)) ?_
  exact c_vret G hr hlk (by decide +kernel) (by decide +kernel : decode q_mo_init.2.1 164 = .ok (.return_, 1))
