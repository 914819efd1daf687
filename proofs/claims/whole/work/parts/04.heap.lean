theorem sm_ws0 : u_ws sm_R0 sm_F0 4 = [397, 399, 401, 403].filterMap (fun i => lw_tbl[i]?) := by decide +kernel
theorem sm_wg0 : (u_ws sm_R0 sm_F0 4).all goodWord = true := by decide +kernel
theorem sm_ws1 : u_ws sm_R1 sm_F1 3 = [560, 562, 564].filterMap (fun i => lw_tbl[i]?) := by decide +kernel
theorem sm_wg1 : (u_ws sm_R1 sm_F1 3).all goodWord = true := by decide +kernel
theorem sm_ws2 : u_ws sm_R2 sm_F2 4 = [574, 576, 578, 580].filterMap (fun i => lw_tbl[i]?) := by decide +kernel
theorem sm_wg2 : (u_ws sm_R2 sm_F2 4).all goodWord = true := by decide +kernel
theorem sm_ws3 : u_ws sm_R3 sm_F3 4 = [420, 422, 424, 426].filterMap (fun i => lw_tbl[i]?) := by decide +kernel
theorem sm_wg3 : (u_ws sm_R3 sm_F3 4).all goodWord = true := by decide +kernel
theorem sm_ws4 : u_ws sm_R4 sm_F4 16 = [274, 276, 278, 280, 282, 284, 286, 288, 290, 292, 294, 296, 298, 300, 302, 304].filterMap (fun i => lw_tbl[i]?) := by decide +kernel
theorem sm_wg4 : (u_ws sm_R4 sm_F4 16).all goodWord = true := by decide +kernel
theorem sm_ws5 : u_ws sm_R5 sm_F5 6 = [362, 364, 366, 368, 370, 372].filterMap (fun i => lw_tbl[i]?) := by decide +kernel
theorem sm_wg5 : (u_ws sm_R5 sm_F5 6).all goodWord = true := by decide +kernel
theorem sm_ws6 : u_ws sm_R6 sm_F6 9 = [186, 188, 190, 192, 194, 196, 198, 200, 202].filterMap (fun i => lw_tbl[i]?) := by decide +kernel
theorem sm_wg6 : (u_ws sm_R6 sm_F6 9).all goodWord = true := by decide +kernel
theorem sm_ws7 : u_ws sm_R7 sm_F7 18 = [504, 506, 508, 510, 512, 514, 516, 518, 520, 522, 524, 526, 528, 530, 532, 534, 536, 538].filterMap (fun i => lw_tbl[i]?) := by decide +kernel
theorem sm_wg7 : (u_ws sm_R7 sm_F7 18).all goodWord = true := by decide +kernel
theorem sm_ws8 : u_ws sm_R8 sm_F8 8 = [332, 334, 336, 338, 340, 342, 344, 346].filterMap (fun i => lw_tbl[i]?) := by decide +kernel
theorem sm_wg8 : (u_ws sm_R8 sm_F8 8).all goodWord = true := by decide +kernel
theorem sm_ws9 : u_ws sm_R9 sm_F9 6 = [589, 591, 593, 595, 597, 599].filterMap (fun i => lw_tbl[i]?) := by decide +kernel
theorem sm_wg9 : (u_ws sm_R9 sm_F9 6).all goodWord = true := by decide +kernel
theorem sm_ws10 : u_ws sm_R10 sm_F10 35 = [1322, 1324, 1326, 1328, 1330, 1332, 1334, 1336, 1338, 1340, 1342, 1344, 1346, 1348, 1350, 1352, 1354, 1356, 1358, 1360, 1362, 1364, 1366, 1368, 1370, 1372, 1374, 1376, 1378, 1380, 1382, 1384, 1386, 1388, 1390].filterMap (fun i => lw_tbl[i]?) := by decide +kernel
theorem sm_wg10 : (u_ws sm_R10 sm_F10 35).all goodWord = true := by decide +kernel
theorem sm_wmem {ws : List Cond} (ps : List Nat) (hp : ws = ps.filterMap (fun i => lw_tbl[i]?)) (hg : ws.all goodWord = true) : ∀ w ∈ ws, w ∈ sm_LT := by
  intro w hw
  have h1 := List.all_eq_true.mp hg w hw
  rw [hp] at hw
  obtain ⟨i, -, hi⟩ := List.mem_filterMap.mp hw
  exact sm_mem i hi h1
theorem sm_clW : ∀ (c : Nat) (z : vw_C), sm_cl[c]? = some z → ∀ w ∈ u_ws z.1 z.2.1 z.2.2, w ∈ sm_LT := by
  intro c z hz
  match c, hz with
  | 0, hz => cases hz; exact sm_wmem _ sm_ws0 sm_wg0
  | 1, hz => cases hz; exact sm_wmem _ sm_ws1 sm_wg1
  | 2, hz => cases hz; exact sm_wmem _ sm_ws2 sm_wg2
  | 3, hz => cases hz; exact sm_wmem _ sm_ws3 sm_wg3
  | 4, hz => cases hz; exact sm_wmem _ sm_ws4 sm_wg4
  | 5, hz => cases hz; exact sm_wmem _ sm_ws5 sm_wg5
  | 6, hz => cases hz; exact sm_wmem _ sm_ws6 sm_wg6
  | 7, hz => cases hz; exact sm_wmem _ sm_ws7 sm_wg7
  | 8, hz => cases hz; exact sm_wmem _ sm_ws8 sm_wg8
  | 9, hz => cases hz; exact sm_wmem _ sm_ws9 sm_wg9
  | 10, hz => cases hz; exact sm_wmem _ sm_ws10 sm_wg10
  | k + 11, hz => simp [sm_cl] at hz
theorem sm_clT : ∀ (c : Nat) (z : vw_C), sm_cl[c]? = some z → ∃ ty : Nat → FieldType, (∀ k, k < z.2.2 → parseFieldDescriptor (z.2.1 k).2.2.1 = some (ty k)) ∧ (∀ a, a < z.2.2 → ∀ b, b < z.2.2 → a ≠ b → (z.2.1 a).2.1 ≠ (z.2.1 b).2.1) := by
  intro c z hz
  match c, hz with
  | 0, hz => cases hz; exact ⟨sm_t0, sm_t0_ok, sm_n0⟩
  | 1, hz => cases hz; exact ⟨sm_t1, sm_t1_ok, sm_n1⟩
  | 2, hz => cases hz; exact ⟨sm_t2, sm_t2_ok, sm_n2⟩
  | 3, hz => cases hz; exact ⟨sm_t3, sm_t3_ok, sm_n3⟩
  | 4, hz => cases hz; exact ⟨sm_t4, sm_t4_ok, sm_n4⟩
  | 5, hz => cases hz; exact ⟨sm_t5, sm_t5_ok, sm_n5⟩
  | 6, hz => cases hz; exact ⟨sm_t6, sm_t6_ok, sm_n6⟩
  | 7, hz => cases hz; exact ⟨sm_t7, sm_t7_ok, sm_n7⟩
  | 8, hz => cases hz; exact ⟨sm_t8, sm_t8_ok, sm_n8⟩
  | 9, hz => cases hz; exact ⟨sm_t9, sm_t9_ok, sm_n9⟩
  | 10, hz => cases hz; exact ⟨sm_t10, sm_t10_ok, sm_n10⟩
  | k + 11, hz => simp [sm_cl] at hz
theorem sm_fl {own : String} (i idx c k : Nat) {z : vw_C} (hz : sm_cl[c]? = some z) (hk : Nat.ble (k + 1) z.2.2 = true) (hw : lw_tbl[i]? = some (Cond.fieldLink own idx (z.2.1 k).1 (z.2.1 k).2.1 (z.2.1 k).2.2.1)) : sm_FL own idx c k := ⟨z, hz, Nat.le_of_ble_eq_true hk, sm_mem i hw rfl⟩
theorem sm_fp {own : String} (i idx c k : Nat) {ty : FieldType} {z : vw_C} (hz : sm_cl[c]? = some z) (hk : Nat.ble (k + 1) z.2.2 = true) (hw : lw_tbl[i]? = some (Cond.fieldLink own idx (z.2.1 k).1 (z.2.1 k).2.1 (z.2.1 k).2.2.1)) (h1 : (z.2.1 k).2.2.2 = false) (h2 : parseFieldDescriptor (z.2.1 k).2.2.1 = some ty) : sm_FP own idx c k ty := ⟨z, hz, Nat.le_of_ble_eq_true hk, sm_mem i hw rfl, h1, h2⟩
theorem sm_ent0 {E : sm_E} {h : sm_H} {i c : Nat} (e : sm_Ly i = (0, c, 0)) : sm_ent E h i = .inr (c, (List.range (sm_nf c)).map (fun k => sm_fv E.2.2 c k i h)) := by unfold sm_ent; rw [e]; rfl
theorem sm_ent1 {E : sm_E} {h : sm_H} {i t n : Nat} (e : sm_Ly i = (1, t, n)) : sm_ent E h i = .inl (E.2.1 t, n, .inl (h i)) := by unfold sm_ent; rw [e]; rfl
theorem sm_ent2 {E : sm_E} {h : sm_H} {i b s : Nat} (e : sm_Ly i = (2, b, s)) : sm_ent E h i = .inl (E.2.1 3, 3, .inr (.inr (.inr (.inr (fun j => if h i j = 0 then none else some (E.2.2 (h i j).toNatClampNeg)))))) := by unfold sm_ent; rw [e]; rfl
theorem sm_at_lt {lo hi : Nat} {K : Nat × Nat × Nat} {i : Nat} (h : sm_at lo hi K i) : i < hi := by
  have := h.2.1
  unfold sm_sz at this
  omega
theorem sm_at_arr {lo hi t n i : Nat} (h : sm_at lo hi (1, t, n) i) : sm_arr lo hi t n i := ⟨h.1, sm_at_lt h, h.2.2⟩
theorem sm_arr_self {lo hi t n i : Nat} (h : sm_arr lo hi t n i) : sm_arr lo hi t (sm_len i) i := by
  have e : sm_len i = n := by unfold sm_len; rw [h.2.2]
  rw [e]; exact h
-- cells inside of an object, by its final reference fields
def sm_lyOK : Bool := (List.range 132).all fun i => match sm_Ly i with
  | (0, c, _) => (List.range (sm_nf c)).all fun k => match sm_fk c k with
    | n + 3 => decide (sm_Ly (i + n) = sm_tk c k) && Nat.ble (n + sm_sz (sm_tk c k)) (sm_sz (0, c, 0))
    | _ => true
  | _ => true
theorem sm_lyOK_true : sm_lyOK = true := by decide +kernel
theorem sm_Ly_out {i : Nat} (h : 132 ≤ i) : sm_Ly i = (9, 0, 0) := by
  have hlen : sm_lyL.length = 132 := by decide +kernel
  unfold sm_Ly
  rw [List.getD_eq_getElem?_getD, List.getElem?_eq_none (by omega)]
  rfl
theorem sm_inner {lo hi c i : Nat} (h : sm_at lo hi (0, c, 0) i) (k : Nat) {n : Nat} {K : Nat × Nat × Nat} (hk : Nat.ble (k + 1) (sm_nf c) = true) (hf : sm_fk c k = n + 3) (ht : sm_tk c k = K) : sm_at lo hi K (i + n) := by
  obtain ⟨h1, h2, h3⟩ := h
  have hi : i < 132 := by
    by_cases z : i < 132
    · exact z
    · rw [sm_Ly_out (by omega)] at h3
      cases h3
  have g := List.all_eq_true.mp sm_lyOK_true i (List.mem_range.mpr hi)
  rw [h3] at g
  have g2 := List.all_eq_true.mp g k (List.mem_range.mpr (Nat.le_of_ble_eq_true hk))
  rw [hf] at g2
  simp only [Bool.and_eq_true, decide_eq_true_eq] at g2
  subst ht
  have g3 := Nat.le_of_ble_eq_true g2.2
  exact ⟨by omega, by omega, g2.1⟩
theorem sm_plants {i : Nat} (h : sm_Ly i = (0, 4, 0)) : i = 1 ∨ i = 24 := by
  have hi : i < 132 := by
    by_cases z : i < 132
    · exact z
    · rw [sm_Ly_out (by omega)] at h
      cases h
  have g : ((List.range 132).all fun i => !decide (sm_Ly i = (0, 4, 0)) || decide (i = 1 ∨ i = 24)) = true := by decide +kernel
  have g2 := List.all_eq_true.mp g i (List.mem_range.mpr hi)
  simp only [h, decide_true, Bool.not_true, Bool.false_or, decide_eq_true_eq] at g2
  exact g2
def sm_has (lo hi : Nat) : Prop := lo ≤ 1 ∧ 40 ≤ hi
theorem sm_isP_at {lo hi : Nat} {x : Int32} (hS : sm_has lo hi) (h : sm_isP x = true) : ¬ x = 0 ∧ sm_at lo hi (0, 4, 0) (sm_p x) := by
  obtain ⟨h1, h2⟩ := of_decide_eq_true h
  obtain ⟨a, b⟩ := hS
  refine ⟨h1, ?_, ?_, h2⟩
  · rcases sm_plants h2 with e | e <;> omega
  · have : sm_sz (0, 4, 0) = 16 := rfl
    rcases sm_plants h2 with e | e <;> omega
theorem sm_inbE {x : Int32} {n : Nat} (h : sm_inb x n = true) : vp_in x n := by
  unfold sm_inb at h
  unfold vp_in
  exact of_decide_eq_true h
def sm_zn (x : Int32) : Int32 := vp_nar .boolean x
section sm_rows2
variable {l : Launch} {lo hi d : Nat} {q : sm_M} {pc : Nat} {lv : List (Nat × Value)} {st : List Value} {h h' : sm_H} {r : Option Value}
theorem sm_get {idx c k i : Nat} {v : Value} (fl : sm_FL q.1.cls idx c k) (ha : sm_at lo hi (0, c, 0) i) (hv : ∀ E : sm_E, sm_fv E.2.2 c k i h = sm_cv E v) (hd : decode q.2.1 pc = .ok (.getfield idx, 3)) (K : sm_W l lo hi d q (pc + 3) lv (v :: st) h r h') : sm_W l lo hi d q pc lv (.ref i :: st) h r h' := by
  intro E hI p e s m args below meth c0 C H locs ls hP hS hl
  obtain ⟨z, hz, hk, hlink⟩ := fl
  have hw := sm_ws_get (E := E) (h := h) ha.1 (sm_at_lt ha)
  rw [sm_ent0 ha.2.2] at hw
  exact va_get (D := E.1) (ci := c) (C := z.1) (T := z.2.1) (N := z.2.2) (Ts := sm_w q) C.1 C.2.1 C.2.2.2.2.2.2.1 (fun w hw => List.mem_cons_of_mem _ (sm_clW c z hz w hw)) C.2.2.2.2.2.1 C.2.2.2.2.2.2.2.1.1 hP (i - lo) hw hz k hk (C.2.2.2.2.2.2.1 _ (List.mem_cons_of_mem _ hlink)) (fun _ h9 => h9) (v := sm_cv E v) (by rw [List.getElem?_map, List.getElem?_range (by rw [sm_nf_eq hz]; exact hk)]; simp only [Option.map_some]; rw [hv]) hd (K E hI p e s m args below meth c0 C H locs ls hP hS hl)
theorem sm_getI {idx c k i : Nat} (fl : sm_FL q.1.cls idx c k) (ha : sm_at lo hi (0, c, 0) i) (hf : sm_fk c k = 0) (hd : decode q.2.1 pc = .ok (.getfield idx, 3)) (K : sm_W l lo hi d q (pc + 3) lv (.int (h i k) :: st) h r h') : sm_W l lo hi d q pc lv (.ref i :: st) h r h' := sm_get fl ha (fun E => by unfold sm_fv; rw [hf]; rfl) hd K
theorem sm_getR {idx c k i n : Nat} (fl : sm_FL q.1.cls idx c k) (ha : sm_at lo hi (0, c, 0) i) (hf : sm_fk c k = n + 3) (hd : decode q.2.1 pc = .ok (.getfield idx, 3)) (K : sm_W l lo hi d q (pc + 3) lv (.ref (i + n) :: st) h r h') : sm_W l lo hi d q pc lv (.ref i :: st) h r h' := sm_get fl ha (fun E => by unfold sm_fv; rw [hf]; rfl) hd K
theorem sm_getD {idx c k i : Nat} (fl : sm_FL q.1.cls idx c k) (ha : sm_at lo hi (0, c, 0) i) (hf : sm_fk c k = 1) (hz : ¬ h i k = 0) (hd : decode q.2.1 pc = .ok (.getfield idx, 3)) (K : sm_W l lo hi d q (pc + 3) lv (.ref (sm_p (h i k)) :: st) h r h') : sm_W l lo hi d q pc lv (.ref i :: st) h r h' := sm_get fl ha (fun E => by unfold sm_fv; rw [hf]; simp only [if_neg hz]; rfl) hd K
theorem sm_getL {idx c k i : Nat} (fl : sm_FL q.1.cls idx c k) (ha : sm_at lo hi (0, c, 0) i) (hf : sm_fk c k = 2) (hd : decode q.2.1 pc = .ok (.getfield idx, 3)) (K : sm_W l lo hi d q (pc + 3) lv (.long (sm_jn (h i k) (h i (k + 1000))) :: st) h r h') : sm_W l lo hi d q pc lv (.ref i :: st) h r h' := sm_get fl ha (fun E => by unfold sm_fv; rw [hf]; rfl) hd K
theorem sm_put {idx c k i : Nat} {v : Value} {ty : FieldType} {h2 : sm_H} (fp : sm_FP q.1.cls idx c k ty) (ha : sm_at lo hi (0, c, 0) i) (hn : ∀ E : sm_E, narrow ty (sm_cv E v) = sm_cv E v ∧ fits ty (sm_cv E v) = true) (hh : ∀ j, j ≠ i → h2 j = h j) (hf : ∀ (E : sm_E) (k' : Nat), k' < sm_nf c → sm_fv E.2.2 c k' i h2 = if k' = k then sm_cv E v else sm_fv E.2.2 c k' i h) (hd : decode q.2.1 pc = .ok (.putfield idx, 3)) (K : sm_W l lo hi d q (pc + 3) lv st h2 r h') : sm_W l lo hi d q pc lv (v :: .ref i :: st) h r h' := by
  intro E hI p e s m args below meth c0 C H locs ls hP hS hl
  obtain ⟨z, hz, hk, hlink, hfin, hpd⟩ := fp
  obtain ⟨ty0, hty, hnm⟩ := sm_clT c z hz
  have hw := sm_ws_get (E := E) (h := h) ha.1 (sm_at_lt ha)
  rw [sm_ent0 ha.2.2] at hw
  have hset := sm_ws_set (E := E) ha.1 (sm_at_lt ha) hh
  have he : sm_ent E h2 i = .inr (c, ((List.range (sm_nf c)).map (fun k => sm_fv E.2.2 c k i h)).set k (sm_cv E v)) := by
    rw [sm_ent0 ha.2.2]
    congr 2
    apply List.ext_getElem?
    intro j
    by_cases hj : j = k
    · subst hj
      rw [List.getElem?_set_self (by simp [sm_nf_eq hz]; exact hk), List.getElem?_map, List.getElem?_range (by rw [sm_nf_eq hz]; exact hk)]
      simp only [Option.map_some]
      rw [hf E j (by rw [sm_nf_eq hz]; exact hk), if_pos rfl]
    · rw [List.getElem?_set_ne (Ne.symm hj), List.getElem?_map, List.getElem?_map]
      by_cases hjl : j < sm_nf c
      · rw [List.getElem?_range hjl]
        simp only [Option.map_some]
        rw [hf E j hjl, if_neg hj]
      · rw [List.getElem?_eq_none (by simp; omega)]
        rfl
  rw [he] at hset
  exact va_put (D := E.1) (ci := c) (C := z.1) (T := z.2.1) (N := z.2.2) (Ts := sm_w q) (v := sm_cv E v) (ty := ty) C.1 C.2.1 C.2.2.2.2.2.2.1 (fun w hw => List.mem_cons_of_mem _ (sm_clW c z hz w hw)) ty0 hty hnm C.2.2.2.2.2.1 C.2.2.2.2.2.2.2.1.1 hP (sm_D hI h) hS (i - lo) hw hz k hk (C.2.2.2.2.2.2.1 _ (List.mem_cons_of_mem _ hlink)) (fun _ h9 => h9) hfin hpd (hn E).1 (hn E).2 (by simp [sm_nf_eq hz]; exact hk) hd (fun H1 locs1 hP1 _ hS1 => K E hI p e s m args below meth c0 C H1 locs1 ls (by rw [hset] at hP1; exact hP1) hS1 hl)
theorem sm_upd_fv {c k i : Nat} {x : Int32} (hk : Nat.ble (k + 1) 1000 = true) (h : sm_H) (E : sm_E) {k' : Nat} (hne : ¬ k' = k) : sm_fv E.2.2 c k' i (sm_up h i k x) = sm_fv E.2.2 c k' i h := by
  have e1 : sm_up h i k x i k' = h i k' := by unfold sm_up; rw [if_neg (fun z => hne z.2)]
  have e2 : sm_up h i k x i (k' + 1000) = h i (k' + 1000) := by
    unfold sm_up
    rw [if_neg (fun z => by have := Nat.le_of_ble_eq_true hk; omega)]
  unfold sm_fv
  rw [e1, e2]
theorem sm_up_at (h : sm_H) (i k : Nat) (v : Int32) : sm_up h i k v i k = v := by unfold sm_up; rw [if_pos ⟨rfl, rfl⟩]
theorem sm_putI0 {idx c k i : Nat} {x : Int32} {ty : FieldType} (fp : sm_FP q.1.cls idx c k ty) (ha : sm_at lo hi (0, c, 0) i) (hf : sm_fk c k = 0) (hk : Nat.ble (k + 1) 1000 = true) (hn : narrow ty (.int x) = .int x ∧ fits ty (.int x) = true) (hd : decode q.2.1 pc = .ok (.putfield idx, 3)) (K : sm_W l lo hi d q (pc + 3) lv st (sm_up h i k x) r h') : sm_W l lo hi d q pc lv (.int x :: .ref i :: st) h r h' :=
  sm_put fp ha (fun _ => hn) (fun j hj => sm_up_ne h i k x j hj) (fun E k' hkn => by
    by_cases e : k' = k
    · subst e
      rw [if_pos rfl]
      unfold sm_fv
      rw [hf]
      simp only [sm_up_at]
      rfl
    · rw [if_neg e, sm_upd_fv hk h E e]) hd K
theorem sm_putI {idx c k i : Nat} {x : Int32} (fp : sm_FP q.1.cls idx c k .int) (ha : sm_at lo hi (0, c, 0) i) (hf : sm_fk c k = 0) (hk : Nat.ble (k + 1) 1000 = true) (hd : decode q.2.1 pc = .ok (.putfield idx, 3)) (K : sm_W l lo hi d q (pc + 3) lv st (sm_up h i k x) r h') : sm_W l lo hi d q pc lv (.int x :: .ref i :: st) h r h' := sm_putI0 fp ha hf hk ⟨rfl, rfl⟩ hd K
theorem sm_putZ {idx c k i : Nat} {x : Int32} (fp : sm_FP q.1.cls idx c k .boolean) (ha : sm_at lo hi (0, c, 0) i) (hf : sm_fk c k = 0) (hk : Nat.ble (k + 1) 1000 = true) (hz : sm_bz x = true) (hd : decode q.2.1 pc = .ok (.putfield idx, 3)) (K : sm_W l lo hi d q (pc + 3) lv st (sm_up h i k x) r h') : sm_W l lo hi d q pc lv (.int x :: .ref i :: st) h r h' := sm_putI0 fp ha hf hk (sm_bz_nar hz) hd K
theorem sm_putD {idx c k i a : Nat} {n : String} (fp : sm_FP q.1.cls idx c k (.object n)) (ha : sm_at lo hi (0, c, 0) i) (hf : sm_fk c k = 1) (hk : Nat.ble (k + 1) 1000 = true) (hz : ¬ a = 0) (hz2 : a < 2 ^ 31) (hd : decode q.2.1 pc = .ok (.putfield idx, 3)) (K : sm_W l lo hi d q (pc + 3) lv st (sm_up h i k (nI a)) r h') : sm_W l lo hi d q pc lv (.ref a :: .ref i :: st) h r h' :=
  sm_put fp ha (fun _ => ⟨rfl, rfl⟩) (fun j hj => sm_up_ne h i k (nI a) j hj) (fun E k' hkn => by
    by_cases e : k' = k
    · subst e
      rw [if_pos rfl]
      unfold sm_fv
      rw [hf]
      simp only [sm_up_at]
      rw [if_neg (nI_ne0 (by omega) hz2), nI_clamp hz2]
      rfl
    · rw [if_neg e, sm_upd_fv hk h E e]) hd K
theorem sm_putL {idx c k i : Nat} {x : Int64} (fp : sm_FP q.1.cls idx c k .long) (ha : sm_at lo hi (0, c, 0) i) (hf : sm_fk c k = 2) (hk : Nat.ble (k + 1) 1000 = true) (hnf : Nat.ble (sm_nf c) 1000 = true) (hd : decode q.2.1 pc = .ok (.putfield idx, 3)) (K : sm_W l lo hi d q (pc + 3) lv st (sm_up (sm_up h i k (sm_lo x)) i (k + 1000) (sm_hi x)) r h') : sm_W l lo hi d q pc lv (.long x :: .ref i :: st) h r h' :=
  sm_put fp ha (fun _ => ⟨rfl, rfl⟩) (fun j hj => by rw [sm_up_ne _ i _ _ j hj, sm_up_ne h i k _ j hj]) (fun E k' hkn => by
    have hk9 := Nat.le_of_ble_eq_true hk
    have hn9 := Nat.le_of_ble_eq_true hnf
    have e2 : sm_up (sm_up h i k (sm_lo x)) i (k + 1000) (sm_hi x) i (k + 1000) = sm_hi x := sm_up_at _ _ _ _
    have e1 : sm_up (sm_up h i k (sm_lo x)) i (k + 1000) (sm_hi x) i k = sm_lo x := by
      unfold sm_up
      rw [if_neg (fun z => by omega), if_pos ⟨rfl, rfl⟩]
    by_cases e : k' = k
    · subst e
      rw [if_pos rfl]
      unfold sm_fv
      rw [hf]
      simp only [e1, e2, sm_jn_id]
      rfl
    · rw [if_neg e]
      have a1 : ∀ j, j ≠ k → j ≠ k + 1000 → sm_up (sm_up h i k (sm_lo x)) i (k + 1000) (sm_hi x) i j = h i j := by
        intro j g1 g2
        unfold sm_up
        rw [if_neg (fun z => g2 z.2), if_neg (fun z => g1 z.2)]
      unfold sm_fv
      rw [a1 k' e (by omega), a1 (k' + 1000) (by omega) (by omega)]) hd K
theorem sm_iald {n a : Nat} {i : Int32} (ha : sm_arr lo hi 0 n a) (hi' : sm_inb i n = true) (hd : decode q.2.1 pc = .ok (.iaload, 1)) (K : sm_W l lo hi d q (pc + 1) lv (.int (h a i.toNatClampNeg) :: st) h r h') : sm_W l lo hi d q pc lv (.int i :: .ref a :: st) h r h' := by
  intro E hI p e s m args below meth c0 C H locs ls hP hS hl
  have hw := sm_ws_get (E := E) (h := h) ha.1 ha.2.1
  rw [sm_ent1 ha.2.2] at hw
  exact va_iald (D := E.1) C.1 C.2.1 C.2.2.2.2.2.2.2.1.1 hP (a - lo) 0 hw rfl (sm_inbE hi') hd (K E hI p e s m args below meth c0 C H locs ls hP hS hl)
theorem sm_iast {n a : Nat} {i x : Int32} (ha : sm_arr lo hi 0 n a) (hi' : sm_inb i n = true) (hd : decode q.2.1 pc = .ok (.iastore, 1)) (K : sm_W l lo hi d q (pc + 1) lv st (sm_up h a i.toNatClampNeg (x)) r h') : sm_W l lo hi d q pc lv (.int x :: .int i :: .ref a :: st) h r h' := by
  intro E hI p e s m args below meth c0 C H locs ls hP hS hl
  have hw := sm_ws_get (E := E) (h := h) ha.1 ha.2.1
  rw [sm_ent1 ha.2.2] at hw
  have hset := sm_ws_set (E := E) ha.1 ha.2.1 (fun j hj => sm_up_ne h a i.toNatClampNeg (x) j hj)
  rw [sm_ent1 ha.2.2, sm_up_self] at hset
  exact va_iast (D := E.1) C.1 C.2.1 C.2.2.2.2.2.2.2.1.1 hP (sm_D hI h) hS (a - lo) 0 hw rfl (sm_inbE hi') hd (fun H1 locs1 hP1 _ hS1 => K E hI p e s m args below meth c0 C H1 locs1 ls (by rw [← hset]; exact hP1) hS1 hl)
theorem sm_bald {n a : Nat} {i : Int32} (ha : sm_arr lo hi 1 n a) (hi' : sm_inb i n = true) (hd : decode q.2.1 pc = .ok (.baload, 1)) (K : sm_W l lo hi d q (pc + 1) lv (.int (h a i.toNatClampNeg) :: st) h r h') : sm_W l lo hi d q pc lv (.int i :: .ref a :: st) h r h' := by
  intro E hI p e s m args below meth c0 C H locs ls hP hS hl
  have hw := sm_ws_get (E := E) (h := h) ha.1 ha.2.1
  rw [sm_ent1 ha.2.2] at hw
  exact va_bald (D := E.1) C.1 C.2.1 C.2.2.2.2.2.2.2.1.1 hP (a - lo) 1 hw rfl (sm_inbE hi') hd (K E hI p e s m args below meth c0 C H locs ls hP hS hl)
theorem sm_bast {n a : Nat} {i x : Int32} (ha : sm_arr lo hi 1 n a) (hi' : sm_inb i n = true) (hd : decode q.2.1 pc = .ok (.bastore, 1)) (K : sm_W l lo hi d q (pc + 1) lv st (sm_up h a i.toNatClampNeg (x.toInt8.toInt32)) r h') : sm_W l lo hi d q pc lv (.int x :: .int i :: .ref a :: st) h r h' := by
  intro E hI p e s m args below meth c0 C H locs ls hP hS hl
  have hw := sm_ws_get (E := E) (h := h) ha.1 ha.2.1
  rw [sm_ent1 ha.2.2] at hw
  have hset := sm_ws_set (E := E) ha.1 ha.2.1 (fun j hj => sm_up_ne h a i.toNatClampNeg (x.toInt8.toInt32) j hj)
  rw [sm_ent1 ha.2.2, sm_up_self] at hset
  exact va_bast (D := E.1) C.1 C.2.1 C.2.2.2.2.2.2.2.1.1 hP (sm_D hI h) hS (a - lo) 1 hw rfl (sm_inbE hi') hd (fun H1 locs1 hP1 _ hS1 => K E hI p e s m args below meth c0 C H1 locs1 ls (by rw [← hset]; exact hP1) hS1 hl)
theorem sm_zald {n a : Nat} {i : Int32} (ha : sm_arr lo hi 2 n a) (hi' : sm_inb i n = true) (hd : decode q.2.1 pc = .ok (.baload, 1)) (K : sm_W l lo hi d q (pc + 1) lv (.int (h a i.toNatClampNeg) :: st) h r h') : sm_W l lo hi d q pc lv (.int i :: .ref a :: st) h r h' := by
  intro E hI p e s m args below meth c0 C H locs ls hP hS hl
  have hw := sm_ws_get (E := E) (h := h) ha.1 ha.2.1
  rw [sm_ent1 ha.2.2] at hw
  exact va_zald (D := E.1) C.1 C.2.1 C.2.2.2.2.2.2.2.1.1 hP (a - lo) 2 hw rfl (sm_inbE hi') hd (K E hI p e s m args below meth c0 C H locs ls hP hS hl)
theorem sm_zast {n a : Nat} {i x : Int32} (ha : sm_arr lo hi 2 n a) (hi' : sm_inb i n = true) (hd : decode q.2.1 pc = .ok (.bastore, 1)) (K : sm_W l lo hi d q (pc + 1) lv st (sm_up h a i.toNatClampNeg (sm_zn x)) r h') : sm_W l lo hi d q pc lv (.int x :: .int i :: .ref a :: st) h r h' := by
  intro E hI p e s m args below meth c0 C H locs ls hP hS hl
  have hw := sm_ws_get (E := E) (h := h) ha.1 ha.2.1
  rw [sm_ent1 ha.2.2] at hw
  have hset := sm_ws_set (E := E) ha.1 ha.2.1 (fun j hj => sm_up_ne h a i.toNatClampNeg (sm_zn x) j hj)
  rw [sm_ent1 ha.2.2, sm_up_self] at hset
  exact va_zast (D := E.1) C.1 C.2.1 C.2.2.2.2.2.2.2.1.1 hP (sm_D hI h) hS (a - lo) 2 hw rfl (sm_inbE hi') hd (fun H1 locs1 hP1 _ hS1 => K E hI p e s m args below meth c0 C H1 locs1 ls (by rw [← hset]; exact hP1) hS1 hl)
theorem sm_alen {t n a : Nat} (ha : sm_arr lo hi t n a) (ht : Nat.ble (t + 1) 3 = true) (hd : decode q.2.1 pc = .ok (.arraylength, 1)) (K : sm_W l lo hi d q (pc + 1) lv (.int (nI n) :: st) h r h') : sm_W l lo hi d q pc lv (.ref a :: st) h r h' := by
  intro E hI p e s m args below meth c0 C H locs ls hP hS hl
  have hw := sm_ws_get (E := E) (h := h) ha.1 ha.2.1
  rw [sm_ent1 ha.2.2] at hw
  have ht2 : ∃ ty, (sm_tys E)[t]? = some (E.2.1 t, ty) := by
    have := Nat.le_of_ble_eq_true ht
    match t, this with
    | 0, _ => exact ⟨_, rfl⟩
    | 1, _ => exact ⟨_, rfl⟩
    | 2, _ => exact ⟨_, rfl⟩
    | t + 3, z => omega
  obtain ⟨ty, hty⟩ := ht2
  exact va_alen (D := E.1) C.1 C.2.1 C.2.2.2.2.2.2.2.1.1 hP (a - lo) t hw hty rfl hd (K E hI p e s m args below meth c0 C H locs ls hP hS hl)
theorem sm_aald {b k a v : Nat} {i : Int32} (ha : sm_at lo hi (2, b, k) a) (hi' : sm_inb i 3 = true) (hv : decide (h a i.toNatClampNeg = nI v) = true) (hv2 : Nat.ble 1 v = true ∧ v < 1000) (hd : decode q.2.1 pc = .ok (.aaload, 1)) (K : sm_W l lo hi d q (pc + 1) lv (.ref v :: st) h r h') : sm_W l lo hi d q pc lv (.int i :: .ref a :: st) h r h' := by
  intro E hI p e s m args below meth c0 C H locs ls hP hS hl
  have hw := sm_ws_get (E := E) (h := h) ha.1 (sm_at_lt ha)
  rw [sm_ent2 ha.2.2] at hw
  have e1 := of_decide_eq_true hv
  have e2 := Nat.le_of_ble_eq_true hv2.1
  refine va_aldq (D := E.1) C.1 C.2.1 C.2.2.2.2.2.2.2.1.1 hP (a - lo) 3 hw rfl (sm_inbE hi') hd ?_
  rw [e1, if_neg (nI_ne0 (by omega) (by omega)), nI_clamp (by omega)]
  exact K E hI p e s m args below meth c0 C H locs ls hP hS hl
-- calls
def sm_CV (own : String) (idx : Nat) (q' : sm_M) (n : Nat) : Prop := (Cond.methodLink own idx q'.1 ∈ sm_LT ∧ Cond.instanceMethod q'.1 ∈ sm_LT ∧ Cond.selects q'.1.cls q'.1 q'.1 ∈ sm_LT ∧ Cond.initialized q'.1.cls ∈ sm_LT ∧ Cond.code q'.1 q'.2.1 q'.2.2.1 q'.2.2.2 ∈ sm_LT) ∧ (q'.1.cls ≠ "java/lang/invoke/MethodHandle" ∧ q'.1.cls ≠ "java/lang/invoke/VarHandle" ∧ (parseMethodDescriptor q'.1.desc).map (fun d => d.parameters.length) = some n) ∧ Nat.ble q'.2.2.1 45 = true
def sm_CS (own : String) (idx : Nat) (q' : sm_M) (n : Nat) : Prop := (Cond.methodLink own idx q'.1 ∈ sm_LT ∧ Cond.static q'.1 ∈ sm_LT ∧ Cond.initialized q'.1.cls ∈ sm_LT ∧ Cond.code q'.1 q'.2.1 q'.2.2.1 q'.2.2.2 ∈ sm_LT) ∧ (q'.1.cls ≠ "java/lang/invoke/MethodHandle" ∧ q'.1.cls ≠ "java/lang/invoke/VarHandle" ∧ (parseMethodDescriptor q'.1.desc).map (fun d => d.parameters.length) = some n) ∧ Nat.ble q'.2.2.1 45 = true
def sm_CN (own : String) (idx : Nat) (q' : sm_M) (n : Nat) : Prop := (Cond.methodLinkNest own idx q'.1 "SmokeControl" ∈ sm_NL ∧ Cond.static q'.1 ∈ sm_LT ∧ Cond.initialized q'.1.cls ∈ sm_LT ∧ Cond.code q'.1 q'.2.1 q'.2.2.1 q'.2.2.2 ∈ sm_LT) ∧ (q'.1.cls ≠ "java/lang/invoke/MethodHandle" ∧ q'.1.cls ≠ "java/lang/invoke/VarHandle" ∧ (parseMethodDescriptor q'.1.desc).map (fun d => d.parameters.length) = some n) ∧ Nat.ble q'.2.2.1 45 = true
theorem sm_good {w : Cond} (hw : w ∈ sm_LT) : (w.onTables && w.keeps) = true ∨ ∃ ty, w = .arrayClass ty := good_of_word (List.mem_filter.mp hw).2
theorem sm_goodIn {q' : sm_M} (hc : Cond.code q'.1 q'.2.1 q'.2.2.1 q'.2.2.2 ∈ sm_LT) : GoodIn (sm_w q) (sm_w q') := by
  intro w hw
  rcases List.mem_cons.mp hw with rfl | hw
  · exact ⟨List.mem_cons_of_mem _ hc, sm_good hc⟩
  · exact ⟨List.mem_cons_of_mem _ hw, sm_good hw⟩
theorem sm_blind (lo hi : Nat) (E : sm_E) (av : List Value) (h : sm_H) : FrameBlind (sm_Pc lo hi E av h) := fun a U g mk z => ⟨z.1, z.2.1, sm_KK.same (s := U) (U := U.calling g mk a) rfl z.2.2.1, sm_ST.moved (u := U) (U := U.calling g mk a) (Vm.Alike.refl U.vm) z.2.2.2⟩
theorem sm_pre {E : sm_E} {s U : State} {H : Heap} {locs : List Loc} {av : List Value} (hK : sm_KK E s) (hT : sm_ST lo hi E s s.heap) (hP : va_P E.1 sm_cl (sm_ws lo hi E h) H) (hS : va_S (sm_A lo hi E) s.heap H locs) (hU : U.heap = H) (hW : s.WarmedH U.vm) : sm_Pc lo hi E av h (av.map (sm_cv E)).toArray U :=
  ⟨rfl, by rw [hU]; exact hP, sm_KK.warm hW hK, by rw [hU]; exact (hT.kept hS.2.1).moved hW.alike⟩
theorem sm_back {E : sm_E} {p : Program} {e : Env} {s : State} {m : MethodId} {args : Array Value} {below : List Frame} {meth : Method} {c0 : Code} {H : Heap} {locs : List Loc} {ls : Array Slot} {st0 rest : List Value} {rv : Option Value} {h1 : sm_H} {a : Array Value} {Q : State → Prop} {R : Room} {pc : Nat}
    (hr : va_Run p l e R s m args below meth c0 H locs 0 0 0 0 (F0 m pc ls st0) (rest.map (sm_cv E)) (sm_Qc lo hi E rv h1 a) (sm_A lo hi E)) (hS : va_S (sm_A lo hi E) s.heap H locs)
    (K : ∀ (H1 : Heap) (locs1 : List Loc), va_P E.1 sm_cl (sm_ws lo hi E h1) H1 → va_S (sm_A lo hi E) s.heap H1 locs1 → W p l e R s m args below meth c0 H1 locs1 0 0 Q (F0 m (pc + 3) ls ((rv.toList ++ rest).map (sm_cv E)))) : W p l e R s m args below meth c0 H locs 0 0 Q (F0 m pc ls st0) := by
  intro T hT X
  obtain ⟨v, st₀, t, T', L, h0, X', hL, e1, e2, ⟨hv, hP1, hz, hk⟩, go⟩ := hr T hT X
  have hv2 : v = rv.map (sm_cv E) := by injection hv
  subst hv2
  rw [h0] at hz hk
  have es : (rv.toList ++ rest).map (sm_cv E) = (rv.map (sm_cv E)).toList ++ rest.map (sm_cv E) := by cases rv <;> rfl
  have K2 := K T'.heap (locs ++ L) (by rw [e1]; exact hP1) ⟨Nat.le_trans hS.1 (by rw [e1]; exact hz), fun q h1 h2 => by rw [e1, hk q (Nat.lt_of_lt_of_le h1 hS.1) h2]; exact hS.2.1 q h1 h2, fun q hq => by
      rcases List.mem_append.mp hq with g | g
      · exact hS.2.2 q g
      · exact hL q g⟩
  rw [es] at K2
  obtain ⟨t2, a1, b1⟩ := K2 T' rfl X'
  exact ⟨t2, go _ a1, b1⟩
theorem sm_room {d : Nat} {q' : sm_M} (h : Nat.ble q'.2.2.1 45 = true) : (sm_rm d).frames + 1 ≤ (sm_rm (d + 1)).frames ∧ 8 + (q'.2.2.1 + 11) + (sm_rm d).locals ≤ (sm_rm (d + 1)).locals := by
  have := Nat.le_of_ble_eq_true h
  refine ⟨Nat.le_refl _, ?_⟩
  show 8 + (q'.2.2.1 + 11) + 64 * d ≤ 64 * (d + 1)
  omega
theorem sm_cat (E : sm_E) (st : List Value) : ((st.map (sm_cv E)).map fun v => v.category).sum = (st.map fun v => v.category).sum := by
  rw [List.map_map]
  congr 1
  apply List.map_congr_left
  intro v _
  exact sm_cv_cat E v
theorem sm_callV {idx n c b : Nat} {q' : sm_M} {As : List Value} {rv : Option Value} {h1 : sm_H} {z : vw_C} (cv : sm_CV q.1.cls idx q' n) (hz : sm_cl[c]? = some z) (hzq : z.1 = q'.1.cls) (hb : sm_at lo hi (0, c, 0) b) (hM : sm_Met l lo hi d q' (.ref b :: As) h rv h1) (hn : As.length = n) (hst : Nat.ble ((st.map fun v => v.category).sum) 8 = true) (hd : decode q.2.1 pc = .ok (.invokevirtual idx, 3)) (K : sm_W l lo hi (d + 1) q (pc + 3) lv (rv.toList ++ st) h1 r h') : sm_W l lo hi (d + 1) q pc lv (As.reverse ++ .ref b :: st) h r h' := by
  intro E hI p e s m args below meth c0 C H locs ls hP hS hl
  obtain ⟨⟨w1, w2, w3, w4, w5⟩, hy, hml⟩ := cv
  have hw := sm_ws_get (E := E) (h := h) hb.1 (sm_at_lt hb)
  rw [sm_ent0 hb.2.2] at hw
  have hts := C.2.2.2.2.2.2.1
  have hT : GoodIn (sm_w q) (wsV q.1.cls idx q'.1.cls q'.1 (sm_w q')) := by
    intro w hw
    unfold wsV at hw
    rcases List.mem_append.mp hw with g | g
    · simp only [List.mem_cons, List.not_mem_nil, or_false] at g
      rcases g with rfl | rfl | rfl | rfl
      · exact ⟨List.mem_cons_of_mem _ w1, sm_good w1⟩
      · exact ⟨List.mem_cons_of_mem _ w2, sm_good w2⟩
      · exact ⟨List.mem_cons_of_mem _ w3, sm_good w3⟩
      · exact ⟨List.mem_cons_of_mem _ w4, sm_good w4⟩
    · exact sm_goodIn w5 w g
  have hrc := va_recv (q := z) (C.2.2.2.2.2.2.2.1.1) hP hz hw
  rw [hzq] at hrc
  refine sm_back (va_runV (Ts := sm_w q) (As := As.map (sm_cv E)) (rest := st.map (sm_cv E)) (nL := q.2.2.1) ⟨C.1, C.2.1, C.2.2.1, C.2.2.2.2.2.1, hts⟩ (hM E hI) (cwV n hts hT rfl rfl rfl ⟨rfl, hy.1, hy.2.1, hy.2.2⟩ (sm_room hml)) ⟨sm_blind lo hi E (.ref b :: As) h, hrc, fun U hU hW => sm_pre (av := .ref b :: As) C.2.2.2.2.2.2.2.1 C.2.2.2.2.2.2.2.2 hP hS hU hW⟩ rfl (by rw [List.length_map]; exact hn) hl.1 (by show (As.reverse ++ .ref b :: st).map (sm_cv E) = _; rw [List.map_append, List.map_reverse]; rfl) (lv_room (by rw [sm_cat]; exact Nat.le_of_ble_eq_true hst)) hd ⟨Nat.zero_le _, Nat.zero_le _⟩) hS (fun H1 locs1 hP1 hS1 => K E hI p e s m args below meth c0 C H1 locs1 ls hP1 hS1 hl)
theorem sm_callS {idx n : Nat} {q' : sm_M} {As : List Value} {rv : Option Value} {h1 : sm_H} (cv : sm_CS q.1.cls idx q' n) (hM : sm_Met l lo hi d q' As h rv h1) (hn : As.length = n) (hst : Nat.ble ((st.map fun v => v.category).sum) 8 = true) (hd : decode q.2.1 pc = .ok (.invokestatic idx, 3)) (K : sm_W l lo hi (d + 1) q (pc + 3) lv (rv.toList ++ st) h1 r h') : sm_W l lo hi (d + 1) q pc lv (As.reverse ++ st) h r h' := by
  intro E hI p e s m args below meth c0 C H locs ls hP hS hl
  obtain ⟨⟨w1, w2, w4, w5⟩, hy, hml⟩ := cv
  have hts := C.2.2.2.2.2.2.1
  have ht := fun w (hw : w ∈ sm_LT) => hts w (List.mem_cons_of_mem _ hw)
  refine sm_back (va_runS (Ts := sm_w q) (As := As.map (sm_cv E)) (rest := st.map (sm_cv E)) (nL := q.2.2.1) ⟨C.1, C.2.1, C.2.2.1, C.2.2.2.2.2.1, hts⟩ (hM E hI) ⟨callB_of n hts (sm_goodIn w5) rfl rfl rfl (ht _ w4) (ht _ w1) hy (sm_room hml), ht _ w2⟩ ⟨sm_blind lo hi E As h, fun U hU hW => sm_pre (av := As) C.2.2.2.2.2.2.2.1 C.2.2.2.2.2.2.2.2 hP hS hU hW⟩ rfl (by rw [List.length_map]; exact hn) hl.1 (by show (As.reverse ++ st).map (sm_cv E) = _; rw [List.map_append, List.map_reverse]) (lv_room (by rw [sm_cat]; exact Nat.le_of_ble_eq_true hst)) hd ⟨Nat.zero_le _, Nat.zero_le _⟩) hS (fun H1 locs1 hP1 hS1 => K E hI p e s m args below meth c0 C H1 locs1 ls hP1 hS1 hl)
theorem sm_callN {idx n : Nat} {q' : sm_M} {As : List Value} {rv : Option Value} {h1 : sm_H} (cv : sm_CN q.1.cls idx q' n) (hM : sm_Met l lo hi d q' As h rv h1) (hn : As.length = n) (hst : Nat.ble ((st.map fun v => v.category).sum) 8 = true) (hd : decode q.2.1 pc = .ok (.invokestatic idx, 3)) (K : sm_W l lo hi (d + 1) q (pc + 3) lv (rv.toList ++ st) h1 r h') : sm_W l lo hi (d + 1) q pc lv (As.reverse ++ st) h r h' := by
  intro E hI p e s m args below meth c0 C H locs ls hP hS hl
  obtain ⟨⟨w1, w2, w4, w5⟩, hy, hml⟩ := cv
  have hts := C.2.2.2.2.2.2.1
  have ht := fun w (hw : w ∈ sm_LT) => hts w (List.mem_cons_of_mem _ hw)
  refine sm_back (va_runSN (Ts := sm_w q) (As := As.map (sm_cv E)) (rest := st.map (sm_cv E)) (nL := q.2.2.1) ⟨C.1, C.2.1, C.2.2.1, C.2.2.2.2.2.1, hts⟩ (hM E hI) ⟨va_cnB n hts (sm_goodIn w5) rfl rfl rfl (C.2.2.2.2.2.2.2.1.2.1 _ w1) (ht _ w4) hy (sm_room hml), ht _ w2, trivial⟩ ⟨sm_blind lo hi E As h, fun U hU hW => sm_pre (av := As) C.2.2.2.2.2.2.2.1 C.2.2.2.2.2.2.2.2 hP hS hU hW⟩ rfl (by rw [List.length_map]; exact hn) hl.1 (by show (As.reverse ++ st).map (sm_cv E) = _; rw [List.map_append, List.map_reverse]) (lv_room (by rw [sm_cat]; exact Nat.le_of_ble_eq_true hst)) hd ⟨Nat.zero_le _, Nat.zero_le _⟩) hS (fun H1 locs1 hP1 hS1 => K E hI p e s m args below meth c0 C H1 locs1 ls hP1 hS1 hl)
end sm_rows2
