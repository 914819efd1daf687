-- helpers of the lifted functions
def sm_N : Nat := 20000
def sm_b2 {α β γ : Type} (x : Option (α × β)) (F : α → β → Option γ) : Option γ := x.bind (fun z => F z.1 z.2)
theorem sm_b2E {α β γ : Type} {x : Option (α × β)} {F : α → β → Option γ} {R : γ} (h : sm_b2 x F = some R) : ∃ a b, x = some (a, b) ∧ F a b = some R := by
  obtain ⟨v, h1, h2⟩ := sm_bindE h
  exact ⟨v.1, v.2, h1, h2⟩
theorem sm_ret1 {α : Type} {a b : α} (h : some a = some b) : b = a := (Option.some.inj h).symm
theorem sm_ret2 {α β : Type} {a a' : α} {b b' : β} (h : some (a, b) = some (a', b')) : a' = a ∧ b' = b := by
  injection h with h
  injection h with h1 h2
  exact ⟨h1.symm, h2.symm⟩
theorem sm_letV {α β : Type} {e v : α} {F : α → Option β} {R : β} (hv : v = e) (h : sm_let e F = some R) : F v = some R := by rw [hv]; exact h
theorem sm_ev {lo hi : Nat} {K : Nat × Nat × Nat} {v e : Nat} (hv : v = e) (h : sm_at lo hi K e) : sm_at lo hi K v := by rw [hv]; exact h
theorem sm_plant0 {lo hi i : Nat} (h : sm_at lo hi (0, 4, 0) i) : ¬ i = 0 := by
  rcases sm_plants h.2.2 with e | e <;> omega
theorem sm_plantB {lo hi i : Nat} (h : sm_at lo hi (0, 4, 0) i) : i < 2 ^ 31 := by
  rcases sm_plants h.2.2 with e | e <;> omega
def sm_cpOK (sp dp n : Int32) (n0 n1 : Nat) : Bool := decide (¬ sp < 0 ∧ ¬ dp < 0 ∧ ¬ n < 0 ∧ sp.toNatClampNeg + n.toNatClampNeg ≤ n0 ∧ dp.toNatClampNeg + n.toNatClampNeg ≤ n1)
def sm_sln (k : Nat) : Nat := sm_sl.getD k 0
def sm_sch (k j : Nat) : Int32 := (sm_sb.getD k []).getD j 0
theorem sm_swOut {x : Int32} (a n : Nat) (ha : a < 1000) (hn : n < 1000) (h : ∀ j, j < n → ¬ x = nI (a + j)) : x.toInt < (a : Int) ∨ ((a + n : Nat) : Int) - 1 < x.toInt := by
  by_cases h1 : x.toInt < (a : Int)
  · exact Or.inl h1
  · by_cases h2 : ((a + n : Nat) : Int) - 1 < x.toInt
    · exact Or.inr h2
    · exfalso
      have hj : (x.toInt - (a : Int)).toNat < n := by omega
      refine h _ hj (Int32.toInt_inj.mp ?_)
      rw [nI_toInt (by omega)]
      omega
theorem sm_slot {lo hi a : Nat} {i : Int32} (ha : sm_at lo hi (2, 67, 13) a) (hi' : sm_inb i 3 = true) (hr : 106 ≤ hi) : sm_at lo hi (0, 7, 0) (67 + 13 * i.toNatClampNeg) := by
  have hz := sm_inbE hi'
  have h3 : i.toNatClampNeg < 3 := Nat.not_le.mp fun q => hz (Or.inr q)
  have ha0 : a = 66 := by
    have hi2 : a < 132 := by
      by_cases z : a < 132
      · exact z
      · have := ha.2.2
        rw [sm_Ly_out (by omega)] at this
        cases this
    have g : ((List.range 132).all fun i => !decide (sm_Ly i = (2, 67, 13)) || decide (i = 66)) = true := by decide +kernel
    have g2 := List.all_eq_true.mp g a (List.mem_range.mpr hi2)
    simp only [ha.2.2, decide_true, Bool.not_true, Bool.false_or, decide_eq_true_eq] at g2
    exact g2
  have h1 := ha.1
  have e : sm_sz (0, 7, 0) = 13 := rfl
  generalize hk : i.toNatClampNeg = k at h3 ⊢
  match k, h3 with
  | 0, _ => exact ⟨by omega, by omega, rfl⟩
  | 1, _ => exact ⟨by omega, by omega, rfl⟩
  | 2, _ => exact ⟨by omega, by omega, rfl⟩
  | k + 3, z => omega
theorem sm_slotB {i : Int32} (hi' : sm_inb i 3 = true) : Nat.ble 1 (67 + 13 * i.toNatClampNeg) = true ∧ 67 + 13 * i.toNatClampNeg < 1000 := by
  have hz := sm_inbE hi'
  have h3 : i.toNatClampNeg < 3 := Nat.not_le.mp fun q => hz (Or.inr q)
  refine ⟨Nat.ble_eq.mpr (by omega), by omega⟩
theorem sm_scHi {lo hi a : Nat} (h : sm_at lo hi (0, 9, 0) a) : 106 ≤ hi := by
  have h2 := h.2.1
  have e : sm_sz (0, 9, 0) = 114 := rfl
  omega
section sm_rows3
variable {l : Launch} {lo hi d : Nat} {q : sm_M} {pc : Nat} {lv : List (Nat × Value)} {st : List Value} {h h' : sm_H} {r : Option Value}
theorem sm_nmI {e : Int32} (K : ∀ v : Int32, v = e → sm_W l lo hi d q pc lv (.int v :: st) h r h') : sm_W l lo hi d q pc lv (.int e :: st) h r h' := K e rfl
theorem sm_nmJ {e : Int64} (K : ∀ v : Int64, v = e → sm_W l lo hi d q pc lv (.long v :: st) h r h') : sm_W l lo hi d q pc lv (.long e :: st) h r h' := K e rfl
theorem sm_nmR {e : Nat} (K : ∀ v : Nat, v = e → sm_W l lo hi d q pc lv (.ref v :: st) h r h') : sm_W l lo hi d q pc lv (.ref e :: st) h r h' := K e rfl
theorem sm_nmH {e : sm_H} (K : ∀ v : sm_H, v = e → sm_W l lo hi d q pc lv st v r h') : sm_W l lo hi d q pc lv st e r h' := K e rfl
def sm_CY (own : String) (idx : Nat) : Prop := Cond.methodLink own idx arraycopyName ∈ sm_LT ∧ Cond.native arraycopyName ∈ sm_LT ∧ Cond.static arraycopyName ∈ sm_LT ∧ Cond.initialized "java/lang/System" ∈ sm_LT
theorem sm_acopy {idx a b n0 n1 : Nat} {sp dp n : Int32} (cv : sm_CY q.1.cls idx) (ha : sm_arr lo hi 0 n0 a) (hb : sm_arr lo hi 0 n1 b) (hg : sm_cpOK sp dp n n0 n1 = true) (hst : Nat.ble ((st.map fun v => v.category).sum) 8 = true) (hd : decode q.2.1 pc = .ok (.invokestatic idx, 3)) (K : sm_W l lo hi (d + 1) q (pc + 3) lv st (sm_row h b (va_cpy (h a) (h b) sp.toNatClampNeg dp.toNatClampNeg n.toNatClampNeg)) r h') : sm_W l lo hi (d + 1) q pc lv (.int n :: .int dp :: .ref b :: .int sp :: .ref a :: st) h r h' := by
  intro E hI p e s m args below meth c0 C H locs ls hP hS hl
  obtain ⟨w1, w2, w3, w4⟩ := cv
  have hg2 := of_decide_eq_true hg
  obtain ⟨g1, g2, g3, g4, g5⟩ := hg2
  have ht := fun w (hw : w ∈ sm_LT) => C.2.2.2.2.2.2.1 w (List.mem_cons_of_mem _ hw)
  have hwa := sm_ws_get (E := E) (h := h) ha.1 ha.2.1
  rw [sm_ent1 ha.2.2] at hwa
  have hwb := sm_ws_get (E := E) (h := h) hb.1 hb.2.1
  rw [sm_ent1 hb.2.2] at hwb
  have hset := sm_ws_set (E := E) (h := h) (h' := sm_row h b (va_cpy (h a) (h b) sp.toNatClampNeg dp.toNatClampNeg n.toNatClampNeg)) hb.1 hb.2.1 (fun j hj => by unfold sm_row; rw [if_neg hj])
  rw [sm_ent1 hb.2.2] at hset
  have e1 : sm_row h b (va_cpy (h a) (h b) sp.toNatClampNeg dp.toNatClampNeg n.toNatClampNeg) b = va_cpy (h a) (h b) sp.toNatClampNeg dp.toNatClampNeg n.toNatClampNeg := by unfold sm_row; rw [if_pos rfl]
  rw [e1] at hset
  exact va_copyi (D := E.1) C.1 C.2.1 (C.2.2.1.trans hl.1.symm) C.2.2.2.2.2.1 (ht _ w1) (ht _ w2) (ht _ w3) (ht _ w4) C.2.2.2.2.2.2.2.1.1 hP (sm_D hI h) hS (a - lo) (b - lo) 0 0 (ty := .int) hwa hwb rfl rfl rfl g1 g2 g3 g4 g5 (fun _ _ => rfl) (by show 1 ≤ d + 1; omega) (by
    rw [sm_cat]
    have := Nat.le_of_ble_eq_true hst
    have e2 : nativeFrameWords "java/lang/System" "arraycopy" 5 = 7 := by decide +kernel
    rw [e2]
    show _ ≤ 64 * (d + 1)
    omega) hd (fun H1 locs1 hP1 _ hS1 => K E hI p e s m args below meth c0 C H1 locs1 ls (by rw [← hset]; exact hP1) hS1 hl)
-- a call of String's own
theorem sm_callJ {idx n k : Nat} {q' : sm_M} {As : List Value} {rv : Option Value} {h1 : sm_H} (cv : sm_CV q.1.cls idx q' n) (hk : Nat.ble (k + 1) 28 = true) (hM : sm_Met l lo hi d q' (.ref (5000 + k) :: As) h rv h1) (hn : As.length = n) (hst : Nat.ble ((st.map fun v => v.category).sum) 8 = true) (hd : decode q.2.1 pc = .ok (.invokevirtual idx, 3)) (K : sm_W l lo hi (d + 1) q (pc + 3) lv (rv.toList ++ st) h1 r h') (hq : q'.1.cls = "java/lang/String" := by rfl) : sm_W l lo hi (d + 1) q pc lv (As.reverse ++ .ref (5000 + k) :: st) h r h' := by
  intro E hI p e s m args below meth c0 C H locs ls hP hS hl
  obtain ⟨⟨w1, w2, w3, w4, w5⟩, hy, hml⟩ := cv
  have hts := C.2.2.2.2.2.2.1
  have hT : GoodIn (sm_w q) (wsV q.1.cls idx q'.1.cls q'.1 (sm_w q')) := by
    intro w hw
    unfold wsV at hw
    rcases List.mem_append.mp hw with g | g
    · simp only [List.mem_cons, List.not_mem_nil, or_false] at g
      rcases g with rfl | rfl | rfl | rfl
      · exact ⟨List.mem_cons_of_mem _ w1, sm_good w1⟩
      · exact ⟨List.mem_cons_of_mem _ w2, sm_good w2⟩
      · exact ⟨List.mem_cons_of_mem _ w3, sm_good w3⟩
      · exact ⟨List.mem_cons_of_mem _ w4, sm_good w4⟩
    · exact sm_goodIn w5 w g
  have hV := C.2.2.2.2.2.2.2.2.1
  have hrc := vk_recv (s := s) (i := k) hV (Nat.le_of_ble_eq_true hk) hS
  rw [← hq] at hrc
  refine sm_back (va_runV (Ts := sm_w q) (As := As.map (sm_cv E)) (rest := st.map (sm_cv E)) (nL := q.2.2.1) ⟨C.1, C.2.1, C.2.2.1, C.2.2.2.2.2.1, hts⟩ (hM E hI) (cwV n hts hT rfl rfl rfl ⟨rfl, hy.1, hy.2.1, hy.2.2⟩ (sm_room hml)) ⟨sm_blind lo hi E (.ref (5000 + k) :: As) h, hrc, fun U hU hW => sm_pre (av := .ref (5000 + k) :: As) C.2.2.2.2.2.2.2.1 C.2.2.2.2.2.2.2.2 hP hS hU hW⟩ rfl (by rw [List.length_map]; exact hn) hl.1 (by show (As.reverse ++ .ref (5000 + k) :: st).map (sm_cv E) = _; rw [List.map_append, List.map_reverse]; rfl) (lv_room (by rw [sm_cat]; exact Nat.le_of_ble_eq_true hst)) hd ⟨Nat.zero_le _, Nat.zero_le _⟩) hS (fun H1 locs1 hP1 hS1 => K E hI p e s m args below meth c0 C H1 locs1 ls hP1 hS1 hl)
end sm_rows3
theorem sm_mt {w : Cond} (h : w ∈ tables_1) (g : goodWord w = true) : w ∈ sm_LT := List.mem_filter.mpr ⟨List.mem_append_right _ h, g⟩
theorem sm_mq1 {w : Cond} (i : Nat) (h : tables_1_1[i]? = some w) (g : goodWord w = true) : w ∈ sm_LT := sm_mt (List.mem_append_left _ (List.mem_of_getElem? h)) g
theorem sm_mq2 {w : Cond} (i : Nat) (h : tables_1_2[i]? = some w) (g : goodWord w = true) : w ∈ sm_LT := sm_mt (List.mem_append_right _ (List.mem_append_left _ (List.mem_of_getElem? h))) g
theorem sm_mq3 {w : Cond} (i : Nat) (h : tables_1_3[i]? = some w) (g : goodWord w = true) : w ∈ sm_LT := sm_mt (List.mem_append_right _ (List.mem_append_right _ (List.mem_append_left _ (List.mem_of_getElem? h)))) g
theorem sm_mq4 {w : Cond} (i : Nat) (h : tables_1_4[i]? = some w) (g : goodWord w = true) : w ∈ sm_LT := sm_mt (List.mem_append_right _ (List.mem_append_right _ (List.mem_append_right _ (List.mem_append_left _ (List.mem_of_getElem? h))))) g
theorem sm_mq5 {w : Cond} (i : Nat) (h : tables_1_5[i]? = some w) (g : goodWord w = true) : w ∈ sm_LT := sm_mt (List.mem_append_right _ (List.mem_append_right _ (List.mem_append_right _ (List.mem_append_right _ (List.mem_append_left _ (List.mem_of_getElem? h)))))) g
theorem sm_mq6 {w : Cond} (i : Nat) (h : tables_1_6[i]? = some w) (g : goodWord w = true) : w ∈ sm_LT := sm_mt (List.mem_append_right _ (List.mem_append_right _ (List.mem_append_right _ (List.mem_append_right _ (List.mem_append_right _ (List.mem_append_left _ (List.mem_of_getElem? h))))))) g
theorem sm_mq7 {w : Cond} (i : Nat) (h : tables_1_7[i]? = some w) (g : goodWord w = true) : w ∈ sm_LT := sm_mt (List.mem_append_right _ (List.mem_append_right _ (List.mem_append_right _ (List.mem_append_right _ (List.mem_append_right _ (List.mem_append_right _ (List.mem_append_left _ (List.mem_of_getElem? h)))))))) g
theorem sm_mq8 {w : Cond} (i : Nat) (h : tables_1_8[i]? = some w) (g : goodWord w = true) : w ∈ sm_LT := sm_mt (List.mem_append_right _ (List.mem_append_right _ (List.mem_append_right _ (List.mem_append_right _ (List.mem_append_right _ (List.mem_append_right _ (List.mem_append_right _ (List.mem_of_getElem? h)))))))) g
theorem sm_ms {q : MethodName × Nat} (h : q ∈ lw_privs) : Cond.selects q.1.cls q.1 q.1 ∈ sm_LT := List.mem_filter.mpr ⟨List.mem_append_left _ (List.mem_map.mpr ⟨q, h, rfl⟩), rfl⟩
theorem sm_ms1 {q : MethodName × Nat} (i : Nat) (h : lw_privs_1[i]? = some q) : Cond.selects q.1.cls q.1 q.1 ∈ sm_LT := sm_ms (List.mem_append_left _ (List.mem_of_getElem? h))
theorem sm_ms2 {q : MethodName × Nat} (i : Nat) (h : lw_privs_2[i]? = some q) : Cond.selects q.1.cls q.1 q.1 ∈ sm_LT := sm_ms (List.mem_append_right _ (List.mem_append_left _ (List.mem_of_getElem? h)))
theorem sm_ms3 {q : MethodName × Nat} (i : Nat) (h : lw_privs_3[i]? = some q) : Cond.selects q.1.cls q.1 q.1 ∈ sm_LT := sm_ms (List.mem_append_right _ (List.mem_append_right _ (List.mem_append_left _ (List.mem_of_getElem? h))))
theorem sm_ms4 {q : MethodName × Nat} (i : Nat) (h : lw_privs_4[i]? = some q) : Cond.selects q.1.cls q.1 q.1 ∈ sm_LT := sm_ms (List.mem_append_right _ (List.mem_append_right _ (List.mem_append_right _ (List.mem_append_left _ (List.mem_of_getElem? h)))))
theorem sm_ms5 {q : MethodName × Nat} (i : Nat) (h : lw_privs_5[i]? = some q) : Cond.selects q.1.cls q.1 q.1 ∈ sm_LT := sm_ms (List.mem_append_right _ (List.mem_append_right _ (List.mem_append_right _ (List.mem_append_right _ (List.mem_append_left _ (List.mem_of_getElem? h))))))
theorem sm_ms6 {q : MethodName × Nat} (i : Nat) (h : lw_privs_6[i]? = some q) : Cond.selects q.1.cls q.1 q.1 ∈ sm_LT := sm_ms (List.mem_append_right _ (List.mem_append_right _ (List.mem_append_right _ (List.mem_append_right _ (List.mem_append_right _ (List.mem_append_left _ (List.mem_of_getElem? h)))))))
theorem sm_ms7 {q : MethodName × Nat} (i : Nat) (h : lw_privs_7[i]? = some q) : Cond.selects q.1.cls q.1 q.1 ∈ sm_LT := sm_ms (List.mem_append_right _ (List.mem_append_right _ (List.mem_append_right _ (List.mem_append_right _ (List.mem_append_right _ (List.mem_append_right _ (List.mem_append_left _ (List.mem_of_getElem? h))))))))
theorem sm_ms8 {q : MethodName × Nat} (i : Nat) (h : lw_privs_8[i]? = some q) : Cond.selects q.1.cls q.1 q.1 ∈ sm_LT := sm_ms (List.mem_append_right _ (List.mem_append_right _ (List.mem_append_right _ (List.mem_append_right _ (List.mem_append_right _ (List.mem_append_right _ (List.mem_append_right _ (List.mem_of_getElem? h))))))))
theorem fl_al_15 : sm_FL "SmokeControl$Alarms" 15 0 1 := ⟨(sm_R0, sm_F0, 4), rfl, Nat.le_of_ble_eq_true rfl, (sm_mq2 23 (by decide +kernel) rfl)⟩
theorem fl_al_18 : sm_FL "SmokeControl$Alarms" 18 0 2 := ⟨(sm_R0, sm_F0, 4), rfl, Nat.le_of_ble_eq_true rfl, (sm_mq2 25 (by decide +kernel) rfl)⟩
theorem fl_al_21 : sm_FL "SmokeControl$Alarms" 21 0 3 := ⟨(sm_R0, sm_F0, 4), rfl, Nat.le_of_ble_eq_true rfl, (sm_mq2 28 (by decide +kernel) rfl)⟩
theorem fl_al_24 : sm_FL "SmokeControl$Alarms" 24 7 0 := ⟨(sm_R7, sm_F7, 18), rfl, Nat.le_of_ble_eq_true rfl, (sm_mq2 80 (by decide +kernel) rfl)⟩
theorem fl_al_30 : sm_FL "SmokeControl$Alarms" 30 4 0 := ⟨(sm_R4, sm_F4, 16), rfl, Nat.le_of_ble_eq_true rfl, (sm_mq1 88 (by decide +kernel) rfl)⟩
theorem fl_al_35 : sm_FL "SmokeControl$Alarms" 35 7 9 := ⟨(sm_R7, sm_F7, 18), rfl, Nat.le_of_ble_eq_true rfl, (sm_mq2 109 (by decide +kernel) rfl)⟩
theorem fl_al_47 : sm_FL "SmokeControl$Alarms" 47 7 17 := ⟨(sm_R7, sm_F7, 18), rfl, Nat.le_of_ble_eq_true rfl, (sm_mq2 134 (by decide +kernel) rfl)⟩
theorem fl_al_51 : sm_FL "SmokeControl$Alarms" 51 7 1 := ⟨(sm_R7, sm_F7, 18), rfl, Nat.le_of_ble_eq_true rfl, (sm_mq2 83 (by decide +kernel) rfl)⟩
theorem fl_al_9 : sm_FL "SmokeControl$Alarms" 9 0 0 := ⟨(sm_R0, sm_F0, 4), rfl, Nat.le_of_ble_eq_true rfl, (sm_mq2 20 (by decide +kernel) rfl)⟩
theorem fl_co_102 : sm_FL "SmokeControl$Commands" 102 6 7 := ⟨(sm_R6, sm_F6, 9), rfl, Nat.le_of_ble_eq_true rfl, (sm_mq1 56 (by decide +kernel) rfl)⟩
theorem fl_co_117 : sm_FL "SmokeControl$Commands" 117 4 9 := ⟨(sm_R4, sm_F4, 16), rfl, Nat.le_of_ble_eq_true rfl, (sm_mq1 130 (by decide +kernel) rfl)⟩
theorem fl_co_120 : sm_FL "SmokeControl$Commands" 120 4 7 := ⟨(sm_R4, sm_F4, 16), rfl, Nat.le_of_ble_eq_true rfl, (sm_mq1 121 (by decide +kernel) rfl)⟩
theorem fl_co_126 : sm_FL "SmokeControl$Commands" 126 6 5 := ⟨(sm_R6, sm_F6, 9), rfl, Nat.le_of_ble_eq_true rfl, (sm_mq1 52 (by decide +kernel) rfl)⟩
theorem fl_co_129 : sm_FL "SmokeControl$Commands" 129 6 3 := ⟨(sm_R6, sm_F6, 9), rfl, Nat.le_of_ble_eq_true rfl, (sm_mq1 48 (by decide +kernel) rfl)⟩
theorem fl_co_134 : sm_FL "SmokeControl$Commands" 134 6 4 := ⟨(sm_R6, sm_F6, 9), rfl, Nat.le_of_ble_eq_true rfl, (sm_mq1 50 (by decide +kernel) rfl)⟩
theorem fl_co_141 : sm_FL "SmokeControl$Commands" 141 0 2 := ⟨(sm_R0, sm_F0, 4), rfl, Nat.le_of_ble_eq_true rfl, (sm_mq2 26 (by decide +kernel) rfl)⟩
theorem fl_co_144 : sm_FL "SmokeControl$Commands" 144 7 6 := ⟨(sm_R7, sm_F7, 18), rfl, Nat.le_of_ble_eq_true rfl, (sm_mq2 101 (by decide +kernel) rfl)⟩
theorem fl_co_147 : sm_FL "SmokeControl$Commands" 147 7 1 := ⟨(sm_R7, sm_F7, 18), rfl, Nat.le_of_ble_eq_true rfl, (sm_mq2 84 (by decide +kernel) rfl)⟩
theorem fl_co_15 : sm_FL "SmokeControl$Commands" 15 1 1 := ⟨(sm_R1, sm_F1, 3), rfl, Nat.le_of_ble_eq_true rfl, (sm_mq2 188 (by decide +kernel) rfl)⟩
theorem fl_co_150 : sm_FL "SmokeControl$Commands" 150 0 3 := ⟨(sm_R0, sm_F0, 4), rfl, Nat.le_of_ble_eq_true rfl, (sm_mq2 29 (by decide +kernel) rfl)⟩
theorem fl_co_153 : sm_FL "SmokeControl$Commands" 153 7 11 := ⟨(sm_R7, sm_F7, 18), rfl, Nat.le_of_ble_eq_true rfl, (sm_mq2 117 (by decide +kernel) rfl)⟩
theorem fl_co_156 : sm_FL "SmokeControl$Commands" 156 4 8 := ⟨(sm_R4, sm_F4, 16), rfl, Nat.le_of_ble_eq_true rfl, (sm_mq1 127 (by decide +kernel) rfl)⟩
theorem fl_co_159 : sm_FL "SmokeControl$Commands" 159 7 8 := ⟨(sm_R7, sm_F7, 18), rfl, Nat.le_of_ble_eq_true rfl, (sm_mq2 106 (by decide +kernel) rfl)⟩
theorem fl_co_18 : sm_FL "SmokeControl$Commands" 18 1 2 := ⟨(sm_R1, sm_F1, 3), rfl, Nat.le_of_ble_eq_true rfl, (sm_mq2 191 (by decide +kernel) rfl)⟩
theorem fl_co_21 : sm_FL "SmokeControl$Commands" 21 7 0 := ⟨(sm_R7, sm_F7, 18), rfl, Nat.le_of_ble_eq_true rfl, (sm_mq2 76 (by decide +kernel) rfl)⟩
theorem fl_co_31 : sm_FL "SmokeControl$Commands" 31 4 1 := ⟨(sm_R4, sm_F4, 16), rfl, Nat.le_of_ble_eq_true rfl, (sm_mq1 94 (by decide +kernel) rfl)⟩
theorem fl_co_37 : sm_FL "SmokeControl$Commands" 37 4 6 := ⟨(sm_R4, sm_F4, 16), rfl, Nat.le_of_ble_eq_true rfl, (sm_mq1 117 (by decide +kernel) rfl)⟩
theorem fl_co_48 : sm_FL "SmokeControl$Commands" 48 4 2 := ⟨(sm_R4, sm_F4, 16), rfl, Nat.le_of_ble_eq_true rfl, (sm_mq1 100 (by decide +kernel) rfl)⟩
theorem fl_co_51 : sm_FL "SmokeControl$Commands" 51 7 2 := ⟨(sm_R7, sm_F7, 18), rfl, Nat.le_of_ble_eq_true rfl, (sm_mq2 87 (by decide +kernel) rfl)⟩
theorem fl_co_55 : sm_FL "SmokeControl$Commands" 55 7 12 := ⟨(sm_R7, sm_F7, 18), rfl, Nat.le_of_ble_eq_true rfl, (sm_mq2 120 (by decide +kernel) rfl)⟩
theorem fl_co_62 : sm_FL "SmokeControl$Commands" 62 7 13 := ⟨(sm_R7, sm_F7, 18), rfl, Nat.le_of_ble_eq_true rfl, (sm_mq2 123 (by decide +kernel) rfl)⟩
theorem fl_co_71 : sm_FL "SmokeControl$Commands" 71 7 16 := ⟨(sm_R7, sm_F7, 18), rfl, Nat.le_of_ble_eq_true rfl, (sm_mq2 131 (by decide +kernel) rfl)⟩
theorem fl_co_75 : sm_FL "SmokeControl$Commands" 75 0 0 := ⟨(sm_R0, sm_F0, 4), rfl, Nat.le_of_ble_eq_true rfl, (sm_mq2 21 (by decide +kernel) rfl)⟩
theorem fl_co_80 : sm_FL "SmokeControl$Commands" 80 4 15 := ⟨(sm_R4, sm_F4, 16), rfl, Nat.le_of_ble_eq_true rfl, (sm_mq1 144 (by decide +kernel) rfl)⟩
theorem fl_co_84 : sm_FL "SmokeControl$Commands" 84 6 0 := ⟨(sm_R6, sm_F6, 9), rfl, Nat.le_of_ble_eq_true rfl, (sm_mq1 41 (by decide +kernel) rfl)⟩
theorem fl_co_9 : sm_FL "SmokeControl$Commands" 9 1 0 := ⟨(sm_R1, sm_F1, 3), rfl, Nat.le_of_ble_eq_true rfl, (sm_mq2 187 (by decide +kernel) rfl)⟩
theorem fl_co_96 : sm_FL "SmokeControl$Commands" 96 6 8 := ⟨(sm_R6, sm_F6, 9), rfl, Nat.le_of_ble_eq_true rfl, (sm_mq1 58 (by decide +kernel) rfl)⟩
theorem fl_co_99 : sm_FL "SmokeControl$Commands" 99 6 6 := ⟨(sm_R6, sm_F6, 9), rfl, Nat.le_of_ble_eq_true rfl, (sm_mq1 54 (by decide +kernel) rfl)⟩
theorem fl_en_108 : sm_FL "SmokeControl$Engine" 108 4 2 := ⟨(sm_R4, sm_F4, 16), rfl, Nat.le_of_ble_eq_true rfl, (sm_mq1 101 (by decide +kernel) rfl)⟩
theorem fl_en_118 : sm_FL "SmokeControl$Engine" 118 7 17 := ⟨(sm_R7, sm_F7, 18), rfl, Nat.le_of_ble_eq_true rfl, (sm_mq2 135 (by decide +kernel) rfl)⟩
theorem fl_en_12 : sm_FL "SmokeControl$Engine" 12 2 0 := ⟨(sm_R2, sm_F2, 4), rfl, Nat.le_of_ble_eq_true rfl, (sm_mq2 200 (by decide +kernel) rfl)⟩
theorem fl_en_128 : sm_FL "SmokeControl$Engine" 128 4 4 := ⟨(sm_R4, sm_F4, 16), rfl, Nat.le_of_ble_eq_true rfl, (sm_mq1 110 (by decide +kernel) rfl)⟩
theorem fl_en_131 : sm_FL "SmokeControl$Engine" 131 7 6 := ⟨(sm_R7, sm_F7, 18), rfl, Nat.le_of_ble_eq_true rfl, (sm_mq2 99 (by decide +kernel) rfl)⟩
theorem fl_en_138 : sm_FL "SmokeControl$Engine" 138 7 3 := ⟨(sm_R7, sm_F7, 18), rfl, Nat.le_of_ble_eq_true rfl, (sm_mq2 90 (by decide +kernel) rfl)⟩
theorem fl_en_163 : sm_FL "SmokeControl$Engine" 163 4 11 := ⟨(sm_R4, sm_F4, 16), rfl, Nat.le_of_ble_eq_true rfl, (sm_mq1 137 (by decide +kernel) rfl)⟩
theorem fl_en_175 : sm_FL "SmokeControl$Engine" 175 4 7 := ⟨(sm_R4, sm_F4, 16), rfl, Nat.le_of_ble_eq_true rfl, (sm_mq1 122 (by decide +kernel) rfl)⟩
theorem fl_en_178 : sm_FL "SmokeControl$Engine" 178 4 9 := ⟨(sm_R4, sm_F4, 16), rfl, Nat.le_of_ble_eq_true rfl, (sm_mq1 131 (by decide +kernel) rfl)⟩
theorem fl_en_18 : sm_FL "SmokeControl$Engine" 18 2 1 := ⟨(sm_R2, sm_F2, 4), rfl, Nat.le_of_ble_eq_true rfl, (sm_mq2 202 (by decide +kernel) rfl)⟩
theorem fl_en_181 : sm_FL "SmokeControl$Engine" 181 4 0 := ⟨(sm_R4, sm_F4, 16), rfl, Nat.le_of_ble_eq_true rfl, (sm_mq1 91 (by decide +kernel) rfl)⟩
theorem fl_en_184 : sm_FL "SmokeControl$Engine" 184 7 9 := ⟨(sm_R7, sm_F7, 18), rfl, Nat.le_of_ble_eq_true rfl, (sm_mq2 110 (by decide +kernel) rfl)⟩
theorem fl_en_187 : sm_FL "SmokeControl$Engine" 187 7 10 := ⟨(sm_R7, sm_F7, 18), rfl, Nat.le_of_ble_eq_true rfl, (sm_mq2 114 (by decide +kernel) rfl)⟩
theorem fl_en_197 : sm_FL "SmokeControl$Engine" 197 4 3 := ⟨(sm_R4, sm_F4, 16), rfl, Nat.le_of_ble_eq_true rfl, (sm_mq1 108 (by decide +kernel) rfl)⟩
theorem fl_en_200 : sm_FL "SmokeControl$Engine" 200 4 12 := ⟨(sm_R4, sm_F4, 16), rfl, Nat.le_of_ble_eq_true rfl, (sm_mq1 140 (by decide +kernel) rfl)⟩
theorem fl_en_203 : sm_FL "SmokeControl$Engine" 203 7 5 := ⟨(sm_R7, sm_F7, 18), rfl, Nat.le_of_ble_eq_true rfl, (sm_mq2 96 (by decide +kernel) rfl)⟩
theorem fl_en_22 : sm_FL "SmokeControl$Engine" 22 2 2 := ⟨(sm_R2, sm_F2, 4), rfl, Nat.le_of_ble_eq_true rfl, (sm_mq2 204 (by decide +kernel) rfl)⟩
theorem fl_en_25 : sm_FL "SmokeControl$Engine" 25 2 3 := ⟨(sm_R2, sm_F2, 4), rfl, Nat.le_of_ble_eq_true rfl, (sm_mq2 206 (by decide +kernel) rfl)⟩
theorem fl_en_28 : sm_FL "SmokeControl$Engine" 28 7 1 := ⟨(sm_R7, sm_F7, 18), rfl, Nat.le_of_ble_eq_true rfl, (sm_mq2 82 (by decide +kernel) rfl)⟩
theorem fl_en_48 : sm_FL "SmokeControl$Engine" 48 7 4 := ⟨(sm_R7, sm_F7, 18), rfl, Nat.le_of_ble_eq_true rfl, (sm_mq2 93 (by decide +kernel) rfl)⟩
theorem fl_en_61 : sm_FL "SmokeControl$Engine" 61 7 16 := ⟨(sm_R7, sm_F7, 18), rfl, Nat.le_of_ble_eq_true rfl, (sm_mq2 130 (by decide +kernel) rfl)⟩
theorem fl_en_70 : sm_FL "SmokeControl$Engine" 70 7 0 := ⟨(sm_R7, sm_F7, 18), rfl, Nat.le_of_ble_eq_true rfl, (sm_mq2 78 (by decide +kernel) rfl)⟩
theorem fl_en_74 : sm_FL "SmokeControl$Engine" 74 4 1 := ⟨(sm_R4, sm_F4, 16), rfl, Nat.le_of_ble_eq_true rfl, (sm_mq1 96 (by decide +kernel) rfl)⟩
theorem fl_en_79 : sm_FL "SmokeControl$Engine" 79 1 1 := ⟨(sm_R1, sm_F1, 3), rfl, Nat.le_of_ble_eq_true rfl, (sm_mq2 189 (by decide +kernel) rfl)⟩
theorem fl_en_82 : sm_FL "SmokeControl$Engine" 82 4 8 := ⟨(sm_R4, sm_F4, 16), rfl, Nat.le_of_ble_eq_true rfl, (sm_mq1 126 (by decide +kernel) rfl)⟩
theorem fl_en_85 : sm_FL "SmokeControl$Engine" 85 7 7 := ⟨(sm_R7, sm_F7, 18), rfl, Nat.le_of_ble_eq_true rfl, (sm_mq2 103 (by decide +kernel) rfl)⟩
theorem fl_en_92 : sm_FL "SmokeControl$Engine" 92 7 11 := ⟨(sm_R7, sm_F7, 18), rfl, Nat.le_of_ble_eq_true rfl, (sm_mq2 116 (by decide +kernel) rfl)⟩
theorem fl_en_95 : sm_FL "SmokeControl$Engine" 95 7 14 := ⟨(sm_R7, sm_F7, 18), rfl, Nat.le_of_ble_eq_true rfl, (sm_mq2 126 (by decide +kernel) rfl)⟩
theorem fl_en_98 : sm_FL "SmokeControl$Engine" 98 4 5 := ⟨(sm_R4, sm_F4, 16), rfl, Nat.le_of_ble_eq_true rfl, (sm_mq1 114 (by decide +kernel) rfl)⟩
theorem fl_lo_13 : sm_FL "SmokeControl$Log" 13 3 2 := ⟨(sm_R3, sm_F3, 4), rfl, Nat.le_of_ble_eq_true rfl, (sm_mq2 49 (by decide +kernel) rfl)⟩
theorem fl_lo_16 : sm_FL "SmokeControl$Log" 16 3 3 := ⟨(sm_R3, sm_F3, 4), rfl, Nat.le_of_ble_eq_true rfl, (sm_mq2 51 (by decide +kernel) rfl)⟩
theorem fl_lo_19 : sm_FL "SmokeControl$Log" 19 3 0 := ⟨(sm_R3, sm_F3, 4), rfl, Nat.le_of_ble_eq_true rfl, (sm_mq2 45 (by decide +kernel) rfl)⟩
theorem fl_lo_9 : sm_FL "SmokeControl$Log" 9 3 1 := ⟨(sm_R3, sm_F3, 4), rfl, Nat.le_of_ble_eq_true rfl, (sm_mq2 47 (by decide +kernel) rfl)⟩
theorem fl_mo_102 : sm_FL "SmokeControlModel" 102 10 15 := ⟨(sm_R10, sm_F10, 35), rfl, Nat.le_of_ble_eq_true rfl, (sm_mq5 215 (by decide +kernel) rfl)⟩
theorem fl_mo_105 : sm_FL "SmokeControlModel" 105 10 11 := ⟨(sm_R10, sm_F10, 35), rfl, Nat.le_of_ble_eq_true rfl, (sm_mq5 211 (by decide +kernel) rfl)⟩
theorem fl_mo_108 : sm_FL "SmokeControlModel" 108 10 10 := ⟨(sm_R10, sm_F10, 35), rfl, Nat.le_of_ble_eq_true rfl, (sm_mq5 210 (by decide +kernel) rfl)⟩
theorem fl_mo_115 : sm_FL "SmokeControlModel" 115 10 13 := ⟨(sm_R10, sm_F10, 35), rfl, Nat.le_of_ble_eq_true rfl, (sm_mq5 213 (by decide +kernel) rfl)⟩
theorem fl_mo_126 : sm_FL "SmokeControlModel" 126 10 12 := ⟨(sm_R10, sm_F10, 35), rfl, Nat.le_of_ble_eq_true rfl, (sm_mq5 212 (by decide +kernel) rfl)⟩
theorem fl_mo_13 : sm_FL "SmokeControlModel" 13 10 1 := ⟨(sm_R10, sm_F10, 35), rfl, Nat.le_of_ble_eq_true rfl, (sm_mq5 201 (by decide +kernel) rfl)⟩
theorem fl_mo_133 : sm_FL "SmokeControlModel" 133 10 17 := ⟨(sm_R10, sm_F10, 35), rfl, Nat.le_of_ble_eq_true rfl, (sm_mq5 217 (by decide +kernel) rfl)⟩
theorem fl_mo_151 : sm_FL "SmokeControlModel" 151 10 14 := ⟨(sm_R10, sm_F10, 35), rfl, Nat.le_of_ble_eq_true rfl, (sm_mq5 214 (by decide +kernel) rfl)⟩
theorem fl_mo_157 : sm_FL "SmokeControlModel" 157 10 19 := ⟨(sm_R10, sm_F10, 35), rfl, Nat.le_of_ble_eq_true rfl, (sm_mq5 219 (by decide +kernel) rfl)⟩
theorem fl_mo_16 : sm_FL "SmokeControlModel" 16 10 2 := ⟨(sm_R10, sm_F10, 35), rfl, Nat.le_of_ble_eq_true rfl, (sm_mq5 202 (by decide +kernel) rfl)⟩
theorem fl_mo_167 : sm_FL "SmokeControlModel" 167 10 20 := ⟨(sm_R10, sm_F10, 35), rfl, Nat.le_of_ble_eq_true rfl, (sm_mq5 220 (by decide +kernel) rfl)⟩
theorem fl_mo_19 : sm_FL "SmokeControlModel" 19 10 3 := ⟨(sm_R10, sm_F10, 35), rfl, Nat.le_of_ble_eq_true rfl, (sm_mq5 203 (by decide +kernel) rfl)⟩
theorem fl_mo_22 : sm_FL "SmokeControlModel" 22 10 4 := ⟨(sm_R10, sm_F10, 35), rfl, Nat.le_of_ble_eq_true rfl, (sm_mq5 204 (by decide +kernel) rfl)⟩
theorem fl_mo_25 : sm_FL "SmokeControlModel" 25 10 8 := ⟨(sm_R10, sm_F10, 35), rfl, Nat.le_of_ble_eq_true rfl, (sm_mq5 208 (by decide +kernel) rfl)⟩
theorem fl_mo_263 : sm_FL "SmokeControlModel" 263 10 23 := ⟨(sm_R10, sm_F10, 35), rfl, Nat.le_of_ble_eq_true rfl, (sm_mq5 223 (by decide +kernel) rfl)⟩
theorem fl_mo_271 : sm_FL "SmokeControlModel" 271 10 21 := ⟨(sm_R10, sm_F10, 35), rfl, Nat.le_of_ble_eq_true rfl, (sm_mq5 221 (by decide +kernel) rfl)⟩
theorem fl_mo_276 : sm_FL "SmokeControlModel" 276 10 22 := ⟨(sm_R10, sm_F10, 35), rfl, Nat.le_of_ble_eq_true rfl, (sm_mq5 222 (by decide +kernel) rfl)⟩
theorem fl_mo_28 : sm_FL "SmokeControlModel" 28 10 16 := ⟨(sm_R10, sm_F10, 35), rfl, Nat.le_of_ble_eq_true rfl, (sm_mq5 216 (by decide +kernel) rfl)⟩
theorem fl_mo_32 : sm_FL "SmokeControlModel" 32 10 18 := ⟨(sm_R10, sm_F10, 35), rfl, Nat.le_of_ble_eq_true rfl, (sm_mq5 218 (by decide +kernel) rfl)⟩
theorem fl_mo_35 : sm_FL "SmokeControlModel" 35 10 24 := ⟨(sm_R10, sm_F10, 35), rfl, Nat.le_of_ble_eq_true rfl, (sm_mq5 224 (by decide +kernel) rfl)⟩
theorem fl_mo_379 : sm_FL "SmokeControlModel" 379 10 31 := ⟨(sm_R10, sm_F10, 35), rfl, Nat.le_of_ble_eq_true rfl, (sm_mq5 231 (by decide +kernel) rfl)⟩
theorem fl_mo_39 : sm_FL "SmokeControlModel" 39 10 25 := ⟨(sm_R10, sm_F10, 35), rfl, Nat.le_of_ble_eq_true rfl, (sm_mq5 225 (by decide +kernel) rfl)⟩
theorem fl_mo_42 : sm_FL "SmokeControlModel" 42 10 26 := ⟨(sm_R10, sm_F10, 35), rfl, Nat.le_of_ble_eq_true rfl, (sm_mq5 226 (by decide +kernel) rfl)⟩
theorem fl_mo_45 : sm_FL "SmokeControlModel" 45 10 27 := ⟨(sm_R10, sm_F10, 35), rfl, Nat.le_of_ble_eq_true rfl, (sm_mq5 227 (by decide +kernel) rfl)⟩
theorem fl_mo_48 : sm_FL "SmokeControlModel" 48 10 28 := ⟨(sm_R10, sm_F10, 35), rfl, Nat.le_of_ble_eq_true rfl, (sm_mq5 228 (by decide +kernel) rfl)⟩
theorem fl_mo_51 : sm_FL "SmokeControlModel" 51 10 29 := ⟨(sm_R10, sm_F10, 35), rfl, Nat.le_of_ble_eq_true rfl, (sm_mq5 229 (by decide +kernel) rfl)⟩
theorem fl_mo_54 : sm_FL "SmokeControlModel" 54 10 30 := ⟨(sm_R10, sm_F10, 35), rfl, Nat.le_of_ble_eq_true rfl, (sm_mq5 230 (by decide +kernel) rfl)⟩
theorem fl_mo_57 : sm_FL "SmokeControlModel" 57 10 32 := ⟨(sm_R10, sm_F10, 35), rfl, Nat.le_of_ble_eq_true rfl, (sm_mq5 232 (by decide +kernel) rfl)⟩
theorem fl_mo_60 : sm_FL "SmokeControlModel" 60 10 33 := ⟨(sm_R10, sm_F10, 35), rfl, Nat.le_of_ble_eq_true rfl, (sm_mq5 233 (by decide +kernel) rfl)⟩
theorem fl_mo_63 : sm_FL "SmokeControlModel" 63 10 34 := ⟨(sm_R10, sm_F10, 35), rfl, Nat.le_of_ble_eq_true rfl, (sm_mq5 234 (by decide +kernel) rfl)⟩
theorem fl_mo_7 : sm_FL "SmokeControlModel" 7 10 0 := ⟨(sm_R10, sm_F10, 35), rfl, Nat.le_of_ble_eq_true rfl, (sm_mq5 200 (by decide +kernel) rfl)⟩
theorem fl_mo_81 : sm_FL "SmokeControlModel" 81 10 5 := ⟨(sm_R10, sm_F10, 35), rfl, Nat.le_of_ble_eq_true rfl, (sm_mq5 205 (by decide +kernel) rfl)⟩
theorem fl_mo_85 : sm_FL "SmokeControlModel" 85 10 6 := ⟨(sm_R10, sm_F10, 35), rfl, Nat.le_of_ble_eq_true rfl, (sm_mq5 206 (by decide +kernel) rfl)⟩
theorem fl_mo_88 : sm_FL "SmokeControlModel" 88 10 7 := ⟨(sm_R10, sm_F10, 35), rfl, Nat.le_of_ble_eq_true rfl, (sm_mq5 207 (by decide +kernel) rfl)⟩
theorem fl_mo_95 : sm_FL "SmokeControlModel" 95 10 9 := ⟨(sm_R10, sm_F10, 35), rfl, Nat.le_of_ble_eq_true rfl, (sm_mq5 209 (by decide +kernel) rfl)⟩
theorem fl_pl_15 : sm_FL "SmokeControl$Plant" 15 4 8 := ⟨(sm_R4, sm_F4, 16), rfl, Nat.le_of_ble_eq_true rfl, (sm_mq1 124 (by decide +kernel) rfl)⟩
theorem fl_pl_18 : sm_FL "SmokeControl$Plant" 18 4 9 := ⟨(sm_R4, sm_F4, 16), rfl, Nat.le_of_ble_eq_true rfl, (sm_mq1 129 (by decide +kernel) rfl)⟩
theorem fl_pl_21 : sm_FL "SmokeControl$Plant" 21 4 10 := ⟨(sm_R4, sm_F4, 16), rfl, Nat.le_of_ble_eq_true rfl, (sm_mq1 133 (by decide +kernel) rfl)⟩
theorem fl_pl_24 : sm_FL "SmokeControl$Plant" 24 4 11 := ⟨(sm_R4, sm_F4, 16), rfl, Nat.le_of_ble_eq_true rfl, (sm_mq1 135 (by decide +kernel) rfl)⟩
theorem fl_pl_27 : sm_FL "SmokeControl$Plant" 27 4 12 := ⟨(sm_R4, sm_F4, 16), rfl, Nat.le_of_ble_eq_true rfl, (sm_mq1 139 (by decide +kernel) rfl)⟩
theorem fl_pl_30 : sm_FL "SmokeControl$Plant" 30 4 13 := ⟨(sm_R4, sm_F4, 16), rfl, Nat.le_of_ble_eq_true rfl, (sm_mq1 141 (by decide +kernel) rfl)⟩
theorem fl_pl_33 : sm_FL "SmokeControl$Plant" 33 4 14 := ⟨(sm_R4, sm_F4, 16), rfl, Nat.le_of_ble_eq_true rfl, (sm_mq1 142 (by decide +kernel) rfl)⟩
theorem fl_pl_39 : sm_FL "SmokeControl$Plant" 39 4 15 := ⟨(sm_R4, sm_F4, 16), rfl, Nat.le_of_ble_eq_true rfl, (sm_mq1 143 (by decide +kernel) rfl)⟩
theorem fl_pl_50 : sm_FL "SmokeControl$Plant" 50 4 1 := ⟨(sm_R4, sm_F4, 16), rfl, Nat.le_of_ble_eq_true rfl, (sm_mq1 93 (by decide +kernel) rfl)⟩
theorem fl_pl_53 : sm_FL "SmokeControl$Plant" 53 4 2 := ⟨(sm_R4, sm_F4, 16), rfl, Nat.le_of_ble_eq_true rfl, (sm_mq1 99 (by decide +kernel) rfl)⟩
theorem fl_pl_56 : sm_FL "SmokeControl$Plant" 56 4 3 := ⟨(sm_R4, sm_F4, 16), rfl, Nat.le_of_ble_eq_true rfl, (sm_mq1 105 (by decide +kernel) rfl)⟩
theorem fl_pl_65 : sm_FL "SmokeControl$Plant" 65 4 6 := ⟨(sm_R4, sm_F4, 16), rfl, Nat.le_of_ble_eq_true rfl, (sm_mq1 118 (by decide +kernel) rfl)⟩
theorem fl_pl_9 : sm_FL "SmokeControl$Plant" 9 4 7 := ⟨(sm_R4, sm_F4, 16), rfl, Nat.le_of_ble_eq_true rfl, (sm_mq1 120 (by decide +kernel) rfl)⟩
theorem fl_re_104 : sm_FL "SmokeControl$Reader" 104 4 2 := ⟨(sm_R4, sm_F4, 16), rfl, Nat.le_of_ble_eq_true rfl, (sm_mq1 104 (by decide +kernel) rfl)⟩
theorem fl_re_112 : sm_FL "SmokeControl$Reader" 112 4 3 := ⟨(sm_R4, sm_F4, 16), rfl, Nat.le_of_ble_eq_true rfl, (sm_mq1 107 (by decide +kernel) rfl)⟩
theorem fl_re_12 : sm_FL "SmokeControl$Reader" 12 5 0 := ⟨(sm_R5, sm_F5, 6), rfl, Nat.le_of_ble_eq_true rfl, (sm_mq1 225 (by decide +kernel) rfl)⟩
theorem fl_re_128 : sm_FL "SmokeControl$Reader" 128 4 15 := ⟨(sm_R4, sm_F4, 16), rfl, Nat.le_of_ble_eq_true rfl, (sm_mq1 146 (by decide +kernel) rfl)⟩
theorem fl_re_132 : sm_FL "SmokeControl$Reader" 132 6 0 := ⟨(sm_R6, sm_F6, 9), rfl, Nat.le_of_ble_eq_true rfl, (sm_mq1 43 (by decide +kernel) rfl)⟩
theorem fl_re_166 : sm_FL "SmokeControl$Reader" 166 4 7 := ⟨(sm_R4, sm_F4, 16), rfl, Nat.le_of_ble_eq_true rfl, (sm_mq1 123 (by decide +kernel) rfl)⟩
theorem fl_re_21 : sm_FL "SmokeControl$Reader" 21 5 1 := ⟨(sm_R5, sm_F5, 6), rfl, Nat.le_of_ble_eq_true rfl, (sm_mq1 227 (by decide +kernel) rfl)⟩
theorem fl_re_36 : sm_FL "SmokeControl$Reader" 36 5 2 := ⟨(sm_R5, sm_F5, 6), rfl, Nat.le_of_ble_eq_true rfl, (sm_mq1 229 (by decide +kernel) rfl)⟩
theorem fl_re_39 : sm_FL "SmokeControl$Reader" 39 5 4 := ⟨(sm_R5, sm_F5, 6), rfl, Nat.le_of_ble_eq_true rfl, (sm_mq1 233 (by decide +kernel) rfl)⟩
theorem fl_re_43 : sm_FL "SmokeControl$Reader" 43 5 5 := ⟨(sm_R5, sm_F5, 6), rfl, Nat.le_of_ble_eq_true rfl, (sm_mq1 234 (by decide +kernel) rfl)⟩
theorem fl_re_46 : sm_FL "SmokeControl$Reader" 46 8 2 := ⟨(sm_R8, sm_F8, 8), rfl, Nat.le_of_ble_eq_true rfl, (sm_mq1 196 (by decide +kernel) rfl)⟩
theorem fl_re_50 : sm_FL "SmokeControl$Reader" 50 8 7 := ⟨(sm_R8, sm_F8, 8), rfl, Nat.le_of_ble_eq_true rfl, (sm_mq1 204 (by decide +kernel) rfl)⟩
theorem fl_re_53 : sm_FL "SmokeControl$Reader" 53 8 3 := ⟨(sm_R8, sm_F8, 8), rfl, Nat.le_of_ble_eq_true rfl, (sm_mq1 198 (by decide +kernel) rfl)⟩
theorem fl_re_76 : sm_FL "SmokeControl$Reader" 76 8 5 := ⟨(sm_R8, sm_F8, 8), rfl, Nat.le_of_ble_eq_true rfl, (sm_mq1 201 (by decide +kernel) rfl)⟩
theorem fl_re_88 : sm_FL "SmokeControl$Reader" 88 4 0 := ⟨(sm_R4, sm_F4, 16), rfl, Nat.le_of_ble_eq_true rfl, (sm_mq1 92 (by decide +kernel) rfl)⟩
theorem fl_re_92 : sm_FL "SmokeControl$Reader" 92 4 1 := ⟨(sm_R4, sm_F4, 16), rfl, Nat.le_of_ble_eq_true rfl, (sm_mq1 98 (by decide +kernel) rfl)⟩
theorem fl_ru_11 : sm_FL "SmokeControl$RuleBook" 11 6 3 := ⟨(sm_R6, sm_F6, 9), rfl, Nat.le_of_ble_eq_true rfl, (sm_mq1 47 (by decide +kernel) rfl)⟩
theorem fl_ru_15 : sm_FL "SmokeControl$RuleBook" 15 6 4 := ⟨(sm_R6, sm_F6, 9), rfl, Nat.le_of_ble_eq_true rfl, (sm_mq1 49 (by decide +kernel) rfl)⟩
theorem fl_ru_18 : sm_FL "SmokeControl$RuleBook" 18 6 5 := ⟨(sm_R6, sm_F6, 9), rfl, Nat.le_of_ble_eq_true rfl, (sm_mq1 51 (by decide +kernel) rfl)⟩
theorem fl_ru_21 : sm_FL "SmokeControl$RuleBook" 21 6 6 := ⟨(sm_R6, sm_F6, 9), rfl, Nat.le_of_ble_eq_true rfl, (sm_mq1 53 (by decide +kernel) rfl)⟩
theorem fl_ru_24 : sm_FL "SmokeControl$RuleBook" 24 6 7 := ⟨(sm_R6, sm_F6, 9), rfl, Nat.le_of_ble_eq_true rfl, (sm_mq1 55 (by decide +kernel) rfl)⟩
theorem fl_ru_27 : sm_FL "SmokeControl$RuleBook" 27 6 8 := ⟨(sm_R6, sm_F6, 9), rfl, Nat.le_of_ble_eq_true rfl, (sm_mq1 57 (by decide +kernel) rfl)⟩
theorem fl_ru_30 : sm_FL "SmokeControl$RuleBook" 30 6 0 := ⟨(sm_R6, sm_F6, 9), rfl, Nat.le_of_ble_eq_true rfl, (sm_mq1 40 (by decide +kernel) rfl)⟩
theorem fl_ru_34 : sm_FL "SmokeControl$RuleBook" 34 6 1 := ⟨(sm_R6, sm_F6, 9), rfl, Nat.le_of_ble_eq_true rfl, (sm_mq1 44 (by decide +kernel) rfl)⟩
theorem fl_ru_37 : sm_FL "SmokeControl$RuleBook" 37 6 2 := ⟨(sm_R6, sm_F6, 9), rfl, Nat.le_of_ble_eq_true rfl, (sm_mq1 45 (by decide +kernel) rfl)⟩
theorem fl_sc_103 : sm_FL "SmokeControl" 103 4 4 := ⟨(sm_R4, sm_F4, 16), rfl, Nat.le_of_ble_eq_true rfl, (sm_mq1 111 (by decide +kernel) rfl)⟩
theorem fl_sc_106 : sm_FL "SmokeControl" 106 4 5 := ⟨(sm_R4, sm_F4, 16), rfl, Nat.le_of_ble_eq_true rfl, (sm_mq1 115 (by decide +kernel) rfl)⟩
theorem fl_sc_109 : sm_FL "SmokeControl" 109 6 2 := ⟨(sm_R6, sm_F6, 9), rfl, Nat.le_of_ble_eq_true rfl, (sm_mq1 46 (by decide +kernel) rfl)⟩
theorem fl_sc_116 : sm_FL "SmokeControl" 116 7 10 := ⟨(sm_R7, sm_F7, 18), rfl, Nat.le_of_ble_eq_true rfl, (sm_mq2 113 (by decide +kernel) rfl)⟩
theorem fl_sc_124 : sm_FL "SmokeControl" 124 7 16 := ⟨(sm_R7, sm_F7, 18), rfl, Nat.le_of_ble_eq_true rfl, (sm_mq2 132 (by decide +kernel) rfl)⟩
theorem fl_sc_128 : sm_FL "SmokeControl" 128 0 1 := ⟨(sm_R0, sm_F0, 4), rfl, Nat.le_of_ble_eq_true rfl, (sm_mq2 24 (by decide +kernel) rfl)⟩
theorem fl_sc_137 : sm_FL "SmokeControl" 137 7 6 := ⟨(sm_R7, sm_F7, 18), rfl, Nat.le_of_ble_eq_true rfl, (sm_mq2 100 (by decide +kernel) rfl)⟩
theorem fl_sc_15 : sm_FL "SmokeControl" 15 9 0 := ⟨(sm_R9, sm_F9, 6), rfl, Nat.le_of_ble_eq_true rfl, (sm_mq2 216 (by decide +kernel) rfl)⟩
theorem fl_sc_150 : sm_FL "SmokeControl" 150 7 7 := ⟨(sm_R7, sm_F7, 18), rfl, Nat.le_of_ble_eq_true rfl, (sm_mq2 104 (by decide +kernel) rfl)⟩
theorem fl_sc_153 : sm_FL "SmokeControl" 153 7 2 := ⟨(sm_R7, sm_F7, 18), rfl, Nat.le_of_ble_eq_true rfl, (sm_mq2 88 (by decide +kernel) rfl)⟩
theorem fl_sc_157 : sm_FL "SmokeControl" 157 7 17 := ⟨(sm_R7, sm_F7, 18), rfl, Nat.le_of_ble_eq_true rfl, (sm_mq2 136 (by decide +kernel) rfl)⟩
theorem fl_sc_161 : sm_FL "SmokeControl" 161 7 1 := ⟨(sm_R7, sm_F7, 18), rfl, Nat.le_of_ble_eq_true rfl, (sm_mq2 85 (by decide +kernel) rfl)⟩
theorem fl_sc_170 : sm_FL "SmokeControl" 170 7 12 := ⟨(sm_R7, sm_F7, 18), rfl, Nat.le_of_ble_eq_true rfl, (sm_mq2 121 (by decide +kernel) rfl)⟩
theorem fl_sc_176 : sm_FL "SmokeControl" 176 7 13 := ⟨(sm_R7, sm_F7, 18), rfl, Nat.le_of_ble_eq_true rfl, (sm_mq2 124 (by decide +kernel) rfl)⟩
theorem fl_sc_183 : sm_FL "SmokeControl" 183 7 8 := ⟨(sm_R7, sm_F7, 18), rfl, Nat.le_of_ble_eq_true rfl, (sm_mq2 107 (by decide +kernel) rfl)⟩
theorem fl_sc_186 : sm_FL "SmokeControl" 186 7 15 := ⟨(sm_R7, sm_F7, 18), rfl, Nat.le_of_ble_eq_true rfl, (sm_mq2 128 (by decide +kernel) rfl)⟩
theorem fl_sc_199 : sm_FL "SmokeControl" 199 0 0 := ⟨(sm_R0, sm_F0, 4), rfl, Nat.le_of_ble_eq_true rfl, (sm_mq2 22 (by decide +kernel) rfl)⟩
theorem fl_sc_208 : sm_FL "SmokeControl" 208 7 9 := ⟨(sm_R7, sm_F7, 18), rfl, Nat.le_of_ble_eq_true rfl, (sm_mq2 111 (by decide +kernel) rfl)⟩
theorem fl_sc_211 : sm_FL "SmokeControl" 211 7 3 := ⟨(sm_R7, sm_F7, 18), rfl, Nat.le_of_ble_eq_true rfl, (sm_mq2 91 (by decide +kernel) rfl)⟩
theorem fl_sc_214 : sm_FL "SmokeControl" 214 7 4 := ⟨(sm_R7, sm_F7, 18), rfl, Nat.le_of_ble_eq_true rfl, (sm_mq2 94 (by decide +kernel) rfl)⟩
theorem fl_sc_217 : sm_FL "SmokeControl" 217 7 5 := ⟨(sm_R7, sm_F7, 18), rfl, Nat.le_of_ble_eq_true rfl, (sm_mq2 97 (by decide +kernel) rfl)⟩
theorem fl_sc_231 : sm_FL "SmokeControl" 231 0 2 := ⟨(sm_R0, sm_F0, 4), rfl, Nat.le_of_ble_eq_true rfl, (sm_mq2 27 (by decide +kernel) rfl)⟩
theorem fl_sc_237 : sm_FL "SmokeControl" 237 2 1 := ⟨(sm_R2, sm_F2, 4), rfl, Nat.le_of_ble_eq_true rfl, (sm_mq2 203 (by decide +kernel) rfl)⟩
theorem fl_sc_24 : sm_FL "SmokeControl" 24 9 1 := ⟨(sm_R9, sm_F9, 6), rfl, Nat.le_of_ble_eq_true rfl, (sm_mq2 217 (by decide +kernel) rfl)⟩
theorem fl_sc_240 : sm_FL "SmokeControl" 240 2 2 := ⟨(sm_R2, sm_F2, 4), rfl, Nat.le_of_ble_eq_true rfl, (sm_mq2 205 (by decide +kernel) rfl)⟩
theorem fl_sc_243 : sm_FL "SmokeControl" 243 4 9 := ⟨(sm_R4, sm_F4, 16), rfl, Nat.le_of_ble_eq_true rfl, (sm_mq1 132 (by decide +kernel) rfl)⟩
theorem fl_sc_246 : sm_FL "SmokeControl" 246 4 8 := ⟨(sm_R4, sm_F4, 16), rfl, Nat.le_of_ble_eq_true rfl, (sm_mq1 128 (by decide +kernel) rfl)⟩
theorem fl_sc_259 : sm_FL "SmokeControl" 259 7 11 := ⟨(sm_R7, sm_F7, 18), rfl, Nat.le_of_ble_eq_true rfl, (sm_mq2 118 (by decide +kernel) rfl)⟩
theorem fl_sc_266 : sm_FL "SmokeControl" 266 1 1 := ⟨(sm_R1, sm_F1, 3), rfl, Nat.le_of_ble_eq_true rfl, (sm_mq2 190 (by decide +kernel) rfl)⟩
theorem fl_sc_271 : sm_FL "SmokeControl" 271 1 2 := ⟨(sm_R1, sm_F1, 3), rfl, Nat.le_of_ble_eq_true rfl, (sm_mq2 192 (by decide +kernel) rfl)⟩
theorem fl_sc_28 : sm_FL "SmokeControl" 28 9 2 := ⟨(sm_R9, sm_F9, 6), rfl, Nat.le_of_ble_eq_true rfl, (sm_mq2 218 (by decide +kernel) rfl)⟩
theorem fl_sc_280 : sm_FL "SmokeControl" 280 2 0 := ⟨(sm_R2, sm_F2, 4), rfl, Nat.le_of_ble_eq_true rfl, (sm_mq2 201 (by decide +kernel) rfl)⟩
theorem fl_sc_297 : sm_FL "SmokeControl" 297 3 1 := ⟨(sm_R3, sm_F3, 4), rfl, Nat.le_of_ble_eq_true rfl, (sm_mq2 48 (by decide +kernel) rfl)⟩
theorem fl_sc_299 : sm_FL "SmokeControl" 299 3 2 := ⟨(sm_R3, sm_F3, 4), rfl, Nat.le_of_ble_eq_true rfl, (sm_mq2 50 (by decide +kernel) rfl)⟩
theorem fl_sc_302 : sm_FL "SmokeControl" 302 3 3 := ⟨(sm_R3, sm_F3, 4), rfl, Nat.le_of_ble_eq_true rfl, (sm_mq2 52 (by decide +kernel) rfl)⟩
theorem fl_sc_31 : sm_FL "SmokeControl" 31 9 3 := ⟨(sm_R9, sm_F9, 6), rfl, Nat.le_of_ble_eq_true rfl, (sm_mq2 219 (by decide +kernel) rfl)⟩
theorem fl_sc_327 : sm_FL "SmokeControl" 327 4 11 := ⟨(sm_R4, sm_F4, 16), rfl, Nat.le_of_ble_eq_true rfl, (sm_mq1 138 (by decide +kernel) rfl)⟩
theorem fl_sc_38 : sm_FL "SmokeControl" 38 9 5 := ⟨(sm_R9, sm_F9, 6), rfl, Nat.le_of_ble_eq_true rfl, (sm_mq2 221 (by decide +kernel) rfl)⟩
theorem fl_sc_42 : sm_FL "SmokeControl" 42 5 0 := ⟨(sm_R5, sm_F5, 6), rfl, Nat.le_of_ble_eq_true rfl, (sm_mq1 226 (by decide +kernel) rfl)⟩
theorem fl_sc_46 : sm_FL "SmokeControl" 46 8 1 := ⟨(sm_R8, sm_F8, 8), rfl, Nat.le_of_ble_eq_true rfl, (sm_mq1 194 (by decide +kernel) rfl)⟩
theorem fl_sc_67 : sm_FL "SmokeControl" 67 5 2 := ⟨(sm_R5, sm_F5, 6), rfl, Nat.le_of_ble_eq_true rfl, (sm_mq1 230 (by decide +kernel) rfl)⟩
theorem fl_sc_70 : sm_FL "SmokeControl" 70 7 0 := ⟨(sm_R7, sm_F7, 18), rfl, Nat.le_of_ble_eq_true rfl, (sm_mq2 79 (by decide +kernel) rfl)⟩
theorem fl_sc_74 : sm_FL "SmokeControl" 74 5 1 := ⟨(sm_R5, sm_F5, 6), rfl, Nat.le_of_ble_eq_true rfl, (sm_mq1 228 (by decide +kernel) rfl)⟩
theorem fl_sc_77 : sm_FL "SmokeControl" 77 9 4 := ⟨(sm_R9, sm_F9, 6), rfl, Nat.le_of_ble_eq_true rfl, (sm_mq2 220 (by decide +kernel) rfl)⟩
theorem fl_sc_80 : sm_FL "SmokeControl" 80 5 3 := ⟨(sm_R5, sm_F5, 6), rfl, Nat.le_of_ble_eq_true rfl, (sm_mq1 232 (by decide +kernel) rfl)⟩
theorem fl_sc_83 : sm_FL "SmokeControl" 83 4 0 := ⟨(sm_R4, sm_F4, 16), rfl, Nat.le_of_ble_eq_true rfl, (sm_mq1 90 (by decide +kernel) rfl)⟩
theorem fl_sc_86 : sm_FL "SmokeControl" 86 4 1 := ⟨(sm_R4, sm_F4, 16), rfl, Nat.le_of_ble_eq_true rfl, (sm_mq1 97 (by decide +kernel) rfl)⟩
theorem fl_sc_89 : sm_FL "SmokeControl" 89 4 2 := ⟨(sm_R4, sm_F4, 16), rfl, Nat.le_of_ble_eq_true rfl, (sm_mq1 102 (by decide +kernel) rfl)⟩
theorem fl_sc_92 : sm_FL "SmokeControl" 92 4 3 := ⟨(sm_R4, sm_F4, 16), rfl, Nat.le_of_ble_eq_true rfl, (sm_mq1 106 (by decide +kernel) rfl)⟩
theorem fl_sc_95 : sm_FL "SmokeControl" 95 4 15 := ⟨(sm_R4, sm_F4, 16), rfl, Nat.le_of_ble_eq_true rfl, (sm_mq1 145 (by decide +kernel) rfl)⟩
theorem fl_sc_99 : sm_FL "SmokeControl" 99 6 0 := ⟨(sm_R6, sm_F6, 9), rfl, Nat.le_of_ble_eq_true rfl, (sm_mq1 42 (by decide +kernel) rfl)⟩
theorem fl_st_104 : sm_FL "SmokeControl$State" 104 4 8 := ⟨(sm_R4, sm_F4, 16), rfl, Nat.le_of_ble_eq_true rfl, (sm_mq1 125 (by decide +kernel) rfl)⟩
theorem fl_st_118 : sm_FL "SmokeControl$State" 118 4 0 := ⟨(sm_R4, sm_F4, 16), rfl, Nat.le_of_ble_eq_true rfl, (sm_mq1 89 (by decide +kernel) rfl)⟩
theorem fl_st_135 : sm_FL "SmokeControl$State" 135 4 11 := ⟨(sm_R4, sm_F4, 16), rfl, Nat.le_of_ble_eq_true rfl, (sm_mq1 136 (by decide +kernel) rfl)⟩
theorem fl_st_138 : sm_FL "SmokeControl$State" 138 4 10 := ⟨(sm_R4, sm_F4, 16), rfl, Nat.le_of_ble_eq_true rfl, (sm_mq1 134 (by decide +kernel) rfl)⟩
theorem fl_st_141 : sm_FL "SmokeControl$State" 141 4 2 := ⟨(sm_R4, sm_F4, 16), rfl, Nat.le_of_ble_eq_true rfl, (sm_mq1 103 (by decide +kernel) rfl)⟩
theorem fl_st_15 : sm_FL "SmokeControl$State" 15 7 10 := ⟨(sm_R7, sm_F7, 18), rfl, Nat.le_of_ble_eq_true rfl, (sm_mq2 112 (by decide +kernel) rfl)⟩
theorem fl_st_18 : sm_FL "SmokeControl$State" 18 7 11 := ⟨(sm_R7, sm_F7, 18), rfl, Nat.le_of_ble_eq_true rfl, (sm_mq2 115 (by decide +kernel) rfl)⟩
theorem fl_st_21 : sm_FL "SmokeControl$State" 21 7 12 := ⟨(sm_R7, sm_F7, 18), rfl, Nat.le_of_ble_eq_true rfl, (sm_mq2 119 (by decide +kernel) rfl)⟩
theorem fl_st_24 : sm_FL "SmokeControl$State" 24 7 13 := ⟨(sm_R7, sm_F7, 18), rfl, Nat.le_of_ble_eq_true rfl, (sm_mq2 122 (by decide +kernel) rfl)⟩
theorem fl_st_27 : sm_FL "SmokeControl$State" 27 7 14 := ⟨(sm_R7, sm_F7, 18), rfl, Nat.le_of_ble_eq_true rfl, (sm_mq2 125 (by decide +kernel) rfl)⟩
theorem fl_st_30 : sm_FL "SmokeControl$State" 30 7 15 := ⟨(sm_R7, sm_F7, 18), rfl, Nat.le_of_ble_eq_true rfl, (sm_mq2 127 (by decide +kernel) rfl)⟩
theorem fl_st_36 : sm_FL "SmokeControl$State" 36 7 16 := ⟨(sm_R7, sm_F7, 18), rfl, Nat.le_of_ble_eq_true rfl, (sm_mq2 129 (by decide +kernel) rfl)⟩
theorem fl_st_43 : sm_FL "SmokeControl$State" 43 7 17 := ⟨(sm_R7, sm_F7, 18), rfl, Nat.le_of_ble_eq_true rfl, (sm_mq2 133 (by decide +kernel) rfl)⟩
theorem fl_st_51 : sm_FL "SmokeControl$State" 51 7 0 := ⟨(sm_R7, sm_F7, 18), rfl, Nat.le_of_ble_eq_true rfl, (sm_mq2 77 (by decide +kernel) rfl)⟩
theorem fl_st_55 : sm_FL "SmokeControl$State" 55 7 1 := ⟨(sm_R7, sm_F7, 18), rfl, Nat.le_of_ble_eq_true rfl, (sm_mq2 81 (by decide +kernel) rfl)⟩
theorem fl_st_59 : sm_FL "SmokeControl$State" 59 7 2 := ⟨(sm_R7, sm_F7, 18), rfl, Nat.le_of_ble_eq_true rfl, (sm_mq2 86 (by decide +kernel) rfl)⟩
theorem fl_st_63 : sm_FL "SmokeControl$State" 63 7 3 := ⟨(sm_R7, sm_F7, 18), rfl, Nat.le_of_ble_eq_true rfl, (sm_mq2 89 (by decide +kernel) rfl)⟩
theorem fl_st_66 : sm_FL "SmokeControl$State" 66 7 4 := ⟨(sm_R7, sm_F7, 18), rfl, Nat.le_of_ble_eq_true rfl, (sm_mq2 92 (by decide +kernel) rfl)⟩
theorem fl_st_69 : sm_FL "SmokeControl$State" 69 7 5 := ⟨(sm_R7, sm_F7, 18), rfl, Nat.le_of_ble_eq_true rfl, (sm_mq2 95 (by decide +kernel) rfl)⟩
theorem fl_st_72 : sm_FL "SmokeControl$State" 72 7 6 := ⟨(sm_R7, sm_F7, 18), rfl, Nat.le_of_ble_eq_true rfl, (sm_mq2 98 (by decide +kernel) rfl)⟩
theorem fl_st_75 : sm_FL "SmokeControl$State" 75 7 7 := ⟨(sm_R7, sm_F7, 18), rfl, Nat.le_of_ble_eq_true rfl, (sm_mq2 102 (by decide +kernel) rfl)⟩
theorem fl_st_78 : sm_FL "SmokeControl$State" 78 7 8 := ⟨(sm_R7, sm_F7, 18), rfl, Nat.le_of_ble_eq_true rfl, (sm_mq2 105 (by decide +kernel) rfl)⟩
theorem fl_st_9 : sm_FL "SmokeControl$State" 9 7 9 := ⟨(sm_R7, sm_F7, 18), rfl, Nat.le_of_ble_eq_true rfl, (sm_mq2 108 (by decide +kernel) rfl)⟩
theorem fl_st_92 : sm_FL "SmokeControl$State" 92 4 1 := ⟨(sm_R4, sm_F4, 16), rfl, Nat.le_of_ble_eq_true rfl, (sm_mq1 95 (by decide +kernel) rfl)⟩
theorem fl_st_97 : sm_FL "SmokeControl$State" 97 4 6 := ⟨(sm_R4, sm_F4, 16), rfl, Nat.le_of_ble_eq_true rfl, (sm_mq1 119 (by decide +kernel) rfl)⟩
theorem fl_te_15 : sm_FL "SmokeControl$Text" 15 8 2 := ⟨(sm_R8, sm_F8, 8), rfl, Nat.le_of_ble_eq_true rfl, (sm_mq1 195 (by decide +kernel) rfl)⟩
theorem fl_te_19 : sm_FL "SmokeControl$Text" 19 8 3 := ⟨(sm_R8, sm_F8, 8), rfl, Nat.le_of_ble_eq_true rfl, (sm_mq1 197 (by decide +kernel) rfl)⟩
theorem fl_te_22 : sm_FL "SmokeControl$Text" 22 8 4 := ⟨(sm_R8, sm_F8, 8), rfl, Nat.le_of_ble_eq_true rfl, (sm_mq1 199 (by decide +kernel) rfl)⟩
theorem fl_te_25 : sm_FL "SmokeControl$Text" 25 8 5 := ⟨(sm_R8, sm_F8, 8), rfl, Nat.le_of_ble_eq_true rfl, (sm_mq1 200 (by decide +kernel) rfl)⟩
theorem fl_te_28 : sm_FL "SmokeControl$Text" 28 8 1 := ⟨(sm_R8, sm_F8, 8), rfl, Nat.le_of_ble_eq_true rfl, (sm_mq1 193 (by decide +kernel) rfl)⟩
theorem fl_te_32 : sm_FL "SmokeControl$Text" 32 8 6 := ⟨(sm_R8, sm_F8, 8), rfl, Nat.le_of_ble_eq_true rfl, (sm_mq1 202 (by decide +kernel) rfl)⟩
theorem fl_te_35 : sm_FL "SmokeControl$Text" 35 8 7 := ⟨(sm_R8, sm_F8, 8), rfl, Nat.le_of_ble_eq_true rfl, (sm_mq1 203 (by decide +kernel) rfl)⟩
theorem fl_te_9 : sm_FL "SmokeControl$Text" 9 8 0 := ⟨(sm_R8, sm_F8, 8), rfl, Nat.le_of_ble_eq_true rfl, (sm_mq1 192 (by decide +kernel) rfl)⟩
theorem fp_al_15 : sm_FP "SmokeControl$Alarms" 15 0 1 (.int) := ⟨(sm_R0, sm_F0, 4), rfl, Nat.le_of_ble_eq_true rfl, (sm_mq2 23 (by decide +kernel) rfl), rfl, by decide +kernel⟩
theorem fp_al_18 : sm_FP "SmokeControl$Alarms" 18 0 2 (.int) := ⟨(sm_R0, sm_F0, 4), rfl, Nat.le_of_ble_eq_true rfl, (sm_mq2 25 (by decide +kernel) rfl), rfl, by decide +kernel⟩
theorem fp_al_21 : sm_FP "SmokeControl$Alarms" 21 0 3 (.int) := ⟨(sm_R0, sm_F0, 4), rfl, Nat.le_of_ble_eq_true rfl, (sm_mq2 28 (by decide +kernel) rfl), rfl, by decide +kernel⟩
theorem fp_al_9 : sm_FP "SmokeControl$Alarms" 9 0 0 (.int) := ⟨(sm_R0, sm_F0, 4), rfl, Nat.le_of_ble_eq_true rfl, (sm_mq2 20 (by decide +kernel) rfl), rfl, by decide +kernel⟩
theorem fp_en_138 : sm_FP "SmokeControl$Engine" 138 7 3 (.int) := ⟨(sm_R7, sm_F7, 18), rfl, Nat.le_of_ble_eq_true rfl, (sm_mq2 90 (by decide +kernel) rfl), rfl, by decide +kernel⟩
theorem fp_en_203 : sm_FP "SmokeControl$Engine" 203 7 5 (.int) := ⟨(sm_R7, sm_F7, 18), rfl, Nat.le_of_ble_eq_true rfl, (sm_mq2 96 (by decide +kernel) rfl), rfl, by decide +kernel⟩
theorem fp_en_28 : sm_FP "SmokeControl$Engine" 28 7 1 (.int) := ⟨(sm_R7, sm_F7, 18), rfl, Nat.le_of_ble_eq_true rfl, (sm_mq2 82 (by decide +kernel) rfl), rfl, by decide +kernel⟩
theorem fp_en_48 : sm_FP "SmokeControl$Engine" 48 7 4 (.int) := ⟨(sm_R7, sm_F7, 18), rfl, Nat.le_of_ble_eq_true rfl, (sm_mq2 93 (by decide +kernel) rfl), rfl, by decide +kernel⟩
theorem fp_lo_19 : sm_FP "SmokeControl$Log" 19 3 0 (.int) := ⟨(sm_R3, sm_F3, 4), rfl, Nat.le_of_ble_eq_true rfl, (sm_mq2 45 (by decide +kernel) rfl), rfl, by decide +kernel⟩
theorem fp_mo_102 : sm_FP "SmokeControlModel" 102 10 15 (.int) := ⟨(sm_R10, sm_F10, 35), rfl, Nat.le_of_ble_eq_true rfl, (sm_mq5 215 (by decide +kernel) rfl), rfl, by decide +kernel⟩
theorem fp_mo_105 : sm_FP "SmokeControlModel" 105 10 11 (.int) := ⟨(sm_R10, sm_F10, 35), rfl, Nat.le_of_ble_eq_true rfl, (sm_mq5 211 (by decide +kernel) rfl), rfl, by decide +kernel⟩
theorem fp_mo_108 : sm_FP "SmokeControlModel" 108 10 10 (.int) := ⟨(sm_R10, sm_F10, 35), rfl, Nat.le_of_ble_eq_true rfl, (sm_mq5 210 (by decide +kernel) rfl), rfl, by decide +kernel⟩
theorem fp_mo_115 : sm_FP "SmokeControlModel" 115 10 13 (.int) := ⟨(sm_R10, sm_F10, 35), rfl, Nat.le_of_ble_eq_true rfl, (sm_mq5 213 (by decide +kernel) rfl), rfl, by decide +kernel⟩
theorem fp_mo_126 : sm_FP "SmokeControlModel" 126 10 12 (.int) := ⟨(sm_R10, sm_F10, 35), rfl, Nat.le_of_ble_eq_true rfl, (sm_mq5 212 (by decide +kernel) rfl), rfl, by decide +kernel⟩
theorem fp_mo_133 : sm_FP "SmokeControlModel" 133 10 17 (.long) := ⟨(sm_R10, sm_F10, 35), rfl, Nat.le_of_ble_eq_true rfl, (sm_mq5 217 (by decide +kernel) rfl), rfl, by decide +kernel⟩
theorem fp_mo_151 : sm_FP "SmokeControlModel" 151 10 14 (.int) := ⟨(sm_R10, sm_F10, 35), rfl, Nat.le_of_ble_eq_true rfl, (sm_mq5 214 (by decide +kernel) rfl), rfl, by decide +kernel⟩
theorem fp_mo_157 : sm_FP "SmokeControlModel" 157 10 19 (.int) := ⟨(sm_R10, sm_F10, 35), rfl, Nat.le_of_ble_eq_true rfl, (sm_mq5 219 (by decide +kernel) rfl), rfl, by decide +kernel⟩
theorem fp_mo_167 : sm_FP "SmokeControlModel" 167 10 20 (.int) := ⟨(sm_R10, sm_F10, 35), rfl, Nat.le_of_ble_eq_true rfl, (sm_mq5 220 (by decide +kernel) rfl), rfl, by decide +kernel⟩
theorem fp_mo_263 : sm_FP "SmokeControlModel" 263 10 23 (.int) := ⟨(sm_R10, sm_F10, 35), rfl, Nat.le_of_ble_eq_true rfl, (sm_mq5 223 (by decide +kernel) rfl), rfl, by decide +kernel⟩
theorem fp_mo_271 : sm_FP "SmokeControlModel" 271 10 21 (.boolean) := ⟨(sm_R10, sm_F10, 35), rfl, Nat.le_of_ble_eq_true rfl, (sm_mq5 221 (by decide +kernel) rfl), rfl, by decide +kernel⟩
theorem fp_mo_276 : sm_FP "SmokeControlModel" 276 10 22 (.boolean) := ⟨(sm_R10, sm_F10, 35), rfl, Nat.le_of_ble_eq_true rfl, (sm_mq5 222 (by decide +kernel) rfl), rfl, by decide +kernel⟩
theorem fp_mo_28 : sm_FP "SmokeControlModel" 28 10 16 (.int) := ⟨(sm_R10, sm_F10, 35), rfl, Nat.le_of_ble_eq_true rfl, (sm_mq5 216 (by decide +kernel) rfl), rfl, by decide +kernel⟩
theorem fp_mo_379 : sm_FP "SmokeControlModel" 379 10 31 (.int) := ⟨(sm_R10, sm_F10, 35), rfl, Nat.le_of_ble_eq_true rfl, (sm_mq5 231 (by decide +kernel) rfl), rfl, by decide +kernel⟩
theorem fp_mo_81 : sm_FP "SmokeControlModel" 81 10 5 (.boolean) := ⟨(sm_R10, sm_F10, 35), rfl, Nat.le_of_ble_eq_true rfl, (sm_mq5 205 (by decide +kernel) rfl), rfl, by decide +kernel⟩
theorem fp_mo_85 : sm_FP "SmokeControlModel" 85 10 6 (.boolean) := ⟨(sm_R10, sm_F10, 35), rfl, Nat.le_of_ble_eq_true rfl, (sm_mq5 206 (by decide +kernel) rfl), rfl, by decide +kernel⟩
theorem fp_mo_88 : sm_FP "SmokeControlModel" 88 10 7 (.boolean) := ⟨(sm_R10, sm_F10, 35), rfl, Nat.le_of_ble_eq_true rfl, (sm_mq5 207 (by decide +kernel) rfl), rfl, by decide +kernel⟩
theorem fp_mo_95 : sm_FP "SmokeControlModel" 95 10 9 (.int) := ⟨(sm_R10, sm_F10, 35), rfl, Nat.le_of_ble_eq_true rfl, (sm_mq5 209 (by decide +kernel) rfl), rfl, by decide +kernel⟩
theorem fp_pl_46 : sm_FP "SmokeControl$Plant" 46 4 0 (.int) := ⟨(sm_R4, sm_F4, 16), rfl, Nat.le_of_ble_eq_true rfl, (sm_mq1 87 (by decide +kernel) rfl), rfl, by decide +kernel⟩
theorem fp_pl_50 : sm_FP "SmokeControl$Plant" 50 4 1 (.int) := ⟨(sm_R4, sm_F4, 16), rfl, Nat.le_of_ble_eq_true rfl, (sm_mq1 93 (by decide +kernel) rfl), rfl, by decide +kernel⟩
theorem fp_pl_53 : sm_FP "SmokeControl$Plant" 53 4 2 (.int) := ⟨(sm_R4, sm_F4, 16), rfl, Nat.le_of_ble_eq_true rfl, (sm_mq1 99 (by decide +kernel) rfl), rfl, by decide +kernel⟩
theorem fp_pl_56 : sm_FP "SmokeControl$Plant" 56 4 3 (.int) := ⟨(sm_R4, sm_F4, 16), rfl, Nat.le_of_ble_eq_true rfl, (sm_mq1 105 (by decide +kernel) rfl), rfl, by decide +kernel⟩
theorem fp_pl_59 : sm_FP "SmokeControl$Plant" 59 4 4 (.int) := ⟨(sm_R4, sm_F4, 16), rfl, Nat.le_of_ble_eq_true rfl, (sm_mq1 109 (by decide +kernel) rfl), rfl, by decide +kernel⟩
theorem fp_pl_62 : sm_FP "SmokeControl$Plant" 62 4 5 (.int) := ⟨(sm_R4, sm_F4, 16), rfl, Nat.le_of_ble_eq_true rfl, (sm_mq1 113 (by decide +kernel) rfl), rfl, by decide +kernel⟩
theorem fp_pl_65 : sm_FP "SmokeControl$Plant" 65 4 6 (.int) := ⟨(sm_R4, sm_F4, 16), rfl, Nat.le_of_ble_eq_true rfl, (sm_mq1 118 (by decide +kernel) rfl), rfl, by decide +kernel⟩
theorem fp_re_120 : sm_FP "SmokeControl$Reader" 120 4 4 (.int) := ⟨(sm_R4, sm_F4, 16), rfl, Nat.le_of_ble_eq_true rfl, (sm_mq1 112 (by decide +kernel) rfl), rfl, by decide +kernel⟩
theorem fp_re_124 : sm_FP "SmokeControl$Reader" 124 4 5 (.int) := ⟨(sm_R4, sm_F4, 16), rfl, Nat.le_of_ble_eq_true rfl, (sm_mq1 116 (by decide +kernel) rfl), rfl, by decide +kernel⟩
theorem fp_re_25 : sm_FP "SmokeControl$Reader" 25 5 3 (.int) := ⟨(sm_R5, sm_F5, 6), rfl, Nat.le_of_ble_eq_true rfl, (sm_mq1 231 (by decide +kernel) rfl), rfl, by decide +kernel⟩
theorem fp_re_36 : sm_FP "SmokeControl$Reader" 36 5 2 (.int) := ⟨(sm_R5, sm_F5, 6), rfl, Nat.le_of_ble_eq_true rfl, (sm_mq1 229 (by decide +kernel) rfl), rfl, by decide +kernel⟩
theorem fp_re_39 : sm_FP "SmokeControl$Reader" 39 5 4 (.boolean) := ⟨(sm_R5, sm_F5, 6), rfl, Nat.le_of_ble_eq_true rfl, (sm_mq1 233 (by decide +kernel) rfl), rfl, by decide +kernel⟩
theorem fp_re_43 : sm_FP "SmokeControl$Reader" 43 5 5 (.boolean) := ⟨(sm_R5, sm_F5, 6), rfl, Nat.le_of_ble_eq_true rfl, (sm_mq1 234 (by decide +kernel) rfl), rfl, by decide +kernel⟩
theorem fp_re_88 : sm_FP "SmokeControl$Reader" 88 4 0 (.int) := ⟨(sm_R4, sm_F4, 16), rfl, Nat.le_of_ble_eq_true rfl, (sm_mq1 92 (by decide +kernel) rfl), rfl, by decide +kernel⟩
theorem fp_ru_30 : sm_FP "SmokeControl$RuleBook" 30 6 0 (.int) := ⟨(sm_R6, sm_F6, 9), rfl, Nat.le_of_ble_eq_true rfl, (sm_mq1 40 (by decide +kernel) rfl), rfl, by decide +kernel⟩
theorem fp_ru_34 : sm_FP "SmokeControl$RuleBook" 34 6 1 (.int) := ⟨(sm_R6, sm_F6, 9), rfl, Nat.le_of_ble_eq_true rfl, (sm_mq1 44 (by decide +kernel) rfl), rfl, by decide +kernel⟩
theorem fp_ru_37 : sm_FP "SmokeControl$RuleBook" 37 6 2 (.int) := ⟨(sm_R6, sm_F6, 9), rfl, Nat.le_of_ble_eq_true rfl, (sm_mq1 45 (by decide +kernel) rfl), rfl, by decide +kernel⟩
theorem fp_sc_128 : sm_FP "SmokeControl" 128 0 1 (.int) := ⟨(sm_R0, sm_F0, 4), rfl, Nat.le_of_ble_eq_true rfl, (sm_mq2 24 (by decide +kernel) rfl), rfl, by decide +kernel⟩
theorem fp_sc_137 : sm_FP "SmokeControl" 137 7 6 (.int) := ⟨(sm_R7, sm_F7, 18), rfl, Nat.le_of_ble_eq_true rfl, (sm_mq2 100 (by decide +kernel) rfl), rfl, by decide +kernel⟩
theorem fp_sc_150 : sm_FP "SmokeControl" 150 7 7 (.int) := ⟨(sm_R7, sm_F7, 18), rfl, Nat.le_of_ble_eq_true rfl, (sm_mq2 104 (by decide +kernel) rfl), rfl, by decide +kernel⟩
theorem fp_sc_153 : sm_FP "SmokeControl" 153 7 2 (.boolean) := ⟨(sm_R7, sm_F7, 18), rfl, Nat.le_of_ble_eq_true rfl, (sm_mq2 88 (by decide +kernel) rfl), rfl, by decide +kernel⟩
theorem fp_sc_183 : sm_FP "SmokeControl" 183 7 8 (.int) := ⟨(sm_R7, sm_F7, 18), rfl, Nat.le_of_ble_eq_true rfl, (sm_mq2 107 (by decide +kernel) rfl), rfl, by decide +kernel⟩
theorem fp_sc_46 : sm_FP "SmokeControl" 46 8 1 (.int) := ⟨(sm_R8, sm_F8, 8), rfl, Nat.le_of_ble_eq_true rfl, (sm_mq1 194 (by decide +kernel) rfl), rfl, by decide +kernel⟩
theorem fp_sc_74 : sm_FP "SmokeControl" 74 5 1 (.object "SmokeControl$Plant") := ⟨(sm_R5, sm_F5, 6), rfl, Nat.le_of_ble_eq_true rfl, (sm_mq1 228 (by decide +kernel) rfl), rfl, by decide +kernel⟩
theorem fp_sc_77 : sm_FP "SmokeControl" 77 9 4 (.int) := ⟨(sm_R9, sm_F9, 6), rfl, Nat.le_of_ble_eq_true rfl, (sm_mq2 220 (by decide +kernel) rfl), rfl, by decide +kernel⟩
theorem fp_st_51 : sm_FP "SmokeControl$State" 51 7 0 (.object "SmokeControl$Plant") := ⟨(sm_R7, sm_F7, 18), rfl, Nat.le_of_ble_eq_true rfl, (sm_mq2 77 (by decide +kernel) rfl), rfl, by decide +kernel⟩
theorem fp_st_55 : sm_FP "SmokeControl$State" 55 7 1 (.int) := ⟨(sm_R7, sm_F7, 18), rfl, Nat.le_of_ble_eq_true rfl, (sm_mq2 81 (by decide +kernel) rfl), rfl, by decide +kernel⟩
theorem fp_st_59 : sm_FP "SmokeControl$State" 59 7 2 (.boolean) := ⟨(sm_R7, sm_F7, 18), rfl, Nat.le_of_ble_eq_true rfl, (sm_mq2 86 (by decide +kernel) rfl), rfl, by decide +kernel⟩
theorem fp_st_63 : sm_FP "SmokeControl$State" 63 7 3 (.int) := ⟨(sm_R7, sm_F7, 18), rfl, Nat.le_of_ble_eq_true rfl, (sm_mq2 89 (by decide +kernel) rfl), rfl, by decide +kernel⟩
theorem fp_st_66 : sm_FP "SmokeControl$State" 66 7 4 (.int) := ⟨(sm_R7, sm_F7, 18), rfl, Nat.le_of_ble_eq_true rfl, (sm_mq2 92 (by decide +kernel) rfl), rfl, by decide +kernel⟩
theorem fp_st_69 : sm_FP "SmokeControl$State" 69 7 5 (.int) := ⟨(sm_R7, sm_F7, 18), rfl, Nat.le_of_ble_eq_true rfl, (sm_mq2 95 (by decide +kernel) rfl), rfl, by decide +kernel⟩
theorem fp_st_72 : sm_FP "SmokeControl$State" 72 7 6 (.int) := ⟨(sm_R7, sm_F7, 18), rfl, Nat.le_of_ble_eq_true rfl, (sm_mq2 98 (by decide +kernel) rfl), rfl, by decide +kernel⟩
theorem fp_st_75 : sm_FP "SmokeControl$State" 75 7 7 (.int) := ⟨(sm_R7, sm_F7, 18), rfl, Nat.le_of_ble_eq_true rfl, (sm_mq2 102 (by decide +kernel) rfl), rfl, by decide +kernel⟩
theorem fp_st_78 : sm_FP "SmokeControl$State" 78 7 8 (.int) := ⟨(sm_R7, sm_F7, 18), rfl, Nat.le_of_ble_eq_true rfl, (sm_mq2 105 (by decide +kernel) rfl), rfl, by decide +kernel⟩
theorem fp_st_89 : sm_FP "SmokeControl$State" 89 3 0 (.int) := ⟨(sm_R3, sm_F3, 4), rfl, Nat.le_of_ble_eq_true rfl, (sm_mq2 46 (by decide +kernel) rfl), rfl, by decide +kernel⟩
theorem fp_te_28 : sm_FP "SmokeControl$Text" 28 8 1 (.int) := ⟨(sm_R8, sm_F8, 8), rfl, Nat.le_of_ble_eq_true rfl, (sm_mq1 193 (by decide +kernel) rfl), rfl, by decide +kernel⟩
theorem fp_te_32 : sm_FP "SmokeControl$Text" 32 8 6 (.int) := ⟨(sm_R8, sm_F8, 8), rfl, Nat.le_of_ble_eq_true rfl, (sm_mq1 202 (by decide +kernel) rfl), rfl, by decide +kernel⟩
theorem fp_te_35 : sm_FP "SmokeControl$Text" 35 8 7 (.int) := ⟨(sm_R8, sm_F8, 8), rfl, Nat.le_of_ble_eq_true rfl, (sm_mq1 203 (by decide +kernel) rfl), rfl, by decide +kernel⟩
theorem ini_sc : Cond.initialized "SmokeControl" ∈ sm_LT := (sm_mq1 1 (by decide +kernel) rfl)
theorem ini_al : Cond.initialized "SmokeControl$Alarms" ∈ sm_LT := (sm_mq1 7 (by decide +kernel) rfl)
theorem ini_co : Cond.initialized "SmokeControl$Commands" ∈ sm_LT := (sm_mq1 11 (by decide +kernel) rfl)
theorem ini_en : Cond.initialized "SmokeControl$Engine" ∈ sm_LT := (sm_mq1 10 (by decide +kernel) rfl)
theorem ini_lo : Cond.initialized "SmokeControl$Log" ∈ sm_LT := (sm_mq1 8 (by decide +kernel) rfl)
theorem ini_pl : Cond.initialized "SmokeControl$Plant" ∈ sm_LT := (sm_mq1 2 (by decide +kernel) rfl)
theorem ini_re : Cond.initialized "SmokeControl$Reader" ∈ sm_LT := (sm_mq1 4 (by decide +kernel) rfl)
theorem ini_ru : Cond.initialized "SmokeControl$RuleBook" ∈ sm_LT := (sm_mq1 3 (by decide +kernel) rfl)
theorem ini_st : Cond.initialized "SmokeControl$State" ∈ sm_LT := (sm_mq1 6 (by decide +kernel) rfl)
theorem ini_te : Cond.initialized "SmokeControl$Text" ∈ sm_LT := (sm_mq1 5 (by decide +kernel) rfl)
theorem ini_mo : Cond.initialized "SmokeControlModel" ∈ sm_LT := (sm_mq1 12 (by decide +kernel) rfl)
theorem ini_ji : Cond.initialized "java/lang/Integer" ∈ sm_LT := (sm_mq1 18 (by decide +kernel) rfl)
theorem ini_jm : Cond.initialized "java/lang/Math" ∈ sm_LT := (sm_mq1 17 (by decide +kernel) rfl)
theorem ini_js : Cond.initialized "java/lang/String" ∈ sm_LT := (sm_mq1 13 (by decide +kernel) rfl)
theorem ini_jl : Cond.initialized "java/lang/StringLatin1" ∈ sm_LT := (sm_mq1 14 (by decide +kernel) rfl)
theorem ini_ja : Cond.initialized "java/util/Arrays" ∈ sm_LT := (sm_mq1 9 (by decide +kernel) rfl)
theorem ini_jp : Cond.initialized "jdk/internal/util/Preconditions" ∈ sm_LT := (sm_mq1 15 (by decide +kernel) rfl)
theorem cw_sc_copyRow : Cond.code q_sc_copyRow.1 q_sc_copyRow.2.1 q_sc_copyRow.2.2.1 q_sc_copyRow.2.2.2 ∈ sm_LT := (sm_mq5 98 rfl rfl)
theorem cy_sc_copyRow : (q_sc_copyRow.1.cls ≠ "java/lang/invoke/MethodHandle" ∧ q_sc_copyRow.1.cls ≠ "java/lang/invoke/VarHandle" ∧ (parseMethodDescriptor q_sc_copyRow.1.desc).map (fun d => d.parameters.length) = some 2) ∧ Nat.ble q_sc_copyRow.2.2.1 45 = true := ⟨⟨by decide +kernel, by decide +kernel, by decide +kernel⟩, rfl⟩
theorem cx_sc_copyRow : Cond.static q_sc_copyRow.1 ∈ sm_LT := (sm_mq5 97 (by decide +kernel) rfl)
theorem cw_sc_exchange : Cond.code q_sc_exchange.1 q_sc_exchange.2.1 q_sc_exchange.2.2.1 q_sc_exchange.2.2.2 ∈ sm_LT := (sm_mq4 17 rfl rfl)
theorem cy_sc_exchange : (q_sc_exchange.1.cls ≠ "java/lang/invoke/MethodHandle" ∧ q_sc_exchange.1.cls ≠ "java/lang/invoke/VarHandle" ∧ (parseMethodDescriptor q_sc_exchange.1.desc).map (fun d => d.parameters.length) = some 3) ∧ Nat.ble q_sc_exchange.2.2.1 45 = true := ⟨⟨by decide +kernel, by decide +kernel, by decide +kernel⟩, rfl⟩
theorem cx_sc_exchange : Cond.static q_sc_exchange.1 ∈ sm_LT := (sm_mq4 16 (by decide +kernel) rfl)
theorem cw_sc_has : Cond.code q_sc_has.1 q_sc_has.2.1 q_sc_has.2.2.1 q_sc_has.2.2.2 ∈ sm_LT := (sm_mq2 75 rfl rfl)
theorem cy_sc_has : (q_sc_has.1.cls ≠ "java/lang/invoke/MethodHandle" ∧ q_sc_has.1.cls ≠ "java/lang/invoke/VarHandle" ∧ (parseMethodDescriptor q_sc_has.1.desc).map (fun d => d.parameters.length) = some 2) ∧ Nat.ble q_sc_has.2.2.1 45 = true := ⟨⟨by decide +kernel, by decide +kernel, by decide +kernel⟩, rfl⟩
theorem cx_sc_has : Cond.static q_sc_has.1 ∈ sm_LT := (sm_mq2 74 (by decide +kernel) rfl)
theorem cw_sc_isNoTrial : Cond.code q_sc_isNoTrial.1 q_sc_isNoTrial.2.1 q_sc_isNoTrial.2.2.1 q_sc_isNoTrial.2.2.2 ∈ sm_LT := (sm_mq5 87 rfl rfl)
theorem cy_sc_isNoTrial : (q_sc_isNoTrial.1.cls ≠ "java/lang/invoke/MethodHandle" ∧ q_sc_isNoTrial.1.cls ≠ "java/lang/invoke/VarHandle" ∧ (parseMethodDescriptor q_sc_isNoTrial.1.desc).map (fun d => d.parameters.length) = some 1) ∧ Nat.ble q_sc_isNoTrial.2.2.1 45 = true := ⟨⟨by decide +kernel, by decide +kernel, by decide +kernel⟩, rfl⟩
theorem cx_sc_isNoTrial : Cond.static q_sc_isNoTrial.1 ∈ sm_LT := (sm_mq5 86 (by decide +kernel) rfl)
theorem cw_sc_lacksDamper : Cond.code q_sc_lacksDamper.1 q_sc_lacksDamper.2.1 q_sc_lacksDamper.2.2.1 q_sc_lacksDamper.2.2.2 ∈ sm_LT := (sm_mq4 34 rfl rfl)
theorem cy_sc_lacksDamper : (q_sc_lacksDamper.1.cls ≠ "java/lang/invoke/MethodHandle" ∧ q_sc_lacksDamper.1.cls ≠ "java/lang/invoke/VarHandle" ∧ (parseMethodDescriptor q_sc_lacksDamper.1.desc).map (fun d => d.parameters.length) = some 1) ∧ Nat.ble q_sc_lacksDamper.2.2.1 45 = true := ⟨⟨by decide +kernel, by decide +kernel, by decide +kernel⟩, rfl⟩
theorem cx_sc_lacksDamper : Cond.instanceMethod q_sc_lacksDamper.1 ∈ sm_LT ∧ Cond.selects q_sc_lacksDamper.1.cls q_sc_lacksDamper.1 q_sc_lacksDamper.1 ∈ sm_LT := ⟨(sm_mq4 33 (by decide +kernel) rfl), (sm_ms2 (q := (q_sc_lacksDamper.1, 6)) 6 (by decide +kernel))⟩
theorem cw_sc_lacksFan : Cond.code q_sc_lacksFan.1 q_sc_lacksFan.2.1 q_sc_lacksFan.2.2.1 q_sc_lacksFan.2.2.2 ∈ sm_LT := (sm_mq4 46 rfl rfl)
theorem cy_sc_lacksFan : (q_sc_lacksFan.1.cls ≠ "java/lang/invoke/MethodHandle" ∧ q_sc_lacksFan.1.cls ≠ "java/lang/invoke/VarHandle" ∧ (parseMethodDescriptor q_sc_lacksFan.1.desc).map (fun d => d.parameters.length) = some 1) ∧ Nat.ble q_sc_lacksFan.2.2.1 45 = true := ⟨⟨by decide +kernel, by decide +kernel, by decide +kernel⟩, rfl⟩
theorem cx_sc_lacksFan : Cond.instanceMethod q_sc_lacksFan.1 ∈ sm_LT ∧ Cond.selects q_sc_lacksFan.1.cls q_sc_lacksFan.1 q_sc_lacksFan.1 ∈ sm_LT := ⟨(sm_mq4 45 (by decide +kernel) rfl), (sm_ms2 (q := (q_sc_lacksFan.1, 6)) 8 (by decide +kernel))⟩
theorem cw_sc_lacksZone : Cond.code q_sc_lacksZone.1 q_sc_lacksZone.2.1 q_sc_lacksZone.2.2.1 q_sc_lacksZone.2.2.2 ∈ sm_LT := (sm_mq4 14 rfl rfl)
theorem cy_sc_lacksZone : (q_sc_lacksZone.1.cls ≠ "java/lang/invoke/MethodHandle" ∧ q_sc_lacksZone.1.cls ≠ "java/lang/invoke/VarHandle" ∧ (parseMethodDescriptor q_sc_lacksZone.1.desc).map (fun d => d.parameters.length) = some 1) ∧ Nat.ble q_sc_lacksZone.2.2.1 45 = true := ⟨⟨by decide +kernel, by decide +kernel, by decide +kernel⟩, rfl⟩
theorem cx_sc_lacksZone : Cond.instanceMethod q_sc_lacksZone.1 ∈ sm_LT ∧ Cond.selects q_sc_lacksZone.1.cls q_sc_lacksZone.1 q_sc_lacksZone.1 ∈ sm_LT := ⟨(sm_mq4 13 (by decide +kernel) rfl), (sm_ms2 (q := (q_sc_lacksZone.1, 6)) 5 (by decide +kernel))⟩
theorem cw_sc_presentCommands : Cond.code q_sc_presentCommands.1 q_sc_presentCommands.2.1 q_sc_presentCommands.2.2.1 q_sc_presentCommands.2.2.2 ∈ sm_LT := (sm_mq5 42 rfl rfl)
theorem cy_sc_presentCommands : (q_sc_presentCommands.1.cls ≠ "java/lang/invoke/MethodHandle" ∧ q_sc_presentCommands.1.cls ≠ "java/lang/invoke/VarHandle" ∧ (parseMethodDescriptor q_sc_presentCommands.1.desc).map (fun d => d.parameters.length) = some 0) ∧ Nat.ble q_sc_presentCommands.2.2.1 45 = true := ⟨⟨by decide +kernel, by decide +kernel, by decide +kernel⟩, rfl⟩
theorem cx_sc_presentCommands : Cond.instanceMethod q_sc_presentCommands.1 ∈ sm_LT ∧ Cond.selects q_sc_presentCommands.1.cls q_sc_presentCommands.1 q_sc_presentCommands.1 ∈ sm_LT := ⟨(sm_mq5 41 (by decide +kernel) rfl), (sm_ms3 (q := (q_sc_presentCommands.1, 6)) 7 (by decide +kernel))⟩
theorem cw_sc_setCommand : Cond.code q_sc_setCommand.1 q_sc_setCommand.2.1 q_sc_setCommand.2.2.1 q_sc_setCommand.2.2.2 ∈ sm_LT := (sm_mq4 64 rfl rfl)
theorem cy_sc_setCommand : (q_sc_setCommand.1.cls ≠ "java/lang/invoke/MethodHandle" ∧ q_sc_setCommand.1.cls ≠ "java/lang/invoke/VarHandle" ∧ (parseMethodDescriptor q_sc_setCommand.1.desc).map (fun d => d.parameters.length) = some 3) ∧ Nat.ble q_sc_setCommand.2.2.1 45 = true := ⟨⟨by decide +kernel, by decide +kernel, by decide +kernel⟩, rfl⟩
theorem cx_sc_setCommand : Cond.static q_sc_setCommand.1 ∈ sm_LT := (sm_mq4 63 (by decide +kernel) rfl)
theorem cw_sc_setFaulty : Cond.code q_sc_setFaulty.1 q_sc_setFaulty.2.1 q_sc_setFaulty.2.2.1 q_sc_setFaulty.2.2.2 ∈ sm_LT := (sm_mq4 38 rfl rfl)
theorem cy_sc_setFaulty : (q_sc_setFaulty.1.cls ≠ "java/lang/invoke/MethodHandle" ∧ q_sc_setFaulty.1.cls ≠ "java/lang/invoke/VarHandle" ∧ (parseMethodDescriptor q_sc_setFaulty.1.desc).map (fun d => d.parameters.length) = some 2) ∧ Nat.ble q_sc_setFaulty.2.2.1 45 = true := ⟨⟨by decide +kernel, by decide +kernel, by decide +kernel⟩, rfl⟩
theorem cx_sc_setFaulty : Cond.instanceMethod q_sc_setFaulty.1 ∈ sm_LT ∧ Cond.selects q_sc_setFaulty.1.cls q_sc_setFaulty.1 q_sc_setFaulty.1 ∈ sm_LT := ⟨(sm_mq4 37 (by decide +kernel) rfl), (sm_ms2 (q := (q_sc_setFaulty.1, 6)) 7 (by decide +kernel))⟩
theorem cw_sc_smokeWithSwitch : Cond.code q_sc_smokeWithSwitch.1 q_sc_smokeWithSwitch.2.1 q_sc_smokeWithSwitch.2.2.1 q_sc_smokeWithSwitch.2.2.2 ∈ sm_LT := (sm_mq5 140 rfl rfl)
theorem cy_sc_smokeWithSwitch : (q_sc_smokeWithSwitch.1.cls ≠ "java/lang/invoke/MethodHandle" ∧ q_sc_smokeWithSwitch.1.cls ≠ "java/lang/invoke/VarHandle" ∧ (parseMethodDescriptor q_sc_smokeWithSwitch.1.desc).map (fun d => d.parameters.length) = some 3) ∧ Nat.ble q_sc_smokeWithSwitch.2.2.1 45 = true := ⟨⟨by decide +kernel, by decide +kernel, by decide +kernel⟩, rfl⟩
theorem cx_sc_smokeWithSwitch : Cond.instanceMethod q_sc_smokeWithSwitch.1 ∈ sm_LT ∧ Cond.selects q_sc_smokeWithSwitch.1.cls q_sc_smokeWithSwitch.1 q_sc_smokeWithSwitch.1 ∈ sm_LT := ⟨(sm_mq5 139 (by decide +kernel) rfl), (sm_ms3 (q := (q_sc_smokeWithSwitch.1, 6)) 10 (by decide +kernel))⟩
theorem cw_sc_switchZoneOn : Cond.code q_sc_switchZoneOn.1 q_sc_switchZoneOn.2.1 q_sc_switchZoneOn.2.2.1 q_sc_switchZoneOn.2.2.2 ∈ sm_LT := (sm_mq5 148 rfl rfl)
theorem cy_sc_switchZoneOn : (q_sc_switchZoneOn.1.cls ≠ "java/lang/invoke/MethodHandle" ∧ q_sc_switchZoneOn.1.cls ≠ "java/lang/invoke/VarHandle" ∧ (parseMethodDescriptor q_sc_switchZoneOn.1.desc).map (fun d => d.parameters.length) = some 1) ∧ Nat.ble q_sc_switchZoneOn.2.2.1 45 = true := ⟨⟨by decide +kernel, by decide +kernel, by decide +kernel⟩, rfl⟩
theorem cx_sc_switchZoneOn : Cond.instanceMethod q_sc_switchZoneOn.1 ∈ sm_LT ∧ Cond.selects q_sc_switchZoneOn.1.cls q_sc_switchZoneOn.1 q_sc_switchZoneOn.1 ∈ sm_LT := ⟨(sm_mq5 147 (by decide +kernel) rfl), (sm_ms3 (q := (q_sc_switchZoneOn.1, 6)) 11 (by decide +kernel))⟩
theorem cw_sc_tryTicks : Cond.code q_sc_tryTicks.1 q_sc_tryTicks.2.1 q_sc_tryTicks.2.2.1 q_sc_tryTicks.2.2.2 ∈ sm_LT := (sm_mq5 91 rfl rfl)
theorem cy_sc_tryTicks : (q_sc_tryTicks.1.cls ≠ "java/lang/invoke/MethodHandle" ∧ q_sc_tryTicks.1.cls ≠ "java/lang/invoke/VarHandle" ∧ (parseMethodDescriptor q_sc_tryTicks.1.desc).map (fun d => d.parameters.length) = some 1) ∧ Nat.ble q_sc_tryTicks.2.2.1 45 = true := ⟨⟨by decide +kernel, by decide +kernel, by decide +kernel⟩, rfl⟩
theorem cx_sc_tryTicks : Cond.instanceMethod q_sc_tryTicks.1 ∈ sm_LT ∧ Cond.selects q_sc_tryTicks.1.cls q_sc_tryTicks.1 q_sc_tryTicks.1 ∈ sm_LT := ⟨(sm_mq5 90 (by decide +kernel) rfl), (sm_ms3 (q := (q_sc_tryTicks.1, 6)) 9 (by decide +kernel))⟩
theorem cw_sc_unitAnswer : Cond.code q_sc_unitAnswer.1 q_sc_unitAnswer.2.1 q_sc_unitAnswer.2.2.1 q_sc_unitAnswer.2.2.2 ∈ sm_LT := (sm_mq5 38 rfl rfl)
theorem cy_sc_unitAnswer : (q_sc_unitAnswer.1.cls ≠ "java/lang/invoke/MethodHandle" ∧ q_sc_unitAnswer.1.cls ≠ "java/lang/invoke/VarHandle" ∧ (parseMethodDescriptor q_sc_unitAnswer.1.desc).map (fun d => d.parameters.length) = some 2) ∧ Nat.ble q_sc_unitAnswer.2.2.1 45 = true := ⟨⟨by decide +kernel, by decide +kernel, by decide +kernel⟩, rfl⟩
theorem cx_sc_unitAnswer : Cond.instanceMethod q_sc_unitAnswer.1 ∈ sm_LT ∧ Cond.selects q_sc_unitAnswer.1.cls q_sc_unitAnswer.1 q_sc_unitAnswer.1 ∈ sm_LT := ⟨(sm_mq5 37 (by decide +kernel) rfl), (sm_ms3 (q := (q_sc_unitAnswer.1, 6)) 6 (by decide +kernel))⟩
theorem cw_sc_waitsForDamper : Cond.code q_sc_waitsForDamper.1 q_sc_waitsForDamper.2.1 q_sc_waitsForDamper.2.2.1 q_sc_waitsForDamper.2.2.2 ∈ sm_LT := (sm_mq5 52 rfl rfl)
theorem cy_sc_waitsForDamper : (q_sc_waitsForDamper.1.cls ≠ "java/lang/invoke/MethodHandle" ∧ q_sc_waitsForDamper.1.cls ≠ "java/lang/invoke/VarHandle" ∧ (parseMethodDescriptor q_sc_waitsForDamper.1.desc).map (fun d => d.parameters.length) = some 1) ∧ Nat.ble q_sc_waitsForDamper.2.2.1 45 = true := ⟨⟨by decide +kernel, by decide +kernel, by decide +kernel⟩, rfl⟩
theorem cx_sc_waitsForDamper : Cond.instanceMethod q_sc_waitsForDamper.1 ∈ sm_LT ∧ Cond.selects q_sc_waitsForDamper.1.cls q_sc_waitsForDamper.1 q_sc_waitsForDamper.1 ∈ sm_LT := ⟨(sm_mq5 51 (by decide +kernel) rfl), (sm_ms3 (q := (q_sc_waitsForDamper.1, 6)) 8 (by decide +kernel))⟩
theorem cw_sc_with : Cond.code q_sc_with.1 q_sc_with.2.1 q_sc_with.2.2.1 q_sc_with.2.2.2 ∈ sm_LT := (sm_mq3 133 rfl rfl)
theorem cy_sc_with : (q_sc_with.1.cls ≠ "java/lang/invoke/MethodHandle" ∧ q_sc_with.1.cls ≠ "java/lang/invoke/VarHandle" ∧ (parseMethodDescriptor q_sc_with.1.desc).map (fun d => d.parameters.length) = some 3) ∧ Nat.ble q_sc_with.2.2.1 45 = true := ⟨⟨by decide +kernel, by decide +kernel, by decide +kernel⟩, rfl⟩
theorem cx_sc_with : Cond.static q_sc_with.1 ∈ sm_LT := (sm_mq3 132 (by decide +kernel) rfl)
theorem cw_al_begin : Cond.code q_al_begin.1 q_al_begin.2.1 q_al_begin.2.2.1 q_al_begin.2.2.2 ∈ sm_LT := (sm_mq2 72 rfl rfl)
theorem cy_al_begin : (q_al_begin.1.cls ≠ "java/lang/invoke/MethodHandle" ∧ q_al_begin.1.cls ≠ "java/lang/invoke/VarHandle" ∧ (parseMethodDescriptor q_al_begin.1.desc).map (fun d => d.parameters.length) = some 0) ∧ Nat.ble q_al_begin.2.2.1 45 = true := ⟨⟨by decide +kernel, by decide +kernel, by decide +kernel⟩, rfl⟩
theorem cx_al_begin : Cond.instanceMethod q_al_begin.1 ∈ sm_LT ∧ Cond.selects q_al_begin.1.cls q_al_begin.1 q_al_begin.1 ∈ sm_LT := ⟨(sm_mq2 70 (by decide +kernel) rfl), (sm_mq2 71 (by decide +kernel) rfl)⟩
theorem cw_al_copyFrom : Cond.code q_al_copyFrom.1 q_al_copyFrom.2.1 q_al_copyFrom.2.2.1 q_al_copyFrom.2.2.2 ∈ sm_LT := (sm_mq5 106 rfl rfl)
theorem cy_al_copyFrom : (q_al_copyFrom.1.cls ≠ "java/lang/invoke/MethodHandle" ∧ q_al_copyFrom.1.cls ≠ "java/lang/invoke/VarHandle" ∧ (parseMethodDescriptor q_al_copyFrom.1.desc).map (fun d => d.parameters.length) = some 1) ∧ Nat.ble q_al_copyFrom.2.2.1 45 = true := ⟨⟨by decide +kernel, by decide +kernel, by decide +kernel⟩, rfl⟩
theorem cx_al_copyFrom : Cond.instanceMethod q_al_copyFrom.1 ∈ sm_LT ∧ Cond.selects q_al_copyFrom.1.cls q_al_copyFrom.1 q_al_copyFrom.1 ∈ sm_LT := ⟨(sm_mq5 104 (by decide +kernel) rfl), (sm_mq5 105 (by decide +kernel) rfl)⟩
theorem cw_al_lowest : Cond.code q_al_lowest.1 q_al_lowest.2.1 q_al_lowest.2.2.1 q_al_lowest.2.2.2 ∈ sm_LT := (sm_mq4 237 rfl rfl)
theorem cy_al_lowest : (q_al_lowest.1.cls ≠ "java/lang/invoke/MethodHandle" ∧ q_al_lowest.1.cls ≠ "java/lang/invoke/VarHandle" ∧ (parseMethodDescriptor q_al_lowest.1.desc).map (fun d => d.parameters.length) = some 1) ∧ Nat.ble q_al_lowest.2.2.1 45 = true := ⟨⟨by decide +kernel, by decide +kernel, by decide +kernel⟩, rfl⟩
theorem cx_al_lowest : Cond.instanceMethod q_al_lowest.1 ∈ sm_LT ∧ Cond.selects q_al_lowest.1.cls q_al_lowest.1 q_al_lowest.1 ∈ sm_LT := ⟨(sm_mq4 236 (by decide +kernel) rfl), (sm_ms3 (q := (q_al_lowest.1, 4)) 5 (by decide +kernel))⟩
theorem cw_al_raise : Cond.code q_al_raise.1 q_al_raise.2.1 q_al_raise.2.2.1 q_al_raise.2.2.2 ∈ sm_LT := (sm_mq4 221 rfl rfl)
theorem cy_al_raise : (q_al_raise.1.cls ≠ "java/lang/invoke/MethodHandle" ∧ q_al_raise.1.cls ≠ "java/lang/invoke/VarHandle" ∧ (parseMethodDescriptor q_al_raise.1.desc).map (fun d => d.parameters.length) = some 1) ∧ Nat.ble q_al_raise.2.2.1 45 = true := ⟨⟨by decide +kernel, by decide +kernel, by decide +kernel⟩, rfl⟩
theorem cx_al_raise : Cond.instanceMethod q_al_raise.1 ∈ sm_LT ∧ Cond.selects q_al_raise.1.cls q_al_raise.1 q_al_raise.1 ∈ sm_LT := ⟨(sm_mq4 219 (by decide +kernel) rfl), (sm_mq4 220 (by decide +kernel) rfl)⟩
theorem cw_al_silence : Cond.code q_al_silence.1 q_al_silence.2.1 q_al_silence.2.2.1 q_al_silence.2.2.2 ∈ sm_LT := (sm_mq4 233 rfl rfl)
theorem cy_al_silence : (q_al_silence.1.cls ≠ "java/lang/invoke/MethodHandle" ∧ q_al_silence.1.cls ≠ "java/lang/invoke/VarHandle" ∧ (parseMethodDescriptor q_al_silence.1.desc).map (fun d => d.parameters.length) = some 1) ∧ Nat.ble q_al_silence.2.2.1 45 = true := ⟨⟨by decide +kernel, by decide +kernel, by decide +kernel⟩, rfl⟩
theorem cx_al_silence : Cond.instanceMethod q_al_silence.1 ∈ sm_LT ∧ Cond.selects q_al_silence.1.cls q_al_silence.1 q_al_silence.1 ∈ sm_LT := ⟨(sm_mq4 231 (by decide +kernel) rfl), (sm_mq4 232 (by decide +kernel) rfl)⟩
theorem cw_co_act : Cond.code q_co_act.1 q_co_act.2.1 q_co_act.2.2.1 q_co_act.2.2.2 ∈ sm_LT := (sm_mq4 114 rfl rfl)
theorem cy_co_act : (q_co_act.1.cls ≠ "java/lang/invoke/MethodHandle" ∧ q_co_act.1.cls ≠ "java/lang/invoke/VarHandle" ∧ (parseMethodDescriptor q_co_act.1.desc).map (fun d => d.parameters.length) = some 3) ∧ Nat.ble q_co_act.2.2.1 45 = true := ⟨⟨by decide +kernel, by decide +kernel, by decide +kernel⟩, rfl⟩
theorem cx_co_act : Cond.instanceMethod q_co_act.1 ∈ sm_LT ∧ Cond.selects q_co_act.1.cls q_co_act.1 q_co_act.1 ∈ sm_LT := ⟨(sm_mq4 113 (by decide +kernel) rfl), (sm_ms2 (q := (q_co_act.1, 3)) 10 (by decide +kernel))⟩
theorem cw_co_determine : Cond.code q_co_determine.1 q_co_determine.2.1 q_co_determine.2.2.1 q_co_determine.2.2.2 ∈ sm_LT := (sm_mq4 88 rfl rfl)
theorem cy_co_determine : (q_co_determine.1.cls ≠ "java/lang/invoke/MethodHandle" ∧ q_co_determine.1.cls ≠ "java/lang/invoke/VarHandle" ∧ (parseMethodDescriptor q_co_determine.1.desc).map (fun d => d.parameters.length) = some 1) ∧ Nat.ble q_co_determine.2.2.1 45 = true := ⟨⟨by decide +kernel, by decide +kernel, by decide +kernel⟩, rfl⟩
theorem cx_co_determine : Cond.instanceMethod q_co_determine.1 ∈ sm_LT ∧ Cond.selects q_co_determine.1.cls q_co_determine.1 q_co_determine.1 ∈ sm_LT := ⟨(sm_mq4 86 (by decide +kernel) rfl), (sm_mq4 87 (by decide +kernel) rfl)⟩
theorem cw_co_followRules : Cond.code q_co_followRules.1 q_co_followRules.2.1 q_co_followRules.2.2.1 q_co_followRules.2.2.2 ∈ sm_LT := (sm_mq4 92 rfl rfl)
theorem cy_co_followRules : (q_co_followRules.1.cls ≠ "java/lang/invoke/MethodHandle" ∧ q_co_followRules.1.cls ≠ "java/lang/invoke/VarHandle" ∧ (parseMethodDescriptor q_co_followRules.1.desc).map (fun d => d.parameters.length) = some 1) ∧ Nat.ble q_co_followRules.2.2.1 45 = true := ⟨⟨by decide +kernel, by decide +kernel, by decide +kernel⟩, rfl⟩
theorem cx_co_followRules : Cond.instanceMethod q_co_followRules.1 ∈ sm_LT ∧ Cond.selects q_co_followRules.1.cls q_co_followRules.1 q_co_followRules.1 ∈ sm_LT := ⟨(sm_mq4 91 (by decide +kernel) rfl), (sm_ms2 (q := (q_co_followRules.1, 3)) 9 (by decide +kernel))⟩
theorem cw_co_give : Cond.code q_co_give.1 q_co_give.2.1 q_co_give.2.2.1 q_co_give.2.2.2 ∈ sm_LT := (sm_mq4 130 rfl rfl)
theorem cy_co_give : (q_co_give.1.cls ≠ "java/lang/invoke/MethodHandle" ∧ q_co_give.1.cls ≠ "java/lang/invoke/VarHandle" ∧ (parseMethodDescriptor q_co_give.1.desc).map (fun d => d.parameters.length) = some 3) ∧ Nat.ble q_co_give.2.2.1 45 = true := ⟨⟨by decide +kernel, by decide +kernel, by decide +kernel⟩, rfl⟩
theorem cx_co_give : Cond.instanceMethod q_co_give.1 ∈ sm_LT ∧ Cond.selects q_co_give.1.cls q_co_give.1 q_co_give.1 ∈ sm_LT := ⟨(sm_mq4 129 (by decide +kernel) rfl), (sm_ms2 (q := (q_co_give.1, 3)) 14 (by decide +kernel))⟩
theorem cw_co_holds : Cond.code q_co_holds.1 q_co_holds.2.1 q_co_holds.2.2.1 q_co_holds.2.2.2 ∈ sm_LT := (sm_mq4 97 rfl rfl)
theorem cy_co_holds : (q_co_holds.1.cls ≠ "java/lang/invoke/MethodHandle" ∧ q_co_holds.1.cls ≠ "java/lang/invoke/VarHandle" ∧ (parseMethodDescriptor q_co_holds.1.desc).map (fun d => d.parameters.length) = some 2) ∧ Nat.ble q_co_holds.2.2.1 45 = true := ⟨⟨by decide +kernel, by decide +kernel, by decide +kernel⟩, rfl⟩
theorem cx_co_holds : Cond.instanceMethod q_co_holds.1 ∈ sm_LT ∧ Cond.selects q_co_holds.1.cls q_co_holds.1 q_co_holds.1 ∈ sm_LT := ⟨(sm_mq4 95 (by decide +kernel) rfl), (sm_mq4 96 (by decide +kernel) rfl)⟩
theorem cw_co_rule : Cond.code q_co_rule.1 q_co_rule.2.1 q_co_rule.2.2.1 q_co_rule.2.2.2 ∈ sm_LT := (sm_mq4 118 rfl rfl)
theorem cy_co_rule : (q_co_rule.1.cls ≠ "java/lang/invoke/MethodHandle" ∧ q_co_rule.1.cls ≠ "java/lang/invoke/VarHandle" ∧ (parseMethodDescriptor q_co_rule.1.desc).map (fun d => d.parameters.length) = some 2) ∧ Nat.ble q_co_rule.2.2.1 45 = true := ⟨⟨by decide +kernel, by decide +kernel, by decide +kernel⟩, rfl⟩
theorem cx_co_rule : Cond.instanceMethod q_co_rule.1 ∈ sm_LT ∧ Cond.selects q_co_rule.1.cls q_co_rule.1 q_co_rule.1 ∈ sm_LT := ⟨(sm_mq4 117 (by decide +kernel) rfl), (sm_ms2 (q := (q_co_rule.1, 3)) 11 (by decide +kernel))⟩
theorem cw_co_ruleZone : Cond.code q_co_ruleZone.1 q_co_ruleZone.2.1 q_co_ruleZone.2.2.1 q_co_ruleZone.2.2.2 ∈ sm_LT := (sm_mq4 122 rfl rfl)
theorem cy_co_ruleZone : (q_co_ruleZone.1.cls ≠ "java/lang/invoke/MethodHandle" ∧ q_co_ruleZone.1.cls ≠ "java/lang/invoke/VarHandle" ∧ (parseMethodDescriptor q_co_ruleZone.1.desc).map (fun d => d.parameters.length) = some 4) ∧ Nat.ble q_co_ruleZone.2.2.1 45 = true := ⟨⟨by decide +kernel, by decide +kernel, by decide +kernel⟩, rfl⟩
theorem cx_co_ruleZone : Cond.instanceMethod q_co_ruleZone.1 ∈ sm_LT ∧ Cond.selects q_co_ruleZone.1.cls q_co_ruleZone.1 q_co_ruleZone.1 ∈ sm_LT := ⟨(sm_mq4 121 (by decide +kernel) rfl), (sm_ms2 (q := (q_co_ruleZone.1, 3)) 12 (by decide +kernel))⟩
theorem cw_co_settle : Cond.code q_co_settle.1 q_co_settle.2.1 q_co_settle.2.2.1 q_co_settle.2.2.2 ∈ sm_LT := (sm_mq4 126 rfl rfl)
theorem cy_co_settle : (q_co_settle.1.cls ≠ "java/lang/invoke/MethodHandle" ∧ q_co_settle.1.cls ≠ "java/lang/invoke/VarHandle" ∧ (parseMethodDescriptor q_co_settle.1.desc).map (fun d => d.parameters.length) = some 3) ∧ Nat.ble q_co_settle.2.2.1 45 = true := ⟨⟨by decide +kernel, by decide +kernel, by decide +kernel⟩, rfl⟩
theorem cx_co_settle : Cond.instanceMethod q_co_settle.1 ∈ sm_LT ∧ Cond.selects q_co_settle.1.cls q_co_settle.1 q_co_settle.1 ∈ sm_LT := ⟨(sm_mq4 125 (by decide +kernel) rfl), (sm_ms2 (q := (q_co_settle.1, 3)) 13 (by decide +kernel))⟩
theorem cw_co_testHolds : Cond.code q_co_testHolds.1 q_co_testHolds.2.1 q_co_testHolds.2.2.1 q_co_testHolds.2.2.2 ∈ sm_LT := (sm_mq4 105 rfl rfl)
theorem cy_co_testHolds : (q_co_testHolds.1.cls ≠ "java/lang/invoke/MethodHandle" ∧ q_co_testHolds.1.cls ≠ "java/lang/invoke/VarHandle" ∧ (parseMethodDescriptor q_co_testHolds.1.desc).map (fun d => d.parameters.length) = some 3) ∧ Nat.ble q_co_testHolds.2.2.1 45 = true := ⟨⟨by decide +kernel, by decide +kernel, by decide +kernel⟩, rfl⟩
theorem cx_co_testHolds : Cond.static q_co_testHolds.1 ∈ sm_LT := (sm_mq4 104 (by decide +kernel) rfl)
theorem cw_en_changeLevel : Cond.code q_en_changeLevel.1 q_en_changeLevel.2.1 q_en_changeLevel.2.2.1 q_en_changeLevel.2.2.2 ∈ sm_LT := (sm_mq4 160 rfl rfl)
theorem cy_en_changeLevel : (q_en_changeLevel.1.cls ≠ "java/lang/invoke/MethodHandle" ∧ q_en_changeLevel.1.cls ≠ "java/lang/invoke/VarHandle" ∧ (parseMethodDescriptor q_en_changeLevel.1.desc).map (fun d => d.parameters.length) = some 3) ∧ Nat.ble q_en_changeLevel.2.2.1 45 = true := ⟨⟨by decide +kernel, by decide +kernel, by decide +kernel⟩, rfl⟩
theorem cx_en_changeLevel : Cond.static q_en_changeLevel.1 ∈ sm_LT := (sm_mq4 159 (by decide +kernel) rfl)
theorem cw_en_controlPressure : Cond.code q_en_controlPressure.1 q_en_controlPressure.2.1 q_en_controlPressure.2.2.1 q_en_controlPressure.2.2.2 ∈ sm_LT := (sm_mq4 173 rfl rfl)
theorem cy_en_controlPressure : (q_en_controlPressure.1.cls ≠ "java/lang/invoke/MethodHandle" ∧ q_en_controlPressure.1.cls ≠ "java/lang/invoke/VarHandle" ∧ (parseMethodDescriptor q_en_controlPressure.1.desc).map (fun d => d.parameters.length) = some 2) ∧ Nat.ble q_en_controlPressure.2.2.1 45 = true := ⟨⟨by decide +kernel, by decide +kernel, by decide +kernel⟩, rfl⟩
theorem cx_en_controlPressure : Cond.instanceMethod q_en_controlPressure.1 ∈ sm_LT ∧ Cond.selects q_en_controlPressure.1.cls q_en_controlPressure.1 q_en_controlPressure.1 ∈ sm_LT := ⟨(sm_mq4 172 (by decide +kernel) rfl), (sm_ms3 (q := (q_en_controlPressure.1, 4)) 1 (by decide +kernel))⟩
theorem cw_en_divideAir : Cond.code q_en_divideAir.1 q_en_divideAir.2.1 q_en_divideAir.2.2.1 q_en_divideAir.2.2.2 ∈ sm_LT := (sm_mq4 198 rfl rfl)
theorem cy_en_divideAir : (q_en_divideAir.1.cls ≠ "java/lang/invoke/MethodHandle" ∧ q_en_divideAir.1.cls ≠ "java/lang/invoke/VarHandle" ∧ (parseMethodDescriptor q_en_divideAir.1.desc).map (fun d => d.parameters.length) = some 1) ∧ Nat.ble q_en_divideAir.2.2.1 45 = true := ⟨⟨by decide +kernel, by decide +kernel, by decide +kernel⟩, rfl⟩
theorem cx_en_divideAir : Cond.instanceMethod q_en_divideAir.1 ∈ sm_LT ∧ Cond.selects q_en_divideAir.1.cls q_en_divideAir.1 q_en_divideAir.1 ∈ sm_LT := ⟨(sm_mq4 196 (by decide +kernel) rfl), (sm_mq4 197 (by decide +kernel) rfl)⟩
theorem cw_en_fillStair : Cond.code q_en_fillStair.1 q_en_fillStair.2.1 q_en_fillStair.2.2.1 q_en_fillStair.2.2.2 ∈ sm_LT := (sm_mq4 213 rfl rfl)
theorem cy_en_fillStair : (q_en_fillStair.1.cls ≠ "java/lang/invoke/MethodHandle" ∧ q_en_fillStair.1.cls ≠ "java/lang/invoke/VarHandle" ∧ (parseMethodDescriptor q_en_fillStair.1.desc).map (fun d => d.parameters.length) = some 2) ∧ Nat.ble q_en_fillStair.2.2.1 45 = true := ⟨⟨by decide +kernel, by decide +kernel, by decide +kernel⟩, rfl⟩
theorem cx_en_fillStair : Cond.static q_en_fillStair.1 ∈ sm_LT := (sm_mq4 212 (by decide +kernel) rfl)
theorem cw_en_flowBetween : Cond.code q_en_flowBetween.1 q_en_flowBetween.2.1 q_en_flowBetween.2.2.1 q_en_flowBetween.2.2.2 ∈ sm_LT := (sm_mq4 217 rfl rfl)
theorem cy_en_flowBetween : (q_en_flowBetween.1.cls ≠ "java/lang/invoke/MethodHandle" ∧ q_en_flowBetween.1.cls ≠ "java/lang/invoke/VarHandle" ∧ (parseMethodDescriptor q_en_flowBetween.1.desc).map (fun d => d.parameters.length) = some 3) ∧ Nat.ble q_en_flowBetween.2.2.1 45 = true := ⟨⟨by decide +kernel, by decide +kernel, by decide +kernel⟩, rfl⟩
theorem cx_en_flowBetween : Cond.instanceMethod q_en_flowBetween.1 ∈ sm_LT ∧ Cond.selects q_en_flowBetween.1.cls q_en_flowBetween.1 q_en_flowBetween.1 ∈ sm_LT := ⟨(sm_mq4 216 (by decide +kernel) rfl), (sm_ms3 (q := (q_en_flowBetween.1, 4)) 4 (by decide +kernel))⟩
theorem cw_en_isStairFanStarted : Cond.code q_en_isStairFanStarted.1 q_en_isStairFanStarted.2.1 q_en_isStairFanStarted.2.2.1 q_en_isStairFanStarted.2.2.2 ∈ sm_LT := (sm_mq4 193 rfl rfl)
theorem cy_en_isStairFanStarted : (q_en_isStairFanStarted.1.cls ≠ "java/lang/invoke/MethodHandle" ∧ q_en_isStairFanStarted.1.cls ≠ "java/lang/invoke/VarHandle" ∧ (parseMethodDescriptor q_en_isStairFanStarted.1.desc).map (fun d => d.parameters.length) = some 1) ∧ Nat.ble q_en_isStairFanStarted.2.2.1 45 = true := ⟨⟨by decide +kernel, by decide +kernel, by decide +kernel⟩, rfl⟩
theorem cx_en_isStairFanStarted : Cond.instanceMethod q_en_isStairFanStarted.1 ∈ sm_LT ∧ Cond.selects q_en_isStairFanStarted.1.cls q_en_isStairFanStarted.1 q_en_isStairFanStarted.1 ∈ sm_LT := ⟨(sm_mq4 192 (by decide +kernel) rfl), (sm_ms3 (q := (q_en_isStairFanStarted.1, 4)) 2 (by decide +kernel))⟩
theorem cw_en_moveDampers : Cond.code q_en_moveDampers.1 q_en_moveDampers.2.1 q_en_moveDampers.2.2.1 q_en_moveDampers.2.2.2 ∈ sm_LT := (sm_mq4 134 rfl rfl)
theorem cy_en_moveDampers : (q_en_moveDampers.1.cls ≠ "java/lang/invoke/MethodHandle" ∧ q_en_moveDampers.1.cls ≠ "java/lang/invoke/VarHandle" ∧ (parseMethodDescriptor q_en_moveDampers.1.desc).map (fun d => d.parameters.length) = some 1) ∧ Nat.ble q_en_moveDampers.2.2.1 45 = true := ⟨⟨by decide +kernel, by decide +kernel, by decide +kernel⟩, rfl⟩
theorem cx_en_moveDampers : Cond.instanceMethod q_en_moveDampers.1 ∈ sm_LT ∧ Cond.selects q_en_moveDampers.1.cls q_en_moveDampers.1 q_en_moveDampers.1 ∈ sm_LT := ⟨(sm_mq4 133 (by decide +kernel) rfl), (sm_ms2 (q := (q_en_moveDampers.1, 4)) 15 (by decide +kernel))⟩
theorem cw_en_moveSmoke : Cond.code q_en_moveSmoke.1 q_en_moveSmoke.2.1 q_en_moveSmoke.2.2.1 q_en_moveSmoke.2.2.2 ∈ sm_LT := (sm_mq4 210 rfl rfl)
theorem cy_en_moveSmoke : (q_en_moveSmoke.1.cls ≠ "java/lang/invoke/MethodHandle" ∧ q_en_moveSmoke.1.cls ≠ "java/lang/invoke/VarHandle" ∧ (parseMethodDescriptor q_en_moveSmoke.1.desc).map (fun d => d.parameters.length) = some 2) ∧ Nat.ble q_en_moveSmoke.2.2.1 45 = true := ⟨⟨by decide +kernel, by decide +kernel, by decide +kernel⟩, rfl⟩
theorem cx_en_moveSmoke : Cond.instanceMethod q_en_moveSmoke.1 ∈ sm_LT ∧ Cond.selects q_en_moveSmoke.1.cls q_en_moveSmoke.1 q_en_moveSmoke.1 ∈ sm_LT := ⟨(sm_mq4 209 (by decide +kernel) rfl), (sm_ms3 (q := (q_en_moveSmoke.1, 4)) 3 (by decide +kernel))⟩
theorem cw_en_pass : Cond.code q_en_pass.1 q_en_pass.2.1 q_en_pass.2.2.1 q_en_pass.2.2.2 ∈ sm_LT := (sm_mq4 84 rfl rfl)
theorem cy_en_pass : (q_en_pass.1.cls ≠ "java/lang/invoke/MethodHandle" ∧ q_en_pass.1.cls ≠ "java/lang/invoke/VarHandle" ∧ (parseMethodDescriptor q_en_pass.1.desc).map (fun d => d.parameters.length) = some 2) ∧ Nat.ble q_en_pass.2.2.1 45 = true := ⟨⟨by decide +kernel, by decide +kernel, by decide +kernel⟩, rfl⟩
theorem cx_en_pass : Cond.instanceMethod q_en_pass.1 ∈ sm_LT ∧ Cond.selects q_en_pass.1.cls q_en_pass.1 q_en_pass.1 ∈ sm_LT := ⟨(sm_mq4 82 (by decide +kernel) rfl), (sm_mq4 83 (by decide +kernel) rfl)⟩
theorem cw_en_runFans : Cond.code q_en_runFans.1 q_en_runFans.2.1 q_en_runFans.2.2.1 q_en_runFans.2.2.2 ∈ sm_LT := (sm_mq4 145 rfl rfl)
theorem cy_en_runFans : (q_en_runFans.1.cls ≠ "java/lang/invoke/MethodHandle" ∧ q_en_runFans.1.cls ≠ "java/lang/invoke/VarHandle" ∧ (parseMethodDescriptor q_en_runFans.1.desc).map (fun d => d.parameters.length) = some 1) ∧ Nat.ble q_en_runFans.2.2.1 45 = true := ⟨⟨by decide +kernel, by decide +kernel, by decide +kernel⟩, rfl⟩
theorem cx_en_runFans : Cond.instanceMethod q_en_runFans.1 ∈ sm_LT ∧ Cond.selects q_en_runFans.1.cls q_en_runFans.1 q_en_runFans.1 ∈ sm_LT := ⟨(sm_mq4 144 (by decide +kernel) rfl), (sm_ms3 (q := (q_en_runFans.1, 4)) 0 (by decide +kernel))⟩
theorem cw_lo_add : Cond.code q_lo_add.1 q_lo_add.2.1 q_lo_add.2.2.1 q_lo_add.2.2.2 ∈ sm_LT := (sm_mq4 54 rfl rfl)
theorem cy_lo_add : (q_lo_add.1.cls ≠ "java/lang/invoke/MethodHandle" ∧ q_lo_add.1.cls ≠ "java/lang/invoke/VarHandle" ∧ (parseMethodDescriptor q_lo_add.1.desc).map (fun d => d.parameters.length) = some 3) ∧ Nat.ble q_lo_add.2.2.1 45 = true := ⟨⟨by decide +kernel, by decide +kernel, by decide +kernel⟩, rfl⟩
theorem cx_lo_add : Cond.instanceMethod q_lo_add.1 ∈ sm_LT ∧ Cond.selects q_lo_add.1.cls q_lo_add.1 q_lo_add.1 ∈ sm_LT := ⟨(sm_mq4 52 (by decide +kernel) rfl), (sm_mq4 53 (by decide +kernel) rfl)⟩
theorem cw_lo_copyFrom : Cond.code q_lo_copyFrom.1 q_lo_copyFrom.2.1 q_lo_copyFrom.2.2.1 q_lo_copyFrom.2.2.2 ∈ sm_LT := (sm_mq5 110 rfl rfl)
theorem cy_lo_copyFrom : (q_lo_copyFrom.1.cls ≠ "java/lang/invoke/MethodHandle" ∧ q_lo_copyFrom.1.cls ≠ "java/lang/invoke/VarHandle" ∧ (parseMethodDescriptor q_lo_copyFrom.1.desc).map (fun d => d.parameters.length) = some 1) ∧ Nat.ble q_lo_copyFrom.2.2.1 45 = true := ⟨⟨by decide +kernel, by decide +kernel, by decide +kernel⟩, rfl⟩
theorem cx_lo_copyFrom : Cond.instanceMethod q_lo_copyFrom.1 ∈ sm_LT ∧ Cond.selects q_lo_copyFrom.1.cls q_lo_copyFrom.1 q_lo_copyFrom.1 ∈ sm_LT := ⟨(sm_mq5 108 (by decide +kernel) rfl), (sm_mq5 109 (by decide +kernel) rfl)⟩
theorem cw_lo_kept : Cond.code q_lo_kept.1 q_lo_kept.2.1 q_lo_kept.2.2.1 q_lo_kept.2.2.2 ∈ sm_LT := (sm_mq5 71 rfl rfl)
theorem cy_lo_kept : (q_lo_kept.1.cls ≠ "java/lang/invoke/MethodHandle" ∧ q_lo_kept.1.cls ≠ "java/lang/invoke/VarHandle" ∧ (parseMethodDescriptor q_lo_kept.1.desc).map (fun d => d.parameters.length) = some 0) ∧ Nat.ble q_lo_kept.2.2.1 45 = true := ⟨⟨by decide +kernel, by decide +kernel, by decide +kernel⟩, rfl⟩
theorem cx_lo_kept : Cond.instanceMethod q_lo_kept.1 ∈ sm_LT ∧ Cond.selects q_lo_kept.1.cls q_lo_kept.1 q_lo_kept.1 ∈ sm_LT := ⟨(sm_mq5 69 (by decide +kernel) rfl), (sm_mq5 70 (by decide +kernel) rfl)⟩
theorem cw_lo_place : Cond.code q_lo_place.1 q_lo_place.2.1 q_lo_place.2.2.1 q_lo_place.2.2.2 ∈ sm_LT := (sm_mq5 80 rfl rfl)
theorem cy_lo_place : (q_lo_place.1.cls ≠ "java/lang/invoke/MethodHandle" ∧ q_lo_place.1.cls ≠ "java/lang/invoke/VarHandle" ∧ (parseMethodDescriptor q_lo_place.1.desc).map (fun d => d.parameters.length) = some 1) ∧ Nat.ble q_lo_place.2.2.1 45 = true := ⟨⟨by decide +kernel, by decide +kernel, by decide +kernel⟩, rfl⟩
theorem cx_lo_place : Cond.instanceMethod q_lo_place.1 ∈ sm_LT ∧ Cond.selects q_lo_place.1.cls q_lo_place.1 q_lo_place.1 ∈ sm_LT := ⟨(sm_mq5 78 (by decide +kernel) rfl), (sm_mq5 79 (by decide +kernel) rfl)⟩
theorem cw_pl_addDamper : Cond.code q_pl_addDamper.1 q_pl_addDamper.2.1 q_pl_addDamper.2.2.1 q_pl_addDamper.2.2.2 ∈ sm_LT := (sm_mq3 130 rfl rfl)
theorem cy_pl_addDamper : (q_pl_addDamper.1.cls ≠ "java/lang/invoke/MethodHandle" ∧ q_pl_addDamper.1.cls ≠ "java/lang/invoke/VarHandle" ∧ (parseMethodDescriptor q_pl_addDamper.1.desc).map (fun d => d.parameters.length) = some 4) ∧ Nat.ble q_pl_addDamper.2.2.1 45 = true := ⟨⟨by decide +kernel, by decide +kernel, by decide +kernel⟩, rfl⟩
theorem cx_pl_addDamper : Cond.instanceMethod q_pl_addDamper.1 ∈ sm_LT ∧ Cond.selects q_pl_addDamper.1.cls q_pl_addDamper.1 q_pl_addDamper.1 ∈ sm_LT := ⟨(sm_mq3 128 (by decide +kernel) rfl), (sm_mq3 129 (by decide +kernel) rfl)⟩
theorem cw_pl_addDoor : Cond.code q_pl_addDoor.1 q_pl_addDoor.2.1 q_pl_addDoor.2.2.1 q_pl_addDoor.2.2.2 ∈ sm_LT := (sm_mq3 157 rfl rfl)
theorem cy_pl_addDoor : (q_pl_addDoor.1.cls ≠ "java/lang/invoke/MethodHandle" ∧ q_pl_addDoor.1.cls ≠ "java/lang/invoke/VarHandle" ∧ (parseMethodDescriptor q_pl_addDoor.1.desc).map (fun d => d.parameters.length) = some 3) ∧ Nat.ble q_pl_addDoor.2.2.1 45 = true := ⟨⟨by decide +kernel, by decide +kernel, by decide +kernel⟩, rfl⟩
theorem cx_pl_addDoor : Cond.instanceMethod q_pl_addDoor.1 ∈ sm_LT ∧ Cond.selects q_pl_addDoor.1.cls q_pl_addDoor.1 q_pl_addDoor.1 ∈ sm_LT := ⟨(sm_mq3 155 (by decide +kernel) rfl), (sm_mq3 156 (by decide +kernel) rfl)⟩
theorem cw_pl_addFan : Cond.code q_pl_addFan.1 q_pl_addFan.2.1 q_pl_addFan.2.2.1 q_pl_addFan.2.2.2 ∈ sm_LT := (sm_mq3 148 rfl rfl)
theorem cy_pl_addFan : (q_pl_addFan.1.cls ≠ "java/lang/invoke/MethodHandle" ∧ q_pl_addFan.1.cls ≠ "java/lang/invoke/VarHandle" ∧ (parseMethodDescriptor q_pl_addFan.1.desc).map (fun d => d.parameters.length) = some 4) ∧ Nat.ble q_pl_addFan.2.2.1 45 = true := ⟨⟨by decide +kernel, by decide +kernel, by decide +kernel⟩, rfl⟩
theorem cx_pl_addFan : Cond.instanceMethod q_pl_addFan.1 ∈ sm_LT ∧ Cond.selects q_pl_addFan.1.cls q_pl_addFan.1 q_pl_addFan.1 ∈ sm_LT := ⟨(sm_mq3 146 (by decide +kernel) rfl), (sm_mq3 147 (by decide +kernel) rfl)⟩
theorem cw_pl_area : Cond.code q_pl_area.1 q_pl_area.2.1 q_pl_area.2.2.1 q_pl_area.2.2.2 ∈ sm_LT := (sm_mq4 181 rfl rfl)
theorem cy_pl_area : (q_pl_area.1.cls ≠ "java/lang/invoke/MethodHandle" ∧ q_pl_area.1.cls ≠ "java/lang/invoke/VarHandle" ∧ (parseMethodDescriptor q_pl_area.1.desc).map (fun d => d.parameters.length) = some 1) ∧ Nat.ble q_pl_area.2.2.1 45 = true := ⟨⟨by decide +kernel, by decide +kernel, by decide +kernel⟩, rfl⟩
theorem cx_pl_area : Cond.instanceMethod q_pl_area.1 ∈ sm_LT ∧ Cond.selects q_pl_area.1.cls q_pl_area.1 q_pl_area.1 ∈ sm_LT := ⟨(sm_mq4 179 (by decide +kernel) rfl), (sm_mq4 180 (by decide +kernel) rfl)⟩
theorem cw_pl_begin : Cond.code q_pl_begin.1 q_pl_begin.2.1 q_pl_begin.2.2.1 q_pl_begin.2.2.2 ∈ sm_LT := (sm_mq1 82 rfl rfl)
theorem cy_pl_begin : (q_pl_begin.1.cls ≠ "java/lang/invoke/MethodHandle" ∧ q_pl_begin.1.cls ≠ "java/lang/invoke/VarHandle" ∧ (parseMethodDescriptor q_pl_begin.1.desc).map (fun d => d.parameters.length) = some 0) ∧ Nat.ble q_pl_begin.2.2.1 45 = true := ⟨⟨by decide +kernel, by decide +kernel, by decide +kernel⟩, rfl⟩
theorem cx_pl_begin : Cond.instanceMethod q_pl_begin.1 ∈ sm_LT ∧ Cond.selects q_pl_begin.1.cls q_pl_begin.1 q_pl_begin.1 ∈ sm_LT := ⟨(sm_mq1 80 (by decide +kernel) rfl), (sm_mq1 81 (by decide +kernel) rfl)⟩
theorem cw_pl_fullPressure : Cond.code q_pl_fullPressure.1 q_pl_fullPressure.2.1 q_pl_fullPressure.2.2.1 q_pl_fullPressure.2.2.2 ∈ sm_LT := (sm_mq5 156 rfl rfl)
theorem cy_pl_fullPressure : (q_pl_fullPressure.1.cls ≠ "java/lang/invoke/MethodHandle" ∧ q_pl_fullPressure.1.cls ≠ "java/lang/invoke/VarHandle" ∧ (parseMethodDescriptor q_pl_fullPressure.1.desc).map (fun d => d.parameters.length) = some 1) ∧ Nat.ble q_pl_fullPressure.2.2.1 45 = true := ⟨⟨by decide +kernel, by decide +kernel, by decide +kernel⟩, rfl⟩
theorem cx_pl_fullPressure : Cond.instanceMethod q_pl_fullPressure.1 ∈ sm_LT ∧ Cond.selects q_pl_fullPressure.1.cls q_pl_fullPressure.1 q_pl_fullPressure.1 ∈ sm_LT := ⟨(sm_mq5 154 (by decide +kernel) rfl), (sm_mq5 155 (by decide +kernel) rfl)⟩
theorem cw_pl_isStairFan : Cond.code q_pl_isStairFan.1 q_pl_isStairFan.2.1 q_pl_isStairFan.2.2.1 q_pl_isStairFan.2.2.2 ∈ sm_LT := (sm_mq4 157 rfl rfl)
theorem cy_pl_isStairFan : (q_pl_isStairFan.1.cls ≠ "java/lang/invoke/MethodHandle" ∧ q_pl_isStairFan.1.cls ≠ "java/lang/invoke/VarHandle" ∧ (parseMethodDescriptor q_pl_isStairFan.1.desc).map (fun d => d.parameters.length) = some 1) ∧ Nat.ble q_pl_isStairFan.2.2.1 45 = true := ⟨⟨by decide +kernel, by decide +kernel, by decide +kernel⟩, rfl⟩
theorem cx_pl_isStairFan : Cond.instanceMethod q_pl_isStairFan.1 ∈ sm_LT ∧ Cond.selects q_pl_isStairFan.1.cls q_pl_isStairFan.1 q_pl_isStairFan.1 ∈ sm_LT := ⟨(sm_mq4 155 (by decide +kernel) rfl), (sm_mq4 156 (by decide +kernel) rfl)⟩
theorem cw_pl_narrowestDoor : Cond.code q_pl_narrowestDoor.1 q_pl_narrowestDoor.2.1 q_pl_narrowestDoor.2.2.1 q_pl_narrowestDoor.2.2.2 ∈ sm_LT := (sm_mq5 166 rfl rfl)
theorem cy_pl_narrowestDoor : (q_pl_narrowestDoor.1.cls ≠ "java/lang/invoke/MethodHandle" ∧ q_pl_narrowestDoor.1.cls ≠ "java/lang/invoke/VarHandle" ∧ (parseMethodDescriptor q_pl_narrowestDoor.1.desc).map (fun d => d.parameters.length) = some 1) ∧ Nat.ble q_pl_narrowestDoor.2.2.1 45 = true := ⟨⟨by decide +kernel, by decide +kernel, by decide +kernel⟩, rfl⟩
theorem cx_pl_narrowestDoor : Cond.instanceMethod q_pl_narrowestDoor.1 ∈ sm_LT ∧ Cond.selects q_pl_narrowestDoor.1.cls q_pl_narrowestDoor.1 q_pl_narrowestDoor.1 ∈ sm_LT := ⟨(sm_mq5 164 (by decide +kernel) rfl), (sm_mq5 165 (by decide +kernel) rfl)⟩
theorem cw_pl_pressureOf : Cond.code q_pl_pressureOf.1 q_pl_pressureOf.2.1 q_pl_pressureOf.2.2.1 q_pl_pressureOf.2.2.2 ∈ sm_LT := (sm_mq4 177 rfl rfl)
theorem cy_pl_pressureOf : (q_pl_pressureOf.1.cls ≠ "java/lang/invoke/MethodHandle" ∧ q_pl_pressureOf.1.cls ≠ "java/lang/invoke/VarHandle" ∧ (parseMethodDescriptor q_pl_pressureOf.1.desc).map (fun d => d.parameters.length) = some 2) ∧ Nat.ble q_pl_pressureOf.2.2.1 45 = true := ⟨⟨by decide +kernel, by decide +kernel, by decide +kernel⟩, rfl⟩
theorem cx_pl_pressureOf : Cond.instanceMethod q_pl_pressureOf.1 ∈ sm_LT ∧ Cond.selects q_pl_pressureOf.1.cls q_pl_pressureOf.1 q_pl_pressureOf.1 ∈ sm_LT := ⟨(sm_mq4 175 (by decide +kernel) rfl), (sm_mq4 176 (by decide +kernel) rfl)⟩
theorem cw_re_action : Cond.code q_re_action.1 q_re_action.2.1 q_re_action.2.2.1 q_re_action.2.2.2 ∈ sm_LT := (sm_mq3 210 rfl rfl)
theorem cy_re_action : (q_re_action.1.cls ≠ "java/lang/invoke/MethodHandle" ∧ q_re_action.1.cls ≠ "java/lang/invoke/VarHandle" ∧ (parseMethodDescriptor q_re_action.1.desc).map (fun d => d.parameters.length) = some 1) ∧ Nat.ble q_re_action.2.2.1 45 = true := ⟨⟨by decide +kernel, by decide +kernel, by decide +kernel⟩, rfl⟩
theorem cx_re_action : Cond.instanceMethod q_re_action.1 ∈ sm_LT ∧ Cond.selects q_re_action.1.cls q_re_action.1 q_re_action.1 ∈ sm_LT := ⟨(sm_mq3 209 (by decide +kernel) rfl), (sm_ms2 (q := (q_re_action.1, 6)) 2 (by decide +kernel))⟩
theorem cw_re_airKind : Cond.code q_re_airKind.1 q_re_airKind.2.1 q_re_airKind.2.2.1 q_re_airKind.2.2.2 ∈ sm_LT := (sm_mq3 123 rfl rfl)
theorem cy_re_airKind : (q_re_airKind.1.cls ≠ "java/lang/invoke/MethodHandle" ∧ q_re_airKind.1.cls ≠ "java/lang/invoke/VarHandle" ∧ (parseMethodDescriptor q_re_airKind.1.desc).map (fun d => d.parameters.length) = some 0) ∧ Nat.ble q_re_airKind.2.2.1 45 = true := ⟨⟨by decide +kernel, by decide +kernel, by decide +kernel⟩, rfl⟩
theorem cx_re_airKind : Cond.instanceMethod q_re_airKind.1 ∈ sm_LT ∧ Cond.selects q_re_airKind.1.cls q_re_airKind.1 q_re_airKind.1 ∈ sm_LT := ⟨(sm_mq3 122 (by decide +kernel) rfl), (sm_ms1 (q := (q_re_airKind.1, 6)) 7 (by decide +kernel))⟩
theorem cw_re_begin : Cond.code q_re_begin.1 q_re_begin.2.1 q_re_begin.2.2.1 q_re_begin.2.2.2 ∈ sm_LT := (sm_mq3 10 rfl rfl)
theorem cy_re_begin : (q_re_begin.1.cls ≠ "java/lang/invoke/MethodHandle" ∧ q_re_begin.1.cls ≠ "java/lang/invoke/VarHandle" ∧ (parseMethodDescriptor q_re_begin.1.desc).map (fun d => d.parameters.length) = some 1) ∧ Nat.ble q_re_begin.2.2.1 45 = true := ⟨⟨by decide +kernel, by decide +kernel, by decide +kernel⟩, rfl⟩
theorem cx_re_begin : Cond.instanceMethod q_re_begin.1 ∈ sm_LT ∧ Cond.selects q_re_begin.1.cls q_re_begin.1 q_re_begin.1 ∈ sm_LT := ⟨(sm_mq3 8 (by decide +kernel) rfl), (sm_mq3 9 (by decide +kernel) rfl)⟩
theorem cw_re_condition : Cond.code q_re_condition.1 q_re_condition.2.1 q_re_condition.2.2.1 q_re_condition.2.2.2 ∈ sm_LT := (sm_mq3 168 rfl rfl)
theorem cy_re_condition : (q_re_condition.1.cls ≠ "java/lang/invoke/MethodHandle" ∧ q_re_condition.1.cls ≠ "java/lang/invoke/VarHandle" ∧ (parseMethodDescriptor q_re_condition.1.desc).map (fun d => d.parameters.length) = some 1) ∧ Nat.ble q_re_condition.2.2.1 45 = true := ⟨⟨by decide +kernel, by decide +kernel, by decide +kernel⟩, rfl⟩
theorem cx_re_condition : Cond.instanceMethod q_re_condition.1 ∈ sm_LT ∧ Cond.selects q_re_condition.1.cls q_re_condition.1 q_re_condition.1 ∈ sm_LT := ⟨(sm_mq3 167 (by decide +kernel) rfl), (sm_ms1 (q := (q_re_condition.1, 6)) 12 (by decide +kernel))⟩
theorem cw_re_damperItem : Cond.code q_re_damperItem.1 q_re_damperItem.2.1 q_re_damperItem.2.2.1 q_re_damperItem.2.2.2 ∈ sm_LT := (sm_mq3 119 rfl rfl)
theorem cy_re_damperItem : (q_re_damperItem.1.cls ≠ "java/lang/invoke/MethodHandle" ∧ q_re_damperItem.1.cls ≠ "java/lang/invoke/VarHandle" ∧ (parseMethodDescriptor q_re_damperItem.1.desc).map (fun d => d.parameters.length) = some 0) ∧ Nat.ble q_re_damperItem.2.2.1 45 = true := ⟨⟨by decide +kernel, by decide +kernel, by decide +kernel⟩, rfl⟩
theorem cx_re_damperItem : Cond.instanceMethod q_re_damperItem.1 ∈ sm_LT ∧ Cond.selects q_re_damperItem.1.cls q_re_damperItem.1 q_re_damperItem.1 ∈ sm_LT := ⟨(sm_mq3 118 (by decide +kernel) rfl), (sm_ms1 (q := (q_re_damperItem.1, 6)) 6 (by decide +kernel))⟩
theorem cw_re_doorItem : Cond.code q_re_doorItem.1 q_re_doorItem.2.1 q_re_doorItem.2.2.1 q_re_doorItem.2.2.2 ∈ sm_LT := (sm_mq3 153 rfl rfl)
theorem cy_re_doorItem : (q_re_doorItem.1.cls ≠ "java/lang/invoke/MethodHandle" ∧ q_re_doorItem.1.cls ≠ "java/lang/invoke/VarHandle" ∧ (parseMethodDescriptor q_re_doorItem.1.desc).map (fun d => d.parameters.length) = some 0) ∧ Nat.ble q_re_doorItem.2.2.1 45 = true := ⟨⟨by decide +kernel, by decide +kernel, by decide +kernel⟩, rfl⟩
theorem cx_re_doorItem : Cond.instanceMethod q_re_doorItem.1 ∈ sm_LT ∧ Cond.selects q_re_doorItem.1.cls q_re_doorItem.1 q_re_doorItem.1 ∈ sm_LT := ⟨(sm_mq3 152 (by decide +kernel) rfl), (sm_ms1 (q := (q_re_doorItem.1, 6)) 10 (by decide +kernel))⟩
theorem cw_re_expectsItem : Cond.code q_re_expectsItem.1 q_re_expectsItem.2.1 q_re_expectsItem.2.2.1 q_re_expectsItem.2.2.2 ∈ sm_LT := (sm_mq3 33 rfl rfl)
theorem cy_re_expectsItem : (q_re_expectsItem.1.cls ≠ "java/lang/invoke/MethodHandle" ∧ q_re_expectsItem.1.cls ≠ "java/lang/invoke/VarHandle" ∧ (parseMethodDescriptor q_re_expectsItem.1.desc).map (fun d => d.parameters.length) = some 0) ∧ Nat.ble q_re_expectsItem.2.2.1 45 = true := ⟨⟨by decide +kernel, by decide +kernel, by decide +kernel⟩, rfl⟩
theorem cx_re_expectsItem : Cond.instanceMethod q_re_expectsItem.1 ∈ sm_LT ∧ Cond.selects q_re_expectsItem.1.cls q_re_expectsItem.1 q_re_expectsItem.1 ∈ sm_LT := ⟨(sm_mq3 31 (by decide +kernel) rfl), (sm_mq3 32 (by decide +kernel) rfl)⟩
theorem cw_re_fail : Cond.code q_re_fail.1 q_re_fail.2.1 q_re_fail.2.2.1 q_re_fail.2.2.2 ∈ sm_LT := (sm_mq3 106 rfl rfl)
theorem cy_re_fail : (q_re_fail.1.cls ≠ "java/lang/invoke/MethodHandle" ∧ q_re_fail.1.cls ≠ "java/lang/invoke/VarHandle" ∧ (parseMethodDescriptor q_re_fail.1.desc).map (fun d => d.parameters.length) = some 1) ∧ Nat.ble q_re_fail.2.2.1 45 = true := ⟨⟨by decide +kernel, by decide +kernel, by decide +kernel⟩, rfl⟩
theorem cx_re_fail : Cond.instanceMethod q_re_fail.1 ∈ sm_LT ∧ Cond.selects q_re_fail.1.cls q_re_fail.1 q_re_fail.1 ∈ sm_LT := ⟨(sm_mq3 105 (by decide +kernel) rfl), (sm_ms1 (q := (q_re_fail.1, 6)) 4 (by decide +kernel))⟩
theorem cw_re_fanItem : Cond.code q_re_fanItem.1 q_re_fanItem.2.1 q_re_fanItem.2.2.1 q_re_fanItem.2.2.2 ∈ sm_LT := (sm_mq3 138 rfl rfl)
theorem cy_re_fanItem : (q_re_fanItem.1.cls ≠ "java/lang/invoke/MethodHandle" ∧ q_re_fanItem.1.cls ≠ "java/lang/invoke/VarHandle" ∧ (parseMethodDescriptor q_re_fanItem.1.desc).map (fun d => d.parameters.length) = some 0) ∧ Nat.ble q_re_fanItem.2.2.1 45 = true := ⟨⟨by decide +kernel, by decide +kernel, by decide +kernel⟩, rfl⟩
theorem cx_re_fanItem : Cond.instanceMethod q_re_fanItem.1 ∈ sm_LT ∧ Cond.selects q_re_fanItem.1.cls q_re_fanItem.1 q_re_fanItem.1 ∈ sm_LT := ⟨(sm_mq3 137 (by decide +kernel) rfl), (sm_ms1 (q := (q_re_fanItem.1, 6)) 8 (by decide +kernel))⟩
theorem cw_re_item : Cond.code q_re_item.1 q_re_item.2.1 q_re_item.2.2.1 q_re_item.2.2.2 ∈ sm_LT := (sm_mq3 37 rfl rfl)
theorem cy_re_item : (q_re_item.1.cls ≠ "java/lang/invoke/MethodHandle" ∧ q_re_item.1.cls ≠ "java/lang/invoke/VarHandle" ∧ (parseMethodDescriptor q_re_item.1.desc).map (fun d => d.parameters.length) = some 1) ∧ Nat.ble q_re_item.2.2.1 45 = true := ⟨⟨by decide +kernel, by decide +kernel, by decide +kernel⟩, rfl⟩
theorem cx_re_item : Cond.instanceMethod q_re_item.1 ∈ sm_LT ∧ Cond.selects q_re_item.1.cls q_re_item.1 q_re_item.1 ∈ sm_LT := ⟨(sm_mq3 35 (by decide +kernel) rfl), (sm_mq3 36 (by decide +kernel) rfl)⟩
theorem cw_re_lastFor : Cond.code q_re_lastFor.1 q_re_lastFor.2.1 q_re_lastFor.2.2.1 q_re_lastFor.2.2.2 ∈ sm_LT := (sm_mq3 203 rfl rfl)
theorem cy_re_lastFor : (q_re_lastFor.1.cls ≠ "java/lang/invoke/MethodHandle" ∧ q_re_lastFor.1.cls ≠ "java/lang/invoke/VarHandle" ∧ (parseMethodDescriptor q_re_lastFor.1.desc).map (fun d => d.parameters.length) = some 1) ∧ Nat.ble q_re_lastFor.2.2.1 45 = true := ⟨⟨by decide +kernel, by decide +kernel, by decide +kernel⟩, rfl⟩
theorem cx_re_lastFor : Cond.instanceMethod q_re_lastFor.1 ∈ sm_LT ∧ Cond.selects q_re_lastFor.1.cls q_re_lastFor.1 q_re_lastFor.1 ∈ sm_LT := ⟨(sm_mq3 202 (by decide +kernel) rfl), (sm_ms2 (q := (q_re_lastFor.1, 6)) 1 (by decide +kernel))⟩
theorem cw_re_listedDamper : Cond.code q_re_listedDamper.1 q_re_listedDamper.2.1 q_re_listedDamper.2.2.1 q_re_listedDamper.2.2.2 ∈ sm_LT := (sm_mq3 143 rfl rfl)
theorem cy_re_listedDamper : (q_re_listedDamper.1.cls ≠ "java/lang/invoke/MethodHandle" ∧ q_re_listedDamper.1.cls ≠ "java/lang/invoke/VarHandle" ∧ (parseMethodDescriptor q_re_listedDamper.1.desc).map (fun d => d.parameters.length) = some 2) ∧ Nat.ble q_re_listedDamper.2.2.1 45 = true := ⟨⟨by decide +kernel, by decide +kernel, by decide +kernel⟩, rfl⟩
theorem cx_re_listedDamper : Cond.instanceMethod q_re_listedDamper.1 ∈ sm_LT ∧ Cond.selects q_re_listedDamper.1.cls q_re_listedDamper.1 q_re_listedDamper.1 ∈ sm_LT := ⟨(sm_mq3 142 (by decide +kernel) rfl), (sm_ms1 (q := (q_re_listedDamper.1, 6)) 9 (by decide +kernel))⟩
theorem cw_re_needNumber : Cond.code q_re_needNumber.1 q_re_needNumber.2.1 q_re_needNumber.2.2.1 q_re_needNumber.2.2.2 ∈ sm_LT := (sm_mq3 102 rfl rfl)
theorem cy_re_needNumber : (q_re_needNumber.1.cls ≠ "java/lang/invoke/MethodHandle" ∧ q_re_needNumber.1.cls ≠ "java/lang/invoke/VarHandle" ∧ (parseMethodDescriptor q_re_needNumber.1.desc).map (fun d => d.parameters.length) = some 2) ∧ Nat.ble q_re_needNumber.2.2.1 45 = true := ⟨⟨by decide +kernel, by decide +kernel, by decide +kernel⟩, rfl⟩
theorem cx_re_needNumber : Cond.instanceMethod q_re_needNumber.1 ∈ sm_LT ∧ Cond.selects q_re_needNumber.1.cls q_re_needNumber.1 q_re_needNumber.1 ∈ sm_LT := ⟨(sm_mq3 101 (by decide +kernel) rfl), (sm_ms1 (q := (q_re_needNumber.1, 6)) 3 (by decide +kernel))⟩
theorem cw_re_needSign : Cond.code q_re_needSign.1 q_re_needSign.2.1 q_re_needSign.2.2.1 q_re_needSign.2.2.2 ∈ sm_LT := (sm_mq3 199 rfl rfl)
theorem cy_re_needSign : (q_re_needSign.1.cls ≠ "java/lang/invoke/MethodHandle" ∧ q_re_needSign.1.cls ≠ "java/lang/invoke/VarHandle" ∧ (parseMethodDescriptor q_re_needSign.1.desc).map (fun d => d.parameters.length) = some 1) ∧ Nat.ble q_re_needSign.2.2.1 45 = true := ⟨⟨by decide +kernel, by decide +kernel, by decide +kernel⟩, rfl⟩
theorem cx_re_needSign : Cond.instanceMethod q_re_needSign.1 ∈ sm_LT ∧ Cond.selects q_re_needSign.1.cls q_re_needSign.1 q_re_needSign.1 ∈ sm_LT := ⟨(sm_mq3 198 (by decide +kernel) rfl), (sm_ms2 (q := (q_re_needSign.1, 6)) 0 (by decide +kernel))⟩
theorem cw_re_objectsOf : Cond.code q_re_objectsOf.1 q_re_objectsOf.2.1 q_re_objectsOf.2.2.1 q_re_objectsOf.2.2.2 ∈ sm_LT := (sm_mq3 225 rfl rfl)
theorem cy_re_objectsOf : (q_re_objectsOf.1.cls ≠ "java/lang/invoke/MethodHandle" ∧ q_re_objectsOf.1.cls ≠ "java/lang/invoke/VarHandle" ∧ (parseMethodDescriptor q_re_objectsOf.1.desc).map (fun d => d.parameters.length) = some 1) ∧ Nat.ble q_re_objectsOf.2.2.1 45 = true := ⟨⟨by decide +kernel, by decide +kernel, by decide +kernel⟩, rfl⟩
theorem cx_re_objectsOf : Cond.instanceMethod q_re_objectsOf.1 ∈ sm_LT ∧ Cond.selects q_re_objectsOf.1.cls q_re_objectsOf.1 q_re_objectsOf.1 ∈ sm_LT := ⟨(sm_mq3 224 (by decide +kernel) rfl), (sm_ms2 (q := (q_re_objectsOf.1, 6)) 4 (by decide +kernel))⟩
theorem cw_re_ruleItem : Cond.code q_re_ruleItem.1 q_re_ruleItem.2.1 q_re_ruleItem.2.2.1 q_re_ruleItem.2.2.2 ∈ sm_LT := (sm_mq3 164 rfl rfl)
theorem cy_re_ruleItem : (q_re_ruleItem.1.cls ≠ "java/lang/invoke/MethodHandle" ∧ q_re_ruleItem.1.cls ≠ "java/lang/invoke/VarHandle" ∧ (parseMethodDescriptor q_re_ruleItem.1.desc).map (fun d => d.parameters.length) = some 0) ∧ Nat.ble q_re_ruleItem.2.2.1 45 = true := ⟨⟨by decide +kernel, by decide +kernel, by decide +kernel⟩, rfl⟩
theorem cx_re_ruleItem : Cond.instanceMethod q_re_ruleItem.1 ∈ sm_LT ∧ Cond.selects q_re_ruleItem.1.cls q_re_ruleItem.1 q_re_ruleItem.1 ∈ sm_LT := ⟨(sm_mq3 163 (by decide +kernel) rfl), (sm_ms1 (q := (q_re_ruleItem.1, 6)) 11 (by decide +kernel))⟩
theorem cw_re_takeItem : Cond.code q_re_takeItem.1 q_re_takeItem.2.1 q_re_takeItem.2.2.1 q_re_takeItem.2.2.2 ∈ sm_LT := (sm_mq3 115 rfl rfl)
theorem cy_re_takeItem : (q_re_takeItem.1.cls ≠ "java/lang/invoke/MethodHandle" ∧ q_re_takeItem.1.cls ≠ "java/lang/invoke/VarHandle" ∧ (parseMethodDescriptor q_re_takeItem.1.desc).map (fun d => d.parameters.length) = some 3) ∧ Nat.ble q_re_takeItem.2.2.1 45 = true := ⟨⟨by decide +kernel, by decide +kernel, by decide +kernel⟩, rfl⟩
theorem cx_re_takeItem : Cond.instanceMethod q_re_takeItem.1 ∈ sm_LT ∧ Cond.selects q_re_takeItem.1.cls q_re_takeItem.1 q_re_takeItem.1 ∈ sm_LT := ⟨(sm_mq3 114 (by decide +kernel) rfl), (sm_ms1 (q := (q_re_takeItem.1, 6)) 5 (by decide +kernel))⟩
theorem cw_re_takeSign : Cond.code q_re_takeSign.1 q_re_takeSign.2.1 q_re_takeSign.2.2.1 q_re_takeSign.2.2.2 ∈ sm_LT := (sm_mq3 195 rfl rfl)
theorem cy_re_takeSign : (q_re_takeSign.1.cls ≠ "java/lang/invoke/MethodHandle" ∧ q_re_takeSign.1.cls ≠ "java/lang/invoke/VarHandle" ∧ (parseMethodDescriptor q_re_takeSign.1.desc).map (fun d => d.parameters.length) = some 1) ∧ Nat.ble q_re_takeSign.2.2.1 45 = true := ⟨⟨by decide +kernel, by decide +kernel, by decide +kernel⟩, rfl⟩
theorem cx_re_takeSign : Cond.instanceMethod q_re_takeSign.1 ∈ sm_LT ∧ Cond.selects q_re_takeSign.1.cls q_re_takeSign.1 q_re_takeSign.1 ∈ sm_LT := ⟨(sm_mq3 194 (by decide +kernel) rfl), (sm_ms1 (q := (q_re_takeSign.1, 6)) 15 (by decide +kernel))⟩
theorem cw_re_takeWord : Cond.code q_re_takeWord.1 q_re_takeWord.2.1 q_re_takeWord.2.2.1 q_re_takeWord.2.2.2 ∈ sm_LT := (sm_mq3 42 rfl rfl)
theorem cy_re_takeWord : (q_re_takeWord.1.cls ≠ "java/lang/invoke/MethodHandle" ∧ q_re_takeWord.1.cls ≠ "java/lang/invoke/VarHandle" ∧ (parseMethodDescriptor q_re_takeWord.1.desc).map (fun d => d.parameters.length) = some 1) ∧ Nat.ble q_re_takeWord.2.2.1 45 = true := ⟨⟨by decide +kernel, by decide +kernel, by decide +kernel⟩, rfl⟩
theorem cx_re_takeWord : Cond.instanceMethod q_re_takeWord.1 ∈ sm_LT ∧ Cond.selects q_re_takeWord.1.cls q_re_takeWord.1 q_re_takeWord.1 ∈ sm_LT := ⟨(sm_mq3 41 (by decide +kernel) rfl), (sm_ms1 (q := (q_re_takeWord.1, 6)) 2 (by decide +kernel))⟩
theorem cw_re_test : Cond.code q_re_test.1 q_re_test.2.1 q_re_test.2.2.1 q_re_test.2.2.2 ∈ sm_LT := (sm_mq3 172 rfl rfl)
theorem cy_re_test : (q_re_test.1.cls ≠ "java/lang/invoke/MethodHandle" ∧ q_re_test.1.cls ≠ "java/lang/invoke/VarHandle" ∧ (parseMethodDescriptor q_re_test.1.desc).map (fun d => d.parameters.length) = some 1) ∧ Nat.ble q_re_test.2.2.1 45 = true := ⟨⟨by decide +kernel, by decide +kernel, by decide +kernel⟩, rfl⟩
theorem cx_re_test : Cond.instanceMethod q_re_test.1 ∈ sm_LT ∧ Cond.selects q_re_test.1.cls q_re_test.1 q_re_test.1 ∈ sm_LT := ⟨(sm_mq3 171 (by decide +kernel) rfl), (sm_ms1 (q := (q_re_test.1, 6)) 13 (by decide +kernel))⟩
theorem cw_re_testHere : Cond.code q_re_testHere.1 q_re_testHere.2.1 q_re_testHere.2.2.1 q_re_testHere.2.2.2 ∈ sm_LT := (sm_mq3 181 rfl rfl)
theorem cy_re_testHere : (q_re_testHere.1.cls ≠ "java/lang/invoke/MethodHandle" ∧ q_re_testHere.1.cls ≠ "java/lang/invoke/VarHandle" ∧ (parseMethodDescriptor q_re_testHere.1.desc).map (fun d => d.parameters.length) = some 0) ∧ Nat.ble q_re_testHere.2.2.1 45 = true := ⟨⟨by decide +kernel, by decide +kernel, by decide +kernel⟩, rfl⟩
theorem cx_re_testHere : Cond.instanceMethod q_re_testHere.1 ∈ sm_LT ∧ Cond.selects q_re_testHere.1.cls q_re_testHere.1 q_re_testHere.1 ∈ sm_LT := ⟨(sm_mq3 180 (by decide +kernel) rfl), (sm_ms1 (q := (q_re_testHere.1, 6)) 14 (by decide +kernel))⟩
theorem cw_re_verbHere : Cond.code q_re_verbHere.1 q_re_verbHere.2.1 q_re_verbHere.2.2.1 q_re_verbHere.2.2.2 ∈ sm_LT := (sm_mq3 214 rfl rfl)
theorem cy_re_verbHere : (q_re_verbHere.1.cls ≠ "java/lang/invoke/MethodHandle" ∧ q_re_verbHere.1.cls ≠ "java/lang/invoke/VarHandle" ∧ (parseMethodDescriptor q_re_verbHere.1.desc).map (fun d => d.parameters.length) = some 0) ∧ Nat.ble q_re_verbHere.2.2.1 45 = true := ⟨⟨by decide +kernel, by decide +kernel, by decide +kernel⟩, rfl⟩
theorem cx_re_verbHere : Cond.instanceMethod q_re_verbHere.1 ∈ sm_LT ∧ Cond.selects q_re_verbHere.1.cls q_re_verbHere.1 q_re_verbHere.1 ∈ sm_LT := ⟨(sm_mq3 213 (by decide +kernel) rfl), (sm_ms2 (q := (q_re_verbHere.1, 6)) 3 (by decide +kernel))⟩
theorem cw_ru_actionStart : Cond.code q_ru_actionStart.1 q_ru_actionStart.2.1 q_ru_actionStart.2.2.1 q_ru_actionStart.2.2.2 ∈ sm_LT := (sm_mq4 110 rfl rfl)
theorem cy_ru_actionStart : (q_ru_actionStart.1.cls ≠ "java/lang/invoke/MethodHandle" ∧ q_ru_actionStart.1.cls ≠ "java/lang/invoke/VarHandle" ∧ (parseMethodDescriptor q_ru_actionStart.1.desc).map (fun d => d.parameters.length) = some 1) ∧ Nat.ble q_ru_actionStart.2.2.1 45 = true := ⟨⟨by decide +kernel, by decide +kernel, by decide +kernel⟩, rfl⟩
theorem cx_ru_actionStart : Cond.instanceMethod q_ru_actionStart.1 ∈ sm_LT ∧ Cond.selects q_ru_actionStart.1.cls q_ru_actionStart.1 q_ru_actionStart.1 ∈ sm_LT := ⟨(sm_mq4 108 (by decide +kernel) rfl), (sm_mq4 109 (by decide +kernel) rfl)⟩
theorem cw_ru_addAction : Cond.code q_ru_addAction.1 q_ru_addAction.2.1 q_ru_addAction.2.2.1 q_ru_addAction.2.2.2 ∈ sm_LT := (sm_mq3 229 rfl rfl)
theorem cy_ru_addAction : (q_ru_addAction.1.cls ≠ "java/lang/invoke/MethodHandle" ∧ q_ru_addAction.1.cls ≠ "java/lang/invoke/VarHandle" ∧ (parseMethodDescriptor q_ru_addAction.1.desc).map (fun d => d.parameters.length) = some 2) ∧ Nat.ble q_ru_addAction.2.2.1 45 = true := ⟨⟨by decide +kernel, by decide +kernel, by decide +kernel⟩, rfl⟩
theorem cx_ru_addAction : Cond.instanceMethod q_ru_addAction.1 ∈ sm_LT ∧ Cond.selects q_ru_addAction.1.cls q_ru_addAction.1 q_ru_addAction.1 ∈ sm_LT := ⟨(sm_mq3 227 (by decide +kernel) rfl), (sm_mq3 228 (by decide +kernel) rfl)⟩
theorem cw_ru_addCode : Cond.code q_ru_addCode.1 q_ru_addCode.2.1 q_ru_addCode.2.2.1 q_ru_addCode.2.2.2 ∈ sm_LT := (sm_mq3 191 rfl rfl)
theorem cy_ru_addCode : (q_ru_addCode.1.cls ≠ "java/lang/invoke/MethodHandle" ∧ q_ru_addCode.1.cls ≠ "java/lang/invoke/VarHandle" ∧ (parseMethodDescriptor q_ru_addCode.1.desc).map (fun d => d.parameters.length) = some 2) ∧ Nat.ble q_ru_addCode.2.2.1 45 = true := ⟨⟨by decide +kernel, by decide +kernel, by decide +kernel⟩, rfl⟩
theorem cx_ru_addCode : Cond.instanceMethod q_ru_addCode.1 ∈ sm_LT ∧ Cond.selects q_ru_addCode.1.cls q_ru_addCode.1 q_ru_addCode.1 ∈ sm_LT := ⟨(sm_mq3 189 (by decide +kernel) rfl), (sm_mq3 190 (by decide +kernel) rfl)⟩
theorem cw_ru_begin : Cond.code q_ru_begin.1 q_ru_begin.2.1 q_ru_begin.2.2.1 q_ru_begin.2.2.2 ∈ sm_LT := (sm_mq1 86 rfl rfl)
theorem cy_ru_begin : (q_ru_begin.1.cls ≠ "java/lang/invoke/MethodHandle" ∧ q_ru_begin.1.cls ≠ "java/lang/invoke/VarHandle" ∧ (parseMethodDescriptor q_ru_begin.1.desc).map (fun d => d.parameters.length) = some 0) ∧ Nat.ble q_ru_begin.2.2.1 45 = true := ⟨⟨by decide +kernel, by decide +kernel, by decide +kernel⟩, rfl⟩
theorem cx_ru_begin : Cond.instanceMethod q_ru_begin.1 ∈ sm_LT ∧ Cond.selects q_ru_begin.1.cls q_ru_begin.1 q_ru_begin.1 ∈ sm_LT := ⟨(sm_mq1 84 (by decide +kernel) rfl), (sm_mq1 85 (by decide +kernel) rfl)⟩
theorem cw_ru_codeStart : Cond.code q_ru_codeStart.1 q_ru_codeStart.2.1 q_ru_codeStart.2.2.1 q_ru_codeStart.2.2.2 ∈ sm_LT := (sm_mq4 101 rfl rfl)
theorem cy_ru_codeStart : (q_ru_codeStart.1.cls ≠ "java/lang/invoke/MethodHandle" ∧ q_ru_codeStart.1.cls ≠ "java/lang/invoke/VarHandle" ∧ (parseMethodDescriptor q_ru_codeStart.1.desc).map (fun d => d.parameters.length) = some 1) ∧ Nat.ble q_ru_codeStart.2.2.1 45 = true := ⟨⟨by decide +kernel, by decide +kernel, by decide +kernel⟩, rfl⟩
theorem cx_ru_codeStart : Cond.instanceMethod q_ru_codeStart.1 ∈ sm_LT ∧ Cond.selects q_ru_codeStart.1.cls q_ru_codeStart.1 q_ru_codeStart.1 ∈ sm_LT := ⟨(sm_mq4 99 (by decide +kernel) rfl), (sm_mq4 100 (by decide +kernel) rfl)⟩
theorem cw_ru_endRule : Cond.code q_ru_endRule.1 q_ru_endRule.2.1 q_ru_endRule.2.2.1 q_ru_endRule.2.2.2 ∈ sm_LT := (sm_mq3 233 rfl rfl)
theorem cy_ru_endRule : (q_ru_endRule.1.cls ≠ "java/lang/invoke/MethodHandle" ∧ q_ru_endRule.1.cls ≠ "java/lang/invoke/VarHandle" ∧ (parseMethodDescriptor q_ru_endRule.1.desc).map (fun d => d.parameters.length) = some 0) ∧ Nat.ble q_ru_endRule.2.2.1 45 = true := ⟨⟨by decide +kernel, by decide +kernel, by decide +kernel⟩, rfl⟩
theorem cx_ru_endRule : Cond.instanceMethod q_ru_endRule.1 ∈ sm_LT ∧ Cond.selects q_ru_endRule.1.cls q_ru_endRule.1 q_ru_endRule.1 ∈ sm_LT := ⟨(sm_mq3 231 (by decide +kernel) rfl), (sm_mq3 232 (by decide +kernel) rfl)⟩
theorem cw_st_begin : Cond.code q_st_begin.1 q_st_begin.2.1 q_st_begin.2.2.1 q_st_begin.2.2.2 ∈ sm_LT := (sm_mq2 65 rfl rfl)
theorem cy_st_begin : (q_st_begin.1.cls ≠ "java/lang/invoke/MethodHandle" ∧ q_st_begin.1.cls ≠ "java/lang/invoke/VarHandle" ∧ (parseMethodDescriptor q_st_begin.1.desc).map (fun d => d.parameters.length) = some 1) ∧ Nat.ble q_st_begin.2.2.1 45 = true := ⟨⟨by decide +kernel, by decide +kernel, by decide +kernel⟩, rfl⟩
theorem cx_st_begin : Cond.instanceMethod q_st_begin.1 ∈ sm_LT ∧ Cond.selects q_st_begin.1.cls q_st_begin.1 q_st_begin.1 ∈ sm_LT := ⟨(sm_mq2 63 (by decide +kernel) rfl), (sm_mq2 64 (by decide +kernel) rfl)⟩
theorem cw_st_copyFrom : Cond.code q_st_copyFrom.1 q_st_copyFrom.2.1 q_st_copyFrom.2.2.1 q_st_copyFrom.2.2.2 ∈ sm_LT := (sm_mq5 95 rfl rfl)
theorem cy_st_copyFrom : (q_st_copyFrom.1.cls ≠ "java/lang/invoke/MethodHandle" ∧ q_st_copyFrom.1.cls ≠ "java/lang/invoke/VarHandle" ∧ (parseMethodDescriptor q_st_copyFrom.1.desc).map (fun d => d.parameters.length) = some 1) ∧ Nat.ble q_st_copyFrom.2.2.1 45 = true := ⟨⟨by decide +kernel, by decide +kernel, by decide +kernel⟩, rfl⟩
theorem cx_st_copyFrom : Cond.instanceMethod q_st_copyFrom.1 ∈ sm_LT ∧ Cond.selects q_st_copyFrom.1.cls q_st_copyFrom.1 q_st_copyFrom.1 ∈ sm_LT := ⟨(sm_mq5 93 (by decide +kernel) rfl), (sm_mq5 94 (by decide +kernel) rfl)⟩
theorem cw_st_fanAir : Cond.code q_st_fanAir.1 q_st_fanAir.2.1 q_st_fanAir.2.2.1 q_st_fanAir.2.2.2 ∈ sm_LT := (sm_mq4 169 rfl rfl)
theorem cy_st_fanAir : (q_st_fanAir.1.cls ≠ "java/lang/invoke/MethodHandle" ∧ q_st_fanAir.1.cls ≠ "java/lang/invoke/VarHandle" ∧ (parseMethodDescriptor q_st_fanAir.1.desc).map (fun d => d.parameters.length) = some 1) ∧ Nat.ble q_st_fanAir.2.2.1 45 = true := ⟨⟨by decide +kernel, by decide +kernel, by decide +kernel⟩, rfl⟩
theorem cx_st_fanAir : Cond.instanceMethod q_st_fanAir.1 ∈ sm_LT ∧ Cond.selects q_st_fanAir.1.cls q_st_fanAir.1 q_st_fanAir.1 ∈ sm_LT := ⟨(sm_mq4 167 (by decide +kernel) rfl), (sm_mq4 168 (by decide +kernel) rfl)⟩
theorem cw_st_hasWay : Cond.code q_st_hasWay.1 q_st_hasWay.2.1 q_st_hasWay.2.2.1 q_st_hasWay.2.2.2 ∈ sm_LT := (sm_mq4 153 rfl rfl)
theorem cy_st_hasWay : (q_st_hasWay.1.cls ≠ "java/lang/invoke/MethodHandle" ∧ q_st_hasWay.1.cls ≠ "java/lang/invoke/VarHandle" ∧ (parseMethodDescriptor q_st_hasWay.1.desc).map (fun d => d.parameters.length) = some 2) ∧ Nat.ble q_st_hasWay.2.2.1 45 = true := ⟨⟨by decide +kernel, by decide +kernel, by decide +kernel⟩, rfl⟩
theorem cx_st_hasWay : Cond.instanceMethod q_st_hasWay.1 ∈ sm_LT ∧ Cond.selects q_st_hasWay.1.cls q_st_hasWay.1 q_st_hasWay.1 ∈ sm_LT := ⟨(sm_mq4 151 (by decide +kernel) rfl), (sm_mq4 152 (by decide +kernel) rfl)⟩
theorem cw_st_provenOpen : Cond.code q_st_provenOpen.1 q_st_provenOpen.2.1 q_st_provenOpen.2.2.1 q_st_provenOpen.2.2.2 ∈ sm_LT := (sm_mq4 149 rfl rfl)
theorem cy_st_provenOpen : (q_st_provenOpen.1.cls ≠ "java/lang/invoke/MethodHandle" ∧ q_st_provenOpen.1.cls ≠ "java/lang/invoke/VarHandle" ∧ (parseMethodDescriptor q_st_provenOpen.1.desc).map (fun d => d.parameters.length) = some 0) ∧ Nat.ble q_st_provenOpen.2.2.1 45 = true := ⟨⟨by decide +kernel, by decide +kernel, by decide +kernel⟩, rfl⟩
theorem cx_st_provenOpen : Cond.instanceMethod q_st_provenOpen.1 ∈ sm_LT ∧ Cond.selects q_st_provenOpen.1.cls q_st_provenOpen.1 q_st_provenOpen.1 ∈ sm_LT := ⟨(sm_mq4 147 (by decide +kernel) rfl), (sm_mq4 148 (by decide +kernel) rfl)⟩
theorem cw_st_smokeSum : Cond.code q_st_smokeSum.1 q_st_smokeSum.2.1 q_st_smokeSum.2.2.1 q_st_smokeSum.2.2.2 ∈ sm_LT := (sm_mq5 119 rfl rfl)
theorem cy_st_smokeSum : (q_st_smokeSum.1.cls ≠ "java/lang/invoke/MethodHandle" ∧ q_st_smokeSum.1.cls ≠ "java/lang/invoke/VarHandle" ∧ (parseMethodDescriptor q_st_smokeSum.1.desc).map (fun d => d.parameters.length) = some 0) ∧ Nat.ble q_st_smokeSum.2.2.1 45 = true := ⟨⟨by decide +kernel, by decide +kernel, by decide +kernel⟩, rfl⟩
theorem cx_st_smokeSum : Cond.instanceMethod q_st_smokeSum.1 ∈ sm_LT ∧ Cond.selects q_st_smokeSum.1.cls q_st_smokeSum.1 q_st_smokeSum.1 ∈ sm_LT := ⟨(sm_mq5 117 (by decide +kernel) rfl), (sm_mq5 118 (by decide +kernel) rfl)⟩
theorem cw_st_stairAir : Cond.code q_st_stairAir.1 q_st_stairAir.2.1 q_st_stairAir.2.2.1 q_st_stairAir.2.2.2 ∈ sm_LT := (sm_mq4 165 rfl rfl)
theorem cy_st_stairAir : (q_st_stairAir.1.cls ≠ "java/lang/invoke/MethodHandle" ∧ q_st_stairAir.1.cls ≠ "java/lang/invoke/VarHandle" ∧ (parseMethodDescriptor q_st_stairAir.1.desc).map (fun d => d.parameters.length) = some 0) ∧ Nat.ble q_st_stairAir.2.2.1 45 = true := ⟨⟨by decide +kernel, by decide +kernel, by decide +kernel⟩, rfl⟩
theorem cx_st_stairAir : Cond.instanceMethod q_st_stairAir.1 ∈ sm_LT ∧ Cond.selects q_st_stairAir.1.cls q_st_stairAir.1 q_st_stairAir.1 ∈ sm_LT := ⟨(sm_mq4 163 (by decide +kernel) rfl), (sm_mq4 164 (by decide +kernel) rfl)⟩
theorem cw_st_supervise : Cond.code q_st_supervise.1 q_st_supervise.2.1 q_st_supervise.2.2.1 q_st_supervise.2.2.2 ∈ sm_LT := (sm_mq4 139 rfl rfl)
theorem cy_st_supervise : (q_st_supervise.1.cls ≠ "java/lang/invoke/MethodHandle" ∧ q_st_supervise.1.cls ≠ "java/lang/invoke/VarHandle" ∧ (parseMethodDescriptor q_st_supervise.1.desc).map (fun d => d.parameters.length) = some 5) ∧ Nat.ble q_st_supervise.2.2.1 45 = true := ⟨⟨by decide +kernel, by decide +kernel, by decide +kernel⟩, rfl⟩
theorem cx_st_supervise : Cond.instanceMethod q_st_supervise.1 ∈ sm_LT ∧ Cond.selects q_st_supervise.1.cls q_st_supervise.1 q_st_supervise.1 ∈ sm_LT := ⟨(sm_mq4 137 (by decide +kernel) rfl), (sm_mq4 138 (by decide +kernel) rfl)⟩
theorem cw_st_thickestSmoke : Cond.code q_st_thickestSmoke.1 q_st_thickestSmoke.2.1 q_st_thickestSmoke.2.2.1 q_st_thickestSmoke.2.2.2 ∈ sm_LT := (sm_mq5 131 rfl rfl)
theorem cy_st_thickestSmoke : (q_st_thickestSmoke.1.cls ≠ "java/lang/invoke/MethodHandle" ∧ q_st_thickestSmoke.1.cls ≠ "java/lang/invoke/VarHandle" ∧ (parseMethodDescriptor q_st_thickestSmoke.1.desc).map (fun d => d.parameters.length) = some 0) ∧ Nat.ble q_st_thickestSmoke.2.2.1 45 = true := ⟨⟨by decide +kernel, by decide +kernel, by decide +kernel⟩, rfl⟩
theorem cx_st_thickestSmoke : Cond.instanceMethod q_st_thickestSmoke.1 ∈ sm_LT ∧ Cond.selects q_st_thickestSmoke.1.cls q_st_thickestSmoke.1 q_st_thickestSmoke.1 ∈ sm_LT := ⟨(sm_mq5 129 (by decide +kernel) rfl), (sm_mq5 130 (by decide +kernel) rfl)⟩
theorem cw_te_advance : Cond.code q_te_advance.1 q_te_advance.2.1 q_te_advance.2.2.1 q_te_advance.2.2.2 ∈ sm_LT := (sm_mq3 98 rfl rfl)
theorem cy_te_advance : (q_te_advance.1.cls ≠ "java/lang/invoke/MethodHandle" ∧ q_te_advance.1.cls ≠ "java/lang/invoke/VarHandle" ∧ (parseMethodDescriptor q_te_advance.1.desc).map (fun d => d.parameters.length) = some 0) ∧ Nat.ble q_te_advance.2.2.1 45 = true := ⟨⟨by decide +kernel, by decide +kernel, by decide +kernel⟩, rfl⟩
theorem cx_te_advance : Cond.instanceMethod q_te_advance.1 ∈ sm_LT ∧ Cond.selects q_te_advance.1.cls q_te_advance.1 q_te_advance.1 ∈ sm_LT := ⟨(sm_mq3 96 (by decide +kernel) rfl), (sm_mq3 97 (by decide +kernel) rfl)⟩
theorem cw_te_append : Cond.code q_te_append.1 q_te_append.2.1 q_te_append.2.2.1 q_te_append.2.2.2 ∈ sm_LT := (sm_mq3 2 rfl rfl)
theorem cy_te_append : (q_te_append.1.cls ≠ "java/lang/invoke/MethodHandle" ∧ q_te_append.1.cls ≠ "java/lang/invoke/VarHandle" ∧ (parseMethodDescriptor q_te_append.1.desc).map (fun d => d.parameters.length) = some 1) ∧ Nat.ble q_te_append.2.2.1 45 = true := ⟨⟨by decide +kernel, by decide +kernel, by decide +kernel⟩, rfl⟩
theorem cx_te_append : Cond.instanceMethod q_te_append.1 ∈ sm_LT ∧ Cond.selects q_te_append.1.cls q_te_append.1 q_te_append.1 ∈ sm_LT := ⟨(sm_mq3 0 (by decide +kernel) rfl), (sm_mq3 1 (by decide +kernel) rfl)⟩
theorem cw_te_cut : Cond.code q_te_cut.1 q_te_cut.2.1 q_te_cut.2.2.1 q_te_cut.2.2.2 ∈ sm_LT := (sm_mq3 15 rfl rfl)
theorem cy_te_cut : (q_te_cut.1.cls ≠ "java/lang/invoke/MethodHandle" ∧ q_te_cut.1.cls ≠ "java/lang/invoke/VarHandle" ∧ (parseMethodDescriptor q_te_cut.1.desc).map (fun d => d.parameters.length) = some 1) ∧ Nat.ble q_te_cut.2.2.1 45 = true := ⟨⟨by decide +kernel, by decide +kernel, by decide +kernel⟩, rfl⟩
theorem cx_te_cut : Cond.instanceMethod q_te_cut.1 ∈ sm_LT ∧ Cond.selects q_te_cut.1.cls q_te_cut.1 q_te_cut.1 ∈ sm_LT := ⟨(sm_mq3 13 (by decide +kernel) rfl), (sm_mq3 14 (by decide +kernel) rfl)⟩
theorem cw_te_isRun : Cond.code q_te_isRun.1 q_te_isRun.2.1 q_te_isRun.2.2.1 q_te_isRun.2.2.2 ∈ sm_LT := (sm_mq3 21 rfl rfl)
theorem cy_te_isRun : (q_te_isRun.1.cls ≠ "java/lang/invoke/MethodHandle" ∧ q_te_isRun.1.cls ≠ "java/lang/invoke/VarHandle" ∧ (parseMethodDescriptor q_te_isRun.1.desc).map (fun d => d.parameters.length) = some 1) ∧ Nat.ble q_te_isRun.2.2.1 45 = true := ⟨⟨by decide +kernel, by decide +kernel, by decide +kernel⟩, rfl⟩
theorem cx_te_isRun : Cond.static q_te_isRun.1 ∈ sm_LT := (sm_mq3 20 (by decide +kernel) rfl)
theorem cw_te_isSign : Cond.code q_te_isSign.1 q_te_isSign.2.1 q_te_isSign.2.2.1 q_te_isSign.2.2.2 ∈ sm_LT := (sm_mq3 177 rfl rfl)
theorem cy_te_isSign : (q_te_isSign.1.cls ≠ "java/lang/invoke/MethodHandle" ∧ q_te_isSign.1.cls ≠ "java/lang/invoke/VarHandle" ∧ (parseMethodDescriptor q_te_isSign.1.desc).map (fun d => d.parameters.length) = some 1) ∧ Nat.ble q_te_isSign.2.2.1 45 = true := ⟨⟨by decide +kernel, by decide +kernel, by decide +kernel⟩, rfl⟩
theorem cx_te_isSign : Cond.instanceMethod q_te_isSign.1 ∈ sm_LT ∧ Cond.selects q_te_isSign.1.cls q_te_isSign.1 q_te_isSign.1 ∈ sm_LT := ⟨(sm_mq3 175 (by decide +kernel) rfl), (sm_mq3 176 (by decide +kernel) rfl)⟩
theorem cw_te_isWord : Cond.code q_te_isWord.1 q_te_isWord.2.1 q_te_isWord.2.2.1 q_te_isWord.2.2.2 ∈ sm_LT := (sm_mq3 46 rfl rfl)
theorem cy_te_isWord : (q_te_isWord.1.cls ≠ "java/lang/invoke/MethodHandle" ∧ q_te_isWord.1.cls ≠ "java/lang/invoke/VarHandle" ∧ (parseMethodDescriptor q_te_isWord.1.desc).map (fun d => d.parameters.length) = some 1) ∧ Nat.ble q_te_isWord.2.2.1 45 = true := ⟨⟨by decide +kernel, by decide +kernel, by decide +kernel⟩, rfl⟩
theorem cx_te_isWord : Cond.instanceMethod q_te_isWord.1 ∈ sm_LT ∧ Cond.selects q_te_isWord.1.cls q_te_isWord.1 q_te_isWord.1 ∈ sm_LT := ⟨(sm_mq3 44 (by decide +kernel) rfl), (sm_mq3 45 (by decide +kernel) rfl)⟩
theorem cw_te_kindOf : Cond.code q_te_kindOf.1 q_te_kindOf.2.1 q_te_kindOf.2.2.1 q_te_kindOf.2.2.2 ∈ sm_LT := (sm_mq3 18 rfl rfl)
theorem cy_te_kindOf : (q_te_kindOf.1.cls ≠ "java/lang/invoke/MethodHandle" ∧ q_te_kindOf.1.cls ≠ "java/lang/invoke/VarHandle" ∧ (parseMethodDescriptor q_te_kindOf.1.desc).map (fun d => d.parameters.length) = some 1) ∧ Nat.ble q_te_kindOf.2.2.1 45 = true := ⟨⟨by decide +kernel, by decide +kernel, by decide +kernel⟩, rfl⟩
theorem cx_te_kindOf : Cond.static q_te_kindOf.1 ∈ sm_LT := (sm_mq3 17 (by decide +kernel) rfl)
theorem cw_te_lengthenToken : Cond.code q_te_lengthenToken.1 q_te_lengthenToken.2.1 q_te_lengthenToken.2.2.1 q_te_lengthenToken.2.2.2 ∈ sm_LT := (sm_mq3 25 rfl rfl)
theorem cy_te_lengthenToken : (q_te_lengthenToken.1.cls ≠ "java/lang/invoke/MethodHandle" ∧ q_te_lengthenToken.1.cls ≠ "java/lang/invoke/VarHandle" ∧ (parseMethodDescriptor q_te_lengthenToken.1.desc).map (fun d => d.parameters.length) = some 1) ∧ Nat.ble q_te_lengthenToken.2.2.1 45 = true := ⟨⟨by decide +kernel, by decide +kernel, by decide +kernel⟩, rfl⟩
theorem cx_te_lengthenToken : Cond.instanceMethod q_te_lengthenToken.1 ∈ sm_LT ∧ Cond.selects q_te_lengthenToken.1.cls q_te_lengthenToken.1 q_te_lengthenToken.1 ∈ sm_LT := ⟨(sm_mq3 24 (by decide +kernel) rfl), (sm_ms1 (q := (q_te_lengthenToken.1, 8)) 0 (by decide +kernel))⟩
theorem cw_te_startToken : Cond.code q_te_startToken.1 q_te_startToken.2.1 q_te_startToken.2.2.1 q_te_startToken.2.2.2 ∈ sm_LT := (sm_mq3 29 rfl rfl)
theorem cy_te_startToken : (q_te_startToken.1.cls ≠ "java/lang/invoke/MethodHandle" ∧ q_te_startToken.1.cls ≠ "java/lang/invoke/VarHandle" ∧ (parseMethodDescriptor q_te_startToken.1.desc).map (fun d => d.parameters.length) = some 2) ∧ Nat.ble q_te_startToken.2.2.1 45 = true := ⟨⟨by decide +kernel, by decide +kernel, by decide +kernel⟩, rfl⟩
theorem cx_te_startToken : Cond.instanceMethod q_te_startToken.1 ∈ sm_LT ∧ Cond.selects q_te_startToken.1.cls q_te_startToken.1 q_te_startToken.1 ∈ sm_LT := ⟨(sm_mq3 28 (by decide +kernel) rfl), (sm_ms1 (q := (q_te_startToken.1, 8)) 1 (by decide +kernel))⟩
theorem cw_te_stop : Cond.code q_te_stop.1 q_te_stop.2.1 q_te_stop.2.2.1 q_te_stop.2.2.2 ∈ sm_LT := (sm_mq3 110 rfl rfl)
theorem cy_te_stop : (q_te_stop.1.cls ≠ "java/lang/invoke/MethodHandle" ∧ q_te_stop.1.cls ≠ "java/lang/invoke/VarHandle" ∧ (parseMethodDescriptor q_te_stop.1.desc).map (fun d => d.parameters.length) = some 0) ∧ Nat.ble q_te_stop.2.2.1 45 = true := ⟨⟨by decide +kernel, by decide +kernel, by decide +kernel⟩, rfl⟩
theorem cx_te_stop : Cond.instanceMethod q_te_stop.1 ∈ sm_LT ∧ Cond.selects q_te_stop.1.cls q_te_stop.1 q_te_stop.1 ∈ sm_LT := ⟨(sm_mq3 108 (by decide +kernel) rfl), (sm_mq3 109 (by decide +kernel) rfl)⟩
theorem cw_mo_actionHere : Cond.code q_mo_actionHere.1 q_mo_actionHere.2.1 q_mo_actionHere.2.2.1 q_mo_actionHere.2.2.2 ∈ sm_LT := (sm_mq7 0 rfl rfl)
theorem cy_mo_actionHere : (q_mo_actionHere.1.cls ≠ "java/lang/invoke/MethodHandle" ∧ q_mo_actionHere.1.cls ≠ "java/lang/invoke/VarHandle" ∧ (parseMethodDescriptor q_mo_actionHere.1.desc).map (fun d => d.parameters.length) = some 0) ∧ Nat.ble q_mo_actionHere.2.2.1 45 = true := ⟨⟨by decide +kernel, by decide +kernel, by decide +kernel⟩, rfl⟩
theorem cx_mo_actionHere : Cond.instanceMethod q_mo_actionHere.1 ∈ sm_LT ∧ Cond.selects q_mo_actionHere.1.cls q_mo_actionHere.1 q_mo_actionHere.1 ∈ sm_LT := ⟨(sm_mq6 239 (by decide +kernel) rfl), (sm_ms5 (q := (q_mo_actionHere.1, 35)) 12 (by decide +kernel))⟩
theorem cw_mo_airOf : Cond.code q_mo_airOf.1 q_mo_airOf.2.1 q_mo_airOf.2.2.1 q_mo_airOf.2.2.2 ∈ sm_LT := (sm_mq7 127 rfl rfl)
theorem cy_mo_airOf : (q_mo_airOf.1.cls ≠ "java/lang/invoke/MethodHandle" ∧ q_mo_airOf.1.cls ≠ "java/lang/invoke/VarHandle" ∧ (parseMethodDescriptor q_mo_airOf.1.desc).map (fun d => d.parameters.length) = some 1) ∧ Nat.ble q_mo_airOf.2.2.1 45 = true := ⟨⟨by decide +kernel, by decide +kernel, by decide +kernel⟩, rfl⟩
theorem cx_mo_airOf : Cond.instanceMethod q_mo_airOf.1 ∈ sm_LT ∧ Cond.selects q_mo_airOf.1.cls q_mo_airOf.1 q_mo_airOf.1 ∈ sm_LT := ⟨(sm_mq7 126 (by decide +kernel) rfl), (sm_ms7 (q := (q_mo_airOf.1, 35)) 5 (by decide +kernel))⟩
theorem cw_mo_airTo : Cond.code q_mo_airTo.1 q_mo_airTo.2.1 q_mo_airTo.2.2.1 q_mo_airTo.2.2.2 ∈ sm_LT := (sm_mq7 154 rfl rfl)
theorem cy_mo_airTo : (q_mo_airTo.1.cls ≠ "java/lang/invoke/MethodHandle" ∧ q_mo_airTo.1.cls ≠ "java/lang/invoke/VarHandle" ∧ (parseMethodDescriptor q_mo_airTo.1.desc).map (fun d => d.parameters.length) = some 2) ∧ Nat.ble q_mo_airTo.2.2.1 45 = true := ⟨⟨by decide +kernel, by decide +kernel, by decide +kernel⟩, rfl⟩
theorem cx_mo_airTo : Cond.instanceMethod q_mo_airTo.1 ∈ sm_LT ∧ Cond.selects q_mo_airTo.1.cls q_mo_airTo.1 q_mo_airTo.1 ∈ sm_LT := ⟨(sm_mq7 153 (by decide +kernel) rfl), (sm_ms7 (q := (q_mo_airTo.1, 35)) 11 (by decide +kernel))⟩
theorem cw_mo_allSmoke : Cond.code q_mo_allSmoke.1 q_mo_allSmoke.2.1 q_mo_allSmoke.2.2.1 q_mo_allSmoke.2.2.2 ∈ sm_LT := (sm_mq8 70 rfl rfl)
theorem cy_mo_allSmoke : (q_mo_allSmoke.1.cls ≠ "java/lang/invoke/MethodHandle" ∧ q_mo_allSmoke.1.cls ≠ "java/lang/invoke/VarHandle" ∧ (parseMethodDescriptor q_mo_allSmoke.1.desc).map (fun d => d.parameters.length) = some 0) ∧ Nat.ble q_mo_allSmoke.2.2.1 45 = true := ⟨⟨by decide +kernel, by decide +kernel, by decide +kernel⟩, rfl⟩
theorem cx_mo_allSmoke : Cond.instanceMethod q_mo_allSmoke.1 ∈ sm_LT ∧ Cond.selects q_mo_allSmoke.1.cls q_mo_allSmoke.1 q_mo_allSmoke.1 ∈ sm_LT := ⟨(sm_mq8 69 (by decide +kernel) rfl), (sm_ms8 (q := (q_mo_allSmoke.1, 35)) 8 (by decide +kernel))⟩
theorem cw_mo_append : Cond.code q_mo_append.1 q_mo_append.2.1 q_mo_append.2.2.1 q_mo_append.2.2.2 ∈ sm_LT := (sm_mq6 74 rfl rfl)
theorem cy_mo_append : (q_mo_append.1.cls ≠ "java/lang/invoke/MethodHandle" ∧ q_mo_append.1.cls ≠ "java/lang/invoke/VarHandle" ∧ (parseMethodDescriptor q_mo_append.1.desc).map (fun d => d.parameters.length) = some 1) ∧ Nat.ble q_mo_append.2.2.1 45 = true := ⟨⟨by decide +kernel, by decide +kernel, by decide +kernel⟩, rfl⟩
theorem cx_mo_append : Cond.instanceMethod q_mo_append.1 ∈ sm_LT ∧ Cond.selects q_mo_append.1.cls q_mo_append.1 q_mo_append.1 ∈ sm_LT := ⟨(sm_mq6 73 (by decide +kernel) rfl), (sm_ms3 (q := (q_mo_append.1, 35)) 15 (by decide +kernel))⟩
theorem cw_mo_areaOf : Cond.code q_mo_areaOf.1 q_mo_areaOf.2.1 q_mo_areaOf.2.2.1 q_mo_areaOf.2.2.2 ∈ sm_LT := (sm_mq7 135 rfl rfl)
theorem cy_mo_areaOf : (q_mo_areaOf.1.cls ≠ "java/lang/invoke/MethodHandle" ∧ q_mo_areaOf.1.cls ≠ "java/lang/invoke/VarHandle" ∧ (parseMethodDescriptor q_mo_areaOf.1.desc).map (fun d => d.parameters.length) = some 1) ∧ Nat.ble q_mo_areaOf.2.2.1 45 = true := ⟨⟨by decide +kernel, by decide +kernel, by decide +kernel⟩, rfl⟩
theorem cx_mo_areaOf : Cond.instanceMethod q_mo_areaOf.1 ∈ sm_LT ∧ Cond.selects q_mo_areaOf.1.cls q_mo_areaOf.1 q_mo_areaOf.1 ∈ sm_LT := ⟨(sm_mq7 134 (by decide +kernel) rfl), (sm_ms7 (q := (q_mo_areaOf.1, 35)) 7 (by decide +kernel))⟩
theorem cw_mo_begin : Cond.code q_mo_begin.1 q_mo_begin.2.1 q_mo_begin.2.2.1 q_mo_begin.2.2.2 ∈ sm_LT := (sm_mq5 191 rfl rfl)
theorem cy_mo_begin : (q_mo_begin.1.cls ≠ "java/lang/invoke/MethodHandle" ∧ q_mo_begin.1.cls ≠ "java/lang/invoke/VarHandle" ∧ (parseMethodDescriptor q_mo_begin.1.desc).map (fun d => d.parameters.length) = some 0) ∧ Nat.ble q_mo_begin.2.2.1 45 = true := ⟨⟨by decide +kernel, by decide +kernel, by decide +kernel⟩, rfl⟩
theorem cx_mo_begin : Cond.instanceMethod q_mo_begin.1 ∈ sm_LT ∧ Cond.selects q_mo_begin.1.cls q_mo_begin.1 q_mo_begin.1 ∈ sm_LT := ⟨(sm_mq5 190 (by decide +kernel) rfl), (sm_ms3 (q := (q_mo_begin.1, 35)) 12 (by decide +kernel))⟩
theorem cw_mo_bits : Cond.code q_mo_bits.1 q_mo_bits.2.1 q_mo_bits.2.2.1 q_mo_bits.2.2.2 ∈ sm_LT := (sm_mq8 121 rfl rfl)
theorem cy_mo_bits : (q_mo_bits.1.cls ≠ "java/lang/invoke/MethodHandle" ∧ q_mo_bits.1.cls ≠ "java/lang/invoke/VarHandle" ∧ (parseMethodDescriptor q_mo_bits.1.desc).map (fun d => d.parameters.length) = some 1) ∧ Nat.ble q_mo_bits.2.2.1 45 = true := ⟨⟨by decide +kernel, by decide +kernel, by decide +kernel⟩, rfl⟩
theorem cx_mo_bits : Cond.static q_mo_bits.1 ∈ sm_LT := (sm_mq8 120 (by decide +kernel) rfl)
theorem cw_mo_byteAt : Cond.code q_mo_byteAt.1 q_mo_byteAt.2.1 q_mo_byteAt.2.2.1 q_mo_byteAt.2.2.2 ∈ sm_LT := (sm_mq6 101 rfl rfl)
theorem cy_mo_byteAt : (q_mo_byteAt.1.cls ≠ "java/lang/invoke/MethodHandle" ∧ q_mo_byteAt.1.cls ≠ "java/lang/invoke/VarHandle" ∧ (parseMethodDescriptor q_mo_byteAt.1.desc).map (fun d => d.parameters.length) = some 1) ∧ Nat.ble q_mo_byteAt.2.2.1 45 = true := ⟨⟨by decide +kernel, by decide +kernel, by decide +kernel⟩, rfl⟩
theorem cx_mo_byteAt : Cond.instanceMethod q_mo_byteAt.1 ∈ sm_LT ∧ Cond.selects q_mo_byteAt.1.cls q_mo_byteAt.1 q_mo_byteAt.1 ∈ sm_LT := ⟨(sm_mq6 100 (by decide +kernel) rfl), (sm_ms4 (q := (q_mo_byteAt.1, 35)) 2 (by decide +kernel))⟩
theorem cw_mo_clearPlan : Cond.code q_mo_clearPlan.1 q_mo_clearPlan.2.1 q_mo_clearPlan.2.2.1 q_mo_clearPlan.2.2.2 ∈ sm_LT := (sm_mq5 187 rfl rfl)
theorem cy_mo_clearPlan : (q_mo_clearPlan.1.cls ≠ "java/lang/invoke/MethodHandle" ∧ q_mo_clearPlan.1.cls ≠ "java/lang/invoke/VarHandle" ∧ (parseMethodDescriptor q_mo_clearPlan.1.desc).map (fun d => d.parameters.length) = some 1) ∧ Nat.ble q_mo_clearPlan.2.2.1 45 = true := ⟨⟨by decide +kernel, by decide +kernel, by decide +kernel⟩, rfl⟩
theorem cx_mo_clearPlan : Cond.static q_mo_clearPlan.1 ∈ sm_LT := (sm_mq5 186 (by decide +kernel) rfl)
theorem cw_mo_commandOf : Cond.code q_mo_commandOf.1 q_mo_commandOf.2.1 q_mo_commandOf.2.2.1 q_mo_commandOf.2.2.2 ∈ sm_LT := (sm_mq7 81 rfl rfl)
theorem cy_mo_commandOf : (q_mo_commandOf.1.cls ≠ "java/lang/invoke/MethodHandle" ∧ q_mo_commandOf.1.cls ≠ "java/lang/invoke/VarHandle" ∧ (parseMethodDescriptor q_mo_commandOf.1.desc).map (fun d => d.parameters.length) = some 5) ∧ Nat.ble q_mo_commandOf.2.2.1 45 = true := ⟨⟨by decide +kernel, by decide +kernel, by decide +kernel⟩, rfl⟩
theorem cx_mo_commandOf : Cond.static q_mo_commandOf.1 ∈ sm_LT := (sm_mq7 80 (by decide +kernel) rfl)
theorem cw_mo_damperIs : Cond.code q_mo_damperIs.1 q_mo_damperIs.2.1 q_mo_damperIs.2.2.1 q_mo_damperIs.2.2.2 ∈ sm_LT := (sm_mq7 67 rfl rfl)
theorem cy_mo_damperIs : (q_mo_damperIs.1.cls ≠ "java/lang/invoke/MethodHandle" ∧ q_mo_damperIs.1.cls ≠ "java/lang/invoke/VarHandle" ∧ (parseMethodDescriptor q_mo_damperIs.1.desc).map (fun d => d.parameters.length) = some 2) ∧ Nat.ble q_mo_damperIs.2.2.1 45 = true := ⟨⟨by decide +kernel, by decide +kernel, by decide +kernel⟩, rfl⟩
theorem cx_mo_damperIs : Cond.instanceMethod q_mo_damperIs.1 ∈ sm_LT ∧ Cond.selects q_mo_damperIs.1.cls q_mo_damperIs.1 q_mo_damperIs.1 ∈ sm_LT := ⟨(sm_mq7 66 (by decide +kernel) rfl), (sm_ms6 (q := (q_mo_damperIs.1, 35)) 9 (by decide +kernel))⟩
theorem cw_mo_damperOf : Cond.code q_mo_damperOf.1 q_mo_damperOf.2.1 q_mo_damperOf.2.2.1 q_mo_damperOf.2.2.2 ∈ sm_LT := (sm_mq5 195 rfl rfl)
theorem cy_mo_damperOf : (q_mo_damperOf.1.cls ≠ "java/lang/invoke/MethodHandle" ∧ q_mo_damperOf.1.cls ≠ "java/lang/invoke/VarHandle" ∧ (parseMethodDescriptor q_mo_damperOf.1.desc).map (fun d => d.parameters.length) = some 2) ∧ Nat.ble q_mo_damperOf.2.2.1 45 = true := ⟨⟨by decide +kernel, by decide +kernel, by decide +kernel⟩, rfl⟩
theorem cx_mo_damperOf : Cond.instanceMethod q_mo_damperOf.1 ∈ sm_LT ∧ Cond.selects q_mo_damperOf.1.cls q_mo_damperOf.1 q_mo_damperOf.1 ∈ sm_LT := ⟨(sm_mq5 194 (by decide +kernel) rfl), (sm_ms3 (q := (q_mo_damperOf.1, 35)) 13 (by decide +kernel))⟩
theorem cw_mo_decide : Cond.code q_mo_decide.1 q_mo_decide.2.1 q_mo_decide.2.2.1 q_mo_decide.2.2.2 ∈ sm_LT := (sm_mq7 31 rfl rfl)
theorem cy_mo_decide : (q_mo_decide.1.cls ≠ "java/lang/invoke/MethodHandle" ∧ q_mo_decide.1.cls ≠ "java/lang/invoke/VarHandle" ∧ (parseMethodDescriptor q_mo_decide.1.desc).map (fun d => d.parameters.length) = some 0) ∧ Nat.ble q_mo_decide.2.2.1 45 = true := ⟨⟨by decide +kernel, by decide +kernel, by decide +kernel⟩, rfl⟩
theorem cx_mo_decide : Cond.instanceMethod q_mo_decide.1 ∈ sm_LT ∧ Cond.selects q_mo_decide.1.cls q_mo_decide.1 q_mo_decide.1 ∈ sm_LT := ⟨(sm_mq7 30 (by decide +kernel) rfl), (sm_ms6 (q := (q_mo_decide.1, 35)) 0 (by decide +kernel))⟩
theorem cw_mo_doorOf : Cond.code q_mo_doorOf.1 q_mo_doorOf.2.1 q_mo_doorOf.2.2.1 q_mo_doorOf.2.2.2 ∈ sm_LT := (sm_mq7 139 rfl rfl)
theorem cy_mo_doorOf : (q_mo_doorOf.1.cls ≠ "java/lang/invoke/MethodHandle" ∧ q_mo_doorOf.1.cls ≠ "java/lang/invoke/VarHandle" ∧ (parseMethodDescriptor q_mo_doorOf.1.desc).map (fun d => d.parameters.length) = some 2) ∧ Nat.ble q_mo_doorOf.2.2.1 45 = true := ⟨⟨by decide +kernel, by decide +kernel, by decide +kernel⟩, rfl⟩
theorem cx_mo_doorOf : Cond.instanceMethod q_mo_doorOf.1 ∈ sm_LT ∧ Cond.selects q_mo_doorOf.1.cls q_mo_doorOf.1 q_mo_doorOf.1 ∈ sm_LT := ⟨(sm_mq7 138 (by decide +kernel) rfl), (sm_ms7 (q := (q_mo_doorOf.1, 35)) 8 (by decide +kernel))⟩
theorem cw_mo_drain : Cond.code q_mo_drain.1 q_mo_drain.2.1 q_mo_drain.2.2.1 q_mo_drain.2.2.2 ∈ sm_LT := (sm_mq7 158 rfl rfl)
theorem cy_mo_drain : (q_mo_drain.1.cls ≠ "java/lang/invoke/MethodHandle" ∧ q_mo_drain.1.cls ≠ "java/lang/invoke/VarHandle" ∧ (parseMethodDescriptor q_mo_drain.1.desc).map (fun d => d.parameters.length) = some 2) ∧ Nat.ble q_mo_drain.2.2.1 45 = true := ⟨⟨by decide +kernel, by decide +kernel, by decide +kernel⟩, rfl⟩
theorem cx_mo_drain : Cond.instanceMethod q_mo_drain.1 ∈ sm_LT ∧ Cond.selects q_mo_drain.1.cls q_mo_drain.1 q_mo_drain.1 ∈ sm_LT := ⟨(sm_mq7 157 (by decide +kernel) rfl), (sm_ms7 (q := (q_mo_drain.1, 35)) 12 (by decide +kernel))⟩
theorem cw_mo_emit : Cond.code q_mo_emit.1 q_mo_emit.2.1 q_mo_emit.2.2.1 q_mo_emit.2.2.2 ∈ sm_LT := (sm_mq6 209 rfl rfl)
theorem cy_mo_emit : (q_mo_emit.1.cls ≠ "java/lang/invoke/MethodHandle" ∧ q_mo_emit.1.cls ≠ "java/lang/invoke/VarHandle" ∧ (parseMethodDescriptor q_mo_emit.1.desc).map (fun d => d.parameters.length) = some 2) ∧ Nat.ble q_mo_emit.2.2.1 45 = true := ⟨⟨by decide +kernel, by decide +kernel, by decide +kernel⟩, rfl⟩
theorem cx_mo_emit : Cond.instanceMethod q_mo_emit.1 ∈ sm_LT ∧ Cond.selects q_mo_emit.1.cls q_mo_emit.1 q_mo_emit.1 ∈ sm_LT := ⟨(sm_mq6 208 (by decide +kernel) rfl), (sm_ms5 (q := (q_mo_emit.1, 35)) 7 (by decide +kernel))⟩
theorem cw_mo_fails : Cond.code q_mo_fails.1 q_mo_fails.2.1 q_mo_fails.2.2.1 q_mo_fails.2.2.2 ∈ sm_LT := (sm_mq6 120 rfl rfl)
theorem cy_mo_fails : (q_mo_fails.1.cls ≠ "java/lang/invoke/MethodHandle" ∧ q_mo_fails.1.cls ≠ "java/lang/invoke/VarHandle" ∧ (parseMethodDescriptor q_mo_fails.1.desc).map (fun d => d.parameters.length) = some 2) ∧ Nat.ble q_mo_fails.2.2.1 45 = true := ⟨⟨by decide +kernel, by decide +kernel, by decide +kernel⟩, rfl⟩
theorem cx_mo_fails : Cond.instanceMethod q_mo_fails.1 ∈ sm_LT ∧ Cond.selects q_mo_fails.1.cls q_mo_fails.1 q_mo_fails.1 ∈ sm_LT := ⟨(sm_mq6 119 (by decide +kernel) rfl), (sm_ms4 (q := (q_mo_fails.1, 35)) 6 (by decide +kernel))⟩
theorem cw_mo_fanIs : Cond.code q_mo_fanIs.1 q_mo_fanIs.2.1 q_mo_fanIs.2.2.1 q_mo_fanIs.2.2.2 ∈ sm_LT := (sm_mq7 55 rfl rfl)
theorem cy_mo_fanIs : (q_mo_fanIs.1.cls ≠ "java/lang/invoke/MethodHandle" ∧ q_mo_fanIs.1.cls ≠ "java/lang/invoke/VarHandle" ∧ (parseMethodDescriptor q_mo_fanIs.1.desc).map (fun d => d.parameters.length) = some 2) ∧ Nat.ble q_mo_fanIs.2.2.1 45 = true := ⟨⟨by decide +kernel, by decide +kernel, by decide +kernel⟩, rfl⟩
theorem cx_mo_fanIs : Cond.instanceMethod q_mo_fanIs.1 ∈ sm_LT ∧ Cond.selects q_mo_fanIs.1.cls q_mo_fanIs.1 q_mo_fanIs.1 ∈ sm_LT := ⟨(sm_mq7 54 (by decide +kernel) rfl), (sm_ms6 (q := (q_mo_fanIs.1, 35)) 6 (by decide +kernel))⟩
theorem cw_mo_fanOf : Cond.code q_mo_fanOf.1 q_mo_fanOf.2.1 q_mo_fanOf.2.2.1 q_mo_fanOf.2.2.2 ∈ sm_LT := (sm_mq7 59 rfl rfl)
theorem cy_mo_fanOf : (q_mo_fanOf.1.cls ≠ "java/lang/invoke/MethodHandle" ∧ q_mo_fanOf.1.cls ≠ "java/lang/invoke/VarHandle" ∧ (parseMethodDescriptor q_mo_fanOf.1.desc).map (fun d => d.parameters.length) = some 2) ∧ Nat.ble q_mo_fanOf.2.2.1 45 = true := ⟨⟨by decide +kernel, by decide +kernel, by decide +kernel⟩, rfl⟩
theorem cx_mo_fanOf : Cond.instanceMethod q_mo_fanOf.1 ∈ sm_LT ∧ Cond.selects q_mo_fanOf.1.cls q_mo_fanOf.1 q_mo_fanOf.1 ∈ sm_LT := ⟨(sm_mq7 58 (by decide +kernel) rfl), (sm_ms6 (q := (q_mo_fanOf.1, 35)) 7 (by decide +kernel))⟩
theorem cw_mo_flip : Cond.code q_mo_flip.1 q_mo_flip.2.1 q_mo_flip.2.2.1 q_mo_flip.2.2.2 ∈ sm_LT := (sm_mq7 186 rfl rfl)
theorem cy_mo_flip : (q_mo_flip.1.cls ≠ "java/lang/invoke/MethodHandle" ∧ q_mo_flip.1.cls ≠ "java/lang/invoke/VarHandle" ∧ (parseMethodDescriptor q_mo_flip.1.desc).map (fun d => d.parameters.length) = some 2) ∧ Nat.ble q_mo_flip.2.2.1 45 = true := ⟨⟨by decide +kernel, by decide +kernel, by decide +kernel⟩, rfl⟩
theorem cx_mo_flip : Cond.instanceMethod q_mo_flip.1 ∈ sm_LT ∧ Cond.selects q_mo_flip.1.cls q_mo_flip.1 q_mo_flip.1 ∈ sm_LT := ⟨(sm_mq7 185 (by decide +kernel) rfl), (sm_ms8 (q := (q_mo_flip.1, 35)) 1 (by decide +kernel))⟩
theorem cw_mo_fullFlow : Cond.code q_mo_fullFlow.1 q_mo_fullFlow.2.1 q_mo_fullFlow.2.2.1 q_mo_fullFlow.2.2.2 ∈ sm_LT := (sm_mq8 114 rfl rfl)
theorem cy_mo_fullFlow : (q_mo_fullFlow.1.cls ≠ "java/lang/invoke/MethodHandle" ∧ q_mo_fullFlow.1.cls ≠ "java/lang/invoke/VarHandle" ∧ (parseMethodDescriptor q_mo_fullFlow.1.desc).map (fun d => d.parameters.length) = some 0) ∧ Nat.ble q_mo_fullFlow.2.2.1 45 = true := ⟨⟨by decide +kernel, by decide +kernel, by decide +kernel⟩, rfl⟩
theorem cx_mo_fullFlow : Cond.instanceMethod q_mo_fullFlow.1 ∈ sm_LT ∧ Cond.selects q_mo_fullFlow.1.cls q_mo_fullFlow.1 q_mo_fullFlow.1 ∈ sm_LT := ⟨(sm_mq8 113 (by decide +kernel) rfl), (sm_ms8 (q := (q_mo_fullFlow.1, 35)) 14 (by decide +kernel))⟩
theorem cw_mo_greater : Cond.code q_mo_greater.1 q_mo_greater.2.1 q_mo_greater.2.2.1 q_mo_greater.2.2.2 ∈ sm_LT := (sm_mq7 111 rfl rfl)
theorem cy_mo_greater : (q_mo_greater.1.cls ≠ "java/lang/invoke/MethodHandle" ∧ q_mo_greater.1.cls ≠ "java/lang/invoke/VarHandle" ∧ (parseMethodDescriptor q_mo_greater.1.desc).map (fun d => d.parameters.length) = some 2) ∧ Nat.ble q_mo_greater.2.2.1 45 = true := ⟨⟨by decide +kernel, by decide +kernel, by decide +kernel⟩, rfl⟩
theorem cx_mo_greater : Cond.static q_mo_greater.1 ∈ sm_LT := (sm_mq7 110 (by decide +kernel) rfl)
theorem cw_mo_hasBit : Cond.code q_mo_hasBit.1 q_mo_hasBit.2.1 q_mo_hasBit.2.2.1 q_mo_hasBit.2.2.2 ∈ sm_LT := (sm_mq6 165 rfl rfl)
theorem cy_mo_hasBit : (q_mo_hasBit.1.cls ≠ "java/lang/invoke/MethodHandle" ∧ q_mo_hasBit.1.cls ≠ "java/lang/invoke/VarHandle" ∧ (parseMethodDescriptor q_mo_hasBit.1.desc).map (fun d => d.parameters.length) = some 2) ∧ Nat.ble q_mo_hasBit.2.2.1 45 = true := ⟨⟨by decide +kernel, by decide +kernel, by decide +kernel⟩, rfl⟩
theorem cx_mo_hasBit : Cond.static q_mo_hasBit.1 ∈ sm_LT := (sm_mq6 164 (by decide +kernel) rfl)
theorem cw_mo_holds : Cond.code q_mo_holds.1 q_mo_holds.2.1 q_mo_holds.2.2.1 q_mo_holds.2.2.2 ∈ sm_LT := (sm_mq7 47 rfl rfl)
theorem cy_mo_holds : (q_mo_holds.1.cls ≠ "java/lang/invoke/MethodHandle" ∧ q_mo_holds.1.cls ≠ "java/lang/invoke/VarHandle" ∧ (parseMethodDescriptor q_mo_holds.1.desc).map (fun d => d.parameters.length) = some 2) ∧ Nat.ble q_mo_holds.2.2.1 45 = true := ⟨⟨by decide +kernel, by decide +kernel, by decide +kernel⟩, rfl⟩
theorem cx_mo_holds : Cond.instanceMethod q_mo_holds.1 ∈ sm_LT ∧ Cond.selects q_mo_holds.1.cls q_mo_holds.1 q_mo_holds.1 ∈ sm_LT := ⟨(sm_mq7 46 (by decide +kernel) rfl), (sm_ms6 (q := (q_mo_holds.1, 35)) 4 (by decide +kernel))⟩
theorem cw_mo_in : Cond.code q_mo_in.1 q_mo_in.2.1 q_mo_in.2.2.1 q_mo_in.2.2.2 ∈ sm_LT := (sm_mq6 89 rfl rfl)
theorem cy_mo_in : (q_mo_in.1.cls ≠ "java/lang/invoke/MethodHandle" ∧ q_mo_in.1.cls ≠ "java/lang/invoke/VarHandle" ∧ (parseMethodDescriptor q_mo_in.1.desc).map (fun d => d.parameters.length) = some 3) ∧ Nat.ble q_mo_in.2.2.1 45 = true := ⟨⟨by decide +kernel, by decide +kernel, by decide +kernel⟩, rfl⟩
theorem cx_mo_in : Cond.static q_mo_in.1 ∈ sm_LT := (sm_mq6 88 (by decide +kernel) rfl)
theorem cw_mo_isAlarm : Cond.code q_mo_isAlarm.1 q_mo_isAlarm.2.1 q_mo_isAlarm.2.2.1 q_mo_isAlarm.2.2.2 ∈ sm_LT := (sm_mq7 39 rfl rfl)
theorem cy_mo_isAlarm : (q_mo_isAlarm.1.cls ≠ "java/lang/invoke/MethodHandle" ∧ q_mo_isAlarm.1.cls ≠ "java/lang/invoke/VarHandle" ∧ (parseMethodDescriptor q_mo_isAlarm.1.desc).map (fun d => d.parameters.length) = some 0) ∧ Nat.ble q_mo_isAlarm.2.2.1 45 = true := ⟨⟨by decide +kernel, by decide +kernel, by decide +kernel⟩, rfl⟩
theorem cx_mo_isAlarm : Cond.instanceMethod q_mo_isAlarm.1 ∈ sm_LT ∧ Cond.selects q_mo_isAlarm.1.cls q_mo_isAlarm.1 q_mo_isAlarm.1 ∈ sm_LT := ⟨(sm_mq7 38 (by decide +kernel) rfl), (sm_ms6 (q := (q_mo_isAlarm.1, 35)) 2 (by decide +kernel))⟩
theorem cw_mo_isBelow : Cond.code q_mo_isBelow.1 q_mo_isBelow.2.1 q_mo_isBelow.2.2.1 q_mo_isBelow.2.2.2 ∈ sm_LT := (sm_mq8 86 rfl rfl)
theorem cy_mo_isBelow : (q_mo_isBelow.1.cls ≠ "java/lang/invoke/MethodHandle" ∧ q_mo_isBelow.1.cls ≠ "java/lang/invoke/VarHandle" ∧ (parseMethodDescriptor q_mo_isBelow.1.desc).map (fun d => d.parameters.length) = some 3) ∧ Nat.ble q_mo_isBelow.2.2.1 45 = true := ⟨⟨by decide +kernel, by decide +kernel, by decide +kernel⟩, rfl⟩
theorem cx_mo_isBelow : Cond.instanceMethod q_mo_isBelow.1 ∈ sm_LT ∧ Cond.selects q_mo_isBelow.1.cls q_mo_isBelow.1 q_mo_isBelow.1 ∈ sm_LT := ⟨(sm_mq8 85 (by decide +kernel) rfl), (sm_ms8 (q := (q_mo_isBelow.1, 35)) 10 (by decide +kernel))⟩
theorem cw_mo_isClear : Cond.code q_mo_isClear.1 q_mo_isClear.2.1 q_mo_isClear.2.2.1 q_mo_isClear.2.2.2 ∈ sm_LT := (sm_mq7 97 rfl rfl)
theorem cy_mo_isClear : (q_mo_isClear.1.cls ≠ "java/lang/invoke/MethodHandle" ∧ q_mo_isClear.1.cls ≠ "java/lang/invoke/VarHandle" ∧ (parseMethodDescriptor q_mo_isClear.1.desc).map (fun d => d.parameters.length) = some 1) ∧ Nat.ble q_mo_isClear.2.2.1 45 = true := ⟨⟨by decide +kernel, by decide +kernel, by decide +kernel⟩, rfl⟩
theorem cx_mo_isClear : Cond.instanceMethod q_mo_isClear.1 ∈ sm_LT ∧ Cond.selects q_mo_isClear.1.cls q_mo_isClear.1 q_mo_isClear.1 ∈ sm_LT := ⟨(sm_mq7 96 (by decide +kernel) rfl), (sm_ms6 (q := (q_mo_isClear.1, 35)) 15 (by decide +kernel))⟩
theorem cw_mo_isDamper : Cond.code q_mo_isDamper.1 q_mo_isDamper.2.1 q_mo_isDamper.2.2.1 q_mo_isDamper.2.2.2 ∈ sm_LT := (sm_mq7 202 rfl rfl)
theorem cy_mo_isDamper : (q_mo_isDamper.1.cls ≠ "java/lang/invoke/MethodHandle" ∧ q_mo_isDamper.1.cls ≠ "java/lang/invoke/VarHandle" ∧ (parseMethodDescriptor q_mo_isDamper.1.desc).map (fun d => d.parameters.length) = some 1) ∧ Nat.ble q_mo_isDamper.2.2.1 45 = true := ⟨⟨by decide +kernel, by decide +kernel, by decide +kernel⟩, rfl⟩
theorem cx_mo_isDamper : Cond.instanceMethod q_mo_isDamper.1 ∈ sm_LT ∧ Cond.selects q_mo_isDamper.1.cls q_mo_isDamper.1 q_mo_isDamper.1 ∈ sm_LT := ⟨(sm_mq7 201 (by decide +kernel) rfl), (sm_ms8 (q := (q_mo_isDamper.1, 35)) 3 (by decide +kernel))⟩
theorem cw_mo_isDigit : Cond.code q_mo_isDigit.1 q_mo_isDigit.2.1 q_mo_isDigit.2.2.1 q_mo_isDigit.2.2.2 ∈ sm_LT := (sm_mq6 138 rfl rfl)
theorem cy_mo_isDigit : (q_mo_isDigit.1.cls ≠ "java/lang/invoke/MethodHandle" ∧ q_mo_isDigit.1.cls ≠ "java/lang/invoke/VarHandle" ∧ (parseMethodDescriptor q_mo_isDigit.1.desc).map (fun d => d.parameters.length) = some 1) ∧ Nat.ble q_mo_isDigit.2.2.1 45 = true := ⟨⟨by decide +kernel, by decide +kernel, by decide +kernel⟩, rfl⟩
theorem cx_mo_isDigit : Cond.static q_mo_isDigit.1 ∈ sm_LT := (sm_mq6 137 (by decide +kernel) rfl)
theorem cw_mo_isDoor : Cond.code q_mo_isDoor.1 q_mo_isDoor.2.1 q_mo_isDoor.2.2.1 q_mo_isDoor.2.2.2 ∈ sm_LT := (sm_mq7 194 rfl rfl)
theorem cy_mo_isDoor : (q_mo_isDoor.1.cls ≠ "java/lang/invoke/MethodHandle" ∧ q_mo_isDoor.1.cls ≠ "java/lang/invoke/VarHandle" ∧ (parseMethodDescriptor q_mo_isDoor.1.desc).map (fun d => d.parameters.length) = some 1) ∧ Nat.ble q_mo_isDoor.2.2.1 45 = true := ⟨⟨by decide +kernel, by decide +kernel, by decide +kernel⟩, rfl⟩
theorem cx_mo_isDoor : Cond.instanceMethod q_mo_isDoor.1 ∈ sm_LT ∧ Cond.selects q_mo_isDoor.1.cls q_mo_isDoor.1 q_mo_isDoor.1 ∈ sm_LT := ⟨(sm_mq7 193 (by decide +kernel) rfl), (sm_ms8 (q := (q_mo_isDoor.1, 35)) 2 (by decide +kernel))⟩
theorem cw_mo_isFan : Cond.code q_mo_isFan.1 q_mo_isFan.2.1 q_mo_isFan.2.2.1 q_mo_isFan.2.2.2 ∈ sm_LT := (sm_mq7 210 rfl rfl)
theorem cy_mo_isFan : (q_mo_isFan.1.cls ≠ "java/lang/invoke/MethodHandle" ∧ q_mo_isFan.1.cls ≠ "java/lang/invoke/VarHandle" ∧ (parseMethodDescriptor q_mo_isFan.1.desc).map (fun d => d.parameters.length) = some 1) ∧ Nat.ble q_mo_isFan.2.2.1 45 = true := ⟨⟨by decide +kernel, by decide +kernel, by decide +kernel⟩, rfl⟩
theorem cx_mo_isFan : Cond.instanceMethod q_mo_isFan.1 ∈ sm_LT ∧ Cond.selects q_mo_isFan.1.cls q_mo_isFan.1 q_mo_isFan.1 ∈ sm_LT := ⟨(sm_mq7 209 (by decide +kernel) rfl), (sm_ms8 (q := (q_mo_isFan.1, 35)) 4 (by decide +kernel))⟩
theorem cw_mo_isHolding : Cond.code q_mo_isHolding.1 q_mo_isHolding.2.1 q_mo_isHolding.2.2.1 q_mo_isHolding.2.2.2 ∈ sm_LT := (sm_mq7 43 rfl rfl)
theorem cy_mo_isHolding : (q_mo_isHolding.1.cls ≠ "java/lang/invoke/MethodHandle" ∧ q_mo_isHolding.1.cls ≠ "java/lang/invoke/VarHandle" ∧ (parseMethodDescriptor q_mo_isHolding.1.desc).map (fun d => d.parameters.length) = some 1) ∧ Nat.ble q_mo_isHolding.2.2.1 45 = true := ⟨⟨by decide +kernel, by decide +kernel, by decide +kernel⟩, rfl⟩
theorem cx_mo_isHolding : Cond.instanceMethod q_mo_isHolding.1 ∈ sm_LT ∧ Cond.selects q_mo_isHolding.1.cls q_mo_isHolding.1 q_mo_isHolding.1 ∈ sm_LT := ⟨(sm_mq7 42 (by decide +kernel) rfl), (sm_ms6 (q := (q_mo_isHolding.1, 35)) 3 (by decide +kernel))⟩
theorem cw_mo_isInside : Cond.code q_mo_isInside.1 q_mo_isInside.2.1 q_mo_isInside.2.2.1 q_mo_isInside.2.2.2 ∈ sm_LT := (sm_mq6 229 rfl rfl)
theorem cy_mo_isInside : (q_mo_isInside.1.cls ≠ "java/lang/invoke/MethodHandle" ∧ q_mo_isInside.1.cls ≠ "java/lang/invoke/VarHandle" ∧ (parseMethodDescriptor q_mo_isInside.1.desc).map (fun d => d.parameters.length) = some 0) ∧ Nat.ble q_mo_isInside.2.2.1 45 = true := ⟨⟨by decide +kernel, by decide +kernel, by decide +kernel⟩, rfl⟩
theorem cx_mo_isInside : Cond.instanceMethod q_mo_isInside.1 ∈ sm_LT ∧ Cond.selects q_mo_isInside.1.cls q_mo_isInside.1 q_mo_isInside.1 ∈ sm_LT := ⟨(sm_mq6 228 (by decide +kernel) rfl), (sm_ms5 (q := (q_mo_isInside.1, 35)) 10 (by decide +kernel))⟩
theorem cw_mo_isLetter : Cond.code q_mo_isLetter.1 q_mo_isLetter.2.1 q_mo_isLetter.2.2.1 q_mo_isLetter.2.2.2 ∈ sm_LT := (sm_mq6 116 rfl rfl)
theorem cy_mo_isLetter : (q_mo_isLetter.1.cls ≠ "java/lang/invoke/MethodHandle" ∧ q_mo_isLetter.1.cls ≠ "java/lang/invoke/VarHandle" ∧ (parseMethodDescriptor q_mo_isLetter.1.desc).map (fun d => d.parameters.length) = some 1) ∧ Nat.ble q_mo_isLetter.2.2.1 45 = true := ⟨⟨by decide +kernel, by decide +kernel, by decide +kernel⟩, rfl⟩
theorem cx_mo_isLetter : Cond.static q_mo_isLetter.1 ∈ sm_LT := (sm_mq6 115 (by decide +kernel) rfl)
theorem cw_mo_isOpen : Cond.code q_mo_isOpen.1 q_mo_isOpen.2.1 q_mo_isOpen.2.2.1 q_mo_isOpen.2.2.2 ∈ sm_LT := (sm_mq7 105 rfl rfl)
theorem cy_mo_isOpen : (q_mo_isOpen.1.cls ≠ "java/lang/invoke/MethodHandle" ∧ q_mo_isOpen.1.cls ≠ "java/lang/invoke/VarHandle" ∧ (parseMethodDescriptor q_mo_isOpen.1.desc).map (fun d => d.parameters.length) = some 1) ∧ Nat.ble q_mo_isOpen.2.2.1 45 = true := ⟨⟨by decide +kernel, by decide +kernel, by decide +kernel⟩, rfl⟩
theorem cx_mo_isOpen : Cond.instanceMethod q_mo_isOpen.1 ∈ sm_LT ∧ Cond.selects q_mo_isOpen.1.cls q_mo_isOpen.1 q_mo_isOpen.1 ∈ sm_LT := ⟨(sm_mq7 104 (by decide +kernel) rfl), (sm_ms7 (q := (q_mo_isOpen.1, 35)) 1 (by decide +kernel))⟩
theorem cw_mo_isStairWanted : Cond.code q_mo_isStairWanted.1 q_mo_isStairWanted.2.1 q_mo_isStairWanted.2.2.1 q_mo_isStairWanted.2.2.2 ∈ sm_LT := (sm_mq7 146 rfl rfl)
theorem cy_mo_isStairWanted : (q_mo_isStairWanted.1.cls ≠ "java/lang/invoke/MethodHandle" ∧ q_mo_isStairWanted.1.cls ≠ "java/lang/invoke/VarHandle" ∧ (parseMethodDescriptor q_mo_isStairWanted.1.desc).map (fun d => d.parameters.length) = some 0) ∧ Nat.ble q_mo_isStairWanted.2.2.1 45 = true := ⟨⟨by decide +kernel, by decide +kernel, by decide +kernel⟩, rfl⟩
theorem cx_mo_isStairWanted : Cond.instanceMethod q_mo_isStairWanted.1 ∈ sm_LT ∧ Cond.selects q_mo_isStairWanted.1.cls q_mo_isStairWanted.1 q_mo_isStairWanted.1 ∈ sm_LT := ⟨(sm_mq7 145 (by decide +kernel) rfl), (sm_ms7 (q := (q_mo_isStairWanted.1, 35)) 9 (by decide +kernel))⟩
theorem cw_mo_isTrouble : Cond.code q_mo_isTrouble.1 q_mo_isTrouble.2.1 q_mo_isTrouble.2.2.1 q_mo_isTrouble.2.2.2 ∈ sm_LT := (sm_mq7 63 rfl rfl)
theorem cy_mo_isTrouble : (q_mo_isTrouble.1.cls ≠ "java/lang/invoke/MethodHandle" ∧ q_mo_isTrouble.1.cls ≠ "java/lang/invoke/VarHandle" ∧ (parseMethodDescriptor q_mo_isTrouble.1.desc).map (fun d => d.parameters.length) = some 0) ∧ Nat.ble q_mo_isTrouble.2.2.1 45 = true := ⟨⟨by decide +kernel, by decide +kernel, by decide +kernel⟩, rfl⟩
theorem cx_mo_isTrouble : Cond.instanceMethod q_mo_isTrouble.1 ∈ sm_LT ∧ Cond.selects q_mo_isTrouble.1.cls q_mo_isTrouble.1 q_mo_isTrouble.1 ∈ sm_LT := ⟨(sm_mq7 62 (by decide +kernel) rfl), (sm_ms6 (q := (q_mo_isTrouble.1, 35)) 8 (by decide +kernel))⟩
theorem cw_mo_isZone : Cond.code q_mo_isZone.1 q_mo_isZone.2.1 q_mo_isZone.2.2.1 q_mo_isZone.2.2.2 ∈ sm_LT := (sm_mq7 178 rfl rfl)
theorem cy_mo_isZone : (q_mo_isZone.1.cls ≠ "java/lang/invoke/MethodHandle" ∧ q_mo_isZone.1.cls ≠ "java/lang/invoke/VarHandle" ∧ (parseMethodDescriptor q_mo_isZone.1.desc).map (fun d => d.parameters.length) = some 1) ∧ Nat.ble q_mo_isZone.2.2.1 45 = true := ⟨⟨by decide +kernel, by decide +kernel, by decide +kernel⟩, rfl⟩
theorem cx_mo_isZone : Cond.instanceMethod q_mo_isZone.1 ∈ sm_LT ∧ Cond.selects q_mo_isZone.1.cls q_mo_isZone.1 q_mo_isZone.1 ∈ sm_LT := ⟨(sm_mq7 177 (by decide +kernel) rfl), (sm_ms8 (q := (q_mo_isZone.1, 35)) 0 (by decide +kernel))⟩
theorem cw_mo_leakSmoke : Cond.code q_mo_leakSmoke.1 q_mo_leakSmoke.2.1 q_mo_leakSmoke.2.2.1 q_mo_leakSmoke.2.2.2 ∈ sm_LT := (sm_mq7 166 rfl rfl)
theorem cy_mo_leakSmoke : (q_mo_leakSmoke.1.cls ≠ "java/lang/invoke/MethodHandle" ∧ q_mo_leakSmoke.1.cls ≠ "java/lang/invoke/VarHandle" ∧ (parseMethodDescriptor q_mo_leakSmoke.1.desc).map (fun d => d.parameters.length) = some 0) ∧ Nat.ble q_mo_leakSmoke.2.2.1 45 = true := ⟨⟨by decide +kernel, by decide +kernel, by decide +kernel⟩, rfl⟩
theorem cx_mo_leakSmoke : Cond.instanceMethod q_mo_leakSmoke.1 ∈ sm_LT ∧ Cond.selects q_mo_leakSmoke.1.cls q_mo_leakSmoke.1 q_mo_leakSmoke.1 ∈ sm_LT := ⟨(sm_mq7 165 (by decide +kernel) rfl), (sm_ms7 (q := (q_mo_leakSmoke.1, 35)) 14 (by decide +kernel))⟩
theorem cw_mo_lesser : Cond.code q_mo_lesser.1 q_mo_lesser.2.1 q_mo_lesser.2.2.1 q_mo_lesser.2.2.2 ∈ sm_LT := (sm_mq7 108 rfl rfl)
theorem cy_mo_lesser : (q_mo_lesser.1.cls ≠ "java/lang/invoke/MethodHandle" ∧ q_mo_lesser.1.cls ≠ "java/lang/invoke/VarHandle" ∧ (parseMethodDescriptor q_mo_lesser.1.desc).map (fun d => d.parameters.length) = some 2) ∧ Nat.ble q_mo_lesser.2.2.1 45 = true := ⟨⟨by decide +kernel, by decide +kernel, by decide +kernel⟩, rfl⟩
theorem cx_mo_lesser : Cond.static q_mo_lesser.1 ∈ sm_LT := (sm_mq7 107 (by decide +kernel) rfl)
theorem cw_mo_moveDamper : Cond.code q_mo_moveDamper.1 q_mo_moveDamper.2.1 q_mo_moveDamper.2.2.1 q_mo_moveDamper.2.2.2 ∈ sm_LT := (sm_mq7 85 rfl rfl)
theorem cy_mo_moveDamper : (q_mo_moveDamper.1.cls ≠ "java/lang/invoke/MethodHandle" ∧ q_mo_moveDamper.1.cls ≠ "java/lang/invoke/VarHandle" ∧ (parseMethodDescriptor q_mo_moveDamper.1.desc).map (fun d => d.parameters.length) = some 1) ∧ Nat.ble q_mo_moveDamper.2.2.1 45 = true := ⟨⟨by decide +kernel, by decide +kernel, by decide +kernel⟩, rfl⟩
theorem cx_mo_moveDamper : Cond.instanceMethod q_mo_moveDamper.1 ∈ sm_LT ∧ Cond.selects q_mo_moveDamper.1.cls q_mo_moveDamper.1 q_mo_moveDamper.1 ∈ sm_LT := ⟨(sm_mq7 84 (by decide +kernel) rfl), (sm_ms6 (q := (q_mo_moveDamper.1, 35)) 12 (by decide +kernel))⟩
theorem cw_mo_moveFan : Cond.code q_mo_moveFan.1 q_mo_moveFan.2.1 q_mo_moveFan.2.2.1 q_mo_moveFan.2.2.2 ∈ sm_LT := (sm_mq7 93 rfl rfl)
theorem cy_mo_moveFan : (q_mo_moveFan.1.cls ≠ "java/lang/invoke/MethodHandle" ∧ q_mo_moveFan.1.cls ≠ "java/lang/invoke/VarHandle" ∧ (parseMethodDescriptor q_mo_moveFan.1.desc).map (fun d => d.parameters.length) = some 1) ∧ Nat.ble q_mo_moveFan.2.2.1 45 = true := ⟨⟨by decide +kernel, by decide +kernel, by decide +kernel⟩, rfl⟩
theorem cx_mo_moveFan : Cond.instanceMethod q_mo_moveFan.1 ∈ sm_LT ∧ Cond.selects q_mo_moveFan.1.cls q_mo_moveFan.1 q_mo_moveFan.1 ∈ sm_LT := ⟨(sm_mq7 92 (by decide +kernel) rfl), (sm_ms6 (q := (q_mo_moveFan.1, 35)) 14 (by decide +kernel))⟩
theorem cw_mo_openAll : Cond.code q_mo_openAll.1 q_mo_openAll.2.1 q_mo_openAll.2.2.1 q_mo_openAll.2.2.2 ∈ sm_LT := (sm_mq8 102 rfl rfl)
theorem cy_mo_openAll : (q_mo_openAll.1.cls ≠ "java/lang/invoke/MethodHandle" ∧ q_mo_openAll.1.cls ≠ "java/lang/invoke/VarHandle" ∧ (parseMethodDescriptor q_mo_openAll.1.desc).map (fun d => d.parameters.length) = some 1) ∧ Nat.ble q_mo_openAll.2.2.1 45 = true := ⟨⟨by decide +kernel, by decide +kernel, by decide +kernel⟩, rfl⟩
theorem cx_mo_openAll : Cond.instanceMethod q_mo_openAll.1 ∈ sm_LT ∧ Cond.selects q_mo_openAll.1.cls q_mo_openAll.1 q_mo_openAll.1 ∈ sm_LT := ⟨(sm_mq8 101 (by decide +kernel) rfl), (sm_ms8 (q := (q_mo_openAll.1, 35)) 12 (by decide +kernel))⟩
theorem cw_mo_openDoors : Cond.code q_mo_openDoors.1 q_mo_openDoors.2.1 q_mo_openDoors.2.2.1 q_mo_openDoors.2.2.2 ∈ sm_LT := (sm_mq7 131 rfl rfl)
theorem cy_mo_openDoors : (q_mo_openDoors.1.cls ≠ "java/lang/invoke/MethodHandle" ∧ q_mo_openDoors.1.cls ≠ "java/lang/invoke/VarHandle" ∧ (parseMethodDescriptor q_mo_openDoors.1.desc).map (fun d => d.parameters.length) = some 0) ∧ Nat.ble q_mo_openDoors.2.2.1 45 = true := ⟨⟨by decide +kernel, by decide +kernel, by decide +kernel⟩, rfl⟩
theorem cx_mo_openDoors : Cond.instanceMethod q_mo_openDoors.1 ∈ sm_LT ∧ Cond.selects q_mo_openDoors.1.cls q_mo_openDoors.1 q_mo_openDoors.1 ∈ sm_LT := ⟨(sm_mq7 130 (by decide +kernel) rfl), (sm_ms7 (q := (q_mo_openDoors.1, 35)) 6 (by decide +kernel))⟩
theorem cw_mo_openOf : Cond.code q_mo_openOf.1 q_mo_openOf.2.1 q_mo_openOf.2.2.1 q_mo_openOf.2.2.2 ∈ sm_LT := (sm_mq7 101 rfl rfl)
theorem cy_mo_openOf : (q_mo_openOf.1.cls ≠ "java/lang/invoke/MethodHandle" ∧ q_mo_openOf.1.cls ≠ "java/lang/invoke/VarHandle" ∧ (parseMethodDescriptor q_mo_openOf.1.desc).map (fun d => d.parameters.length) = some 1) ∧ Nat.ble q_mo_openOf.2.2.1 45 = true := ⟨⟨by decide +kernel, by decide +kernel, by decide +kernel⟩, rfl⟩
theorem cx_mo_openOf : Cond.instanceMethod q_mo_openOf.1 ∈ sm_LT ∧ Cond.selects q_mo_openOf.1.cls q_mo_openOf.1 q_mo_openOf.1 ∈ sm_LT := ⟨(sm_mq7 100 (by decide +kernel) rfl), (sm_ms7 (q := (q_mo_openOf.1, 35)) 0 (by decide +kernel))⟩
theorem cw_mo_opens : Cond.code q_mo_opens.1 q_mo_opens.2.1 q_mo_opens.2.2.1 q_mo_opens.2.2.2 ∈ sm_LT := (sm_mq6 187 rfl rfl)
theorem cy_mo_opens : (q_mo_opens.1.cls ≠ "java/lang/invoke/MethodHandle" ∧ q_mo_opens.1.cls ≠ "java/lang/invoke/VarHandle" ∧ (parseMethodDescriptor q_mo_opens.1.desc).map (fun d => d.parameters.length) = some 1) ∧ Nat.ble q_mo_opens.2.2.1 45 = true := ⟨⟨by decide +kernel, by decide +kernel, by decide +kernel⟩, rfl⟩
theorem cx_mo_opens : Cond.instanceMethod q_mo_opens.1 ∈ sm_LT ∧ Cond.selects q_mo_opens.1.cls q_mo_opens.1 q_mo_opens.1 ∈ sm_LT := ⟨(sm_mq6 186 (by decide +kernel) rfl), (sm_ms5 (q := (q_mo_opens.1, 35)) 2 (by decide +kernel))⟩
theorem cw_mo_order : Cond.code q_mo_order.1 q_mo_order.2.1 q_mo_order.2.2.1 q_mo_order.2.2.2 ∈ sm_LT := (sm_mq7 71 rfl rfl)
theorem cy_mo_order : (q_mo_order.1.cls ≠ "java/lang/invoke/MethodHandle" ∧ q_mo_order.1.cls ≠ "java/lang/invoke/VarHandle" ∧ (parseMethodDescriptor q_mo_order.1.desc).map (fun d => d.parameters.length) = some 2) ∧ Nat.ble q_mo_order.2.2.1 45 = true := ⟨⟨by decide +kernel, by decide +kernel, by decide +kernel⟩, rfl⟩
theorem cx_mo_order : Cond.instanceMethod q_mo_order.1 ∈ sm_LT ∧ Cond.selects q_mo_order.1.cls q_mo_order.1 q_mo_order.1 ∈ sm_LT := ⟨(sm_mq7 70 (by decide +kernel) rfl), (sm_ms6 (q := (q_mo_order.1, 35)) 10 (by decide +kernel))⟩
theorem cw_mo_orderDampers : Cond.code q_mo_orderDampers.1 q_mo_orderDampers.2.1 q_mo_orderDampers.2.2.1 q_mo_orderDampers.2.2.2 ∈ sm_LT := (sm_mq7 75 rfl rfl)
theorem cy_mo_orderDampers : (q_mo_orderDampers.1.cls ≠ "java/lang/invoke/MethodHandle" ∧ q_mo_orderDampers.1.cls ≠ "java/lang/invoke/VarHandle" ∧ (parseMethodDescriptor q_mo_orderDampers.1.desc).map (fun d => d.parameters.length) = some 3) ∧ Nat.ble q_mo_orderDampers.2.2.1 45 = true := ⟨⟨by decide +kernel, by decide +kernel, by decide +kernel⟩, rfl⟩
theorem cx_mo_orderDampers : Cond.instanceMethod q_mo_orderDampers.1 ∈ sm_LT ∧ Cond.selects q_mo_orderDampers.1.cls q_mo_orderDampers.1 q_mo_orderDampers.1 ∈ sm_LT := ⟨(sm_mq7 74 (by decide +kernel) rfl), (sm_ms6 (q := (q_mo_orderDampers.1, 35)) 11 (by decide +kernel))⟩
theorem cw_mo_pass : Cond.code q_mo_pass.1 q_mo_pass.2.1 q_mo_pass.2.2.1 q_mo_pass.2.2.2 ∈ sm_LT := (sm_mq7 27 rfl rfl)
theorem cy_mo_pass : (q_mo_pass.1.cls ≠ "java/lang/invoke/MethodHandle" ∧ q_mo_pass.1.cls ≠ "java/lang/invoke/VarHandle" ∧ (parseMethodDescriptor q_mo_pass.1.desc).map (fun d => d.parameters.length) = some 0) ∧ Nat.ble q_mo_pass.2.2.1 45 = true := ⟨⟨by decide +kernel, by decide +kernel, by decide +kernel⟩, rfl⟩
theorem cx_mo_pass : Cond.instanceMethod q_mo_pass.1 ∈ sm_LT ∧ Cond.selects q_mo_pass.1.cls q_mo_pass.1 q_mo_pass.1 ∈ sm_LT := ⟨(sm_mq7 26 (by decide +kernel) rfl), (sm_ms5 (q := (q_mo_pass.1, 35)) 15 (by decide +kernel))⟩
theorem cw_mo_passClosings : Cond.code q_mo_passClosings.1 q_mo_passClosings.2.1 q_mo_passClosings.2.2.1 q_mo_passClosings.2.2.2 ∈ sm_LT := (sm_mq6 218 rfl rfl)
theorem cy_mo_passClosings : (q_mo_passClosings.1.cls ≠ "java/lang/invoke/MethodHandle" ∧ q_mo_passClosings.1.cls ≠ "java/lang/invoke/VarHandle" ∧ (parseMethodDescriptor q_mo_passClosings.1.desc).map (fun d => d.parameters.length) = some 0) ∧ Nat.ble q_mo_passClosings.2.2.1 45 = true := ⟨⟨by decide +kernel, by decide +kernel, by decide +kernel⟩, rfl⟩
theorem cx_mo_passClosings : Cond.instanceMethod q_mo_passClosings.1 ∈ sm_LT ∧ Cond.selects q_mo_passClosings.1.cls q_mo_passClosings.1 q_mo_passClosings.1 ∈ sm_LT := ⟨(sm_mq6 217 (by decide +kernel) rfl), (sm_ms5 (q := (q_mo_passClosings.1, 35)) 8 (by decide +kernel))⟩
theorem cw_mo_passSign : Cond.code q_mo_passSign.1 q_mo_passSign.2.1 q_mo_passSign.2.2.1 q_mo_passSign.2.2.2 ∈ sm_LT := (sm_mq6 195 rfl rfl)
theorem cy_mo_passSign : (q_mo_passSign.1.cls ≠ "java/lang/invoke/MethodHandle" ∧ q_mo_passSign.1.cls ≠ "java/lang/invoke/VarHandle" ∧ (parseMethodDescriptor q_mo_passSign.1.desc).map (fun d => d.parameters.length) = some 0) ∧ Nat.ble q_mo_passSign.2.2.1 45 = true := ⟨⟨by decide +kernel, by decide +kernel, by decide +kernel⟩, rfl⟩
theorem cx_mo_passSign : Cond.instanceMethod q_mo_passSign.1 ∈ sm_LT ∧ Cond.selects q_mo_passSign.1.cls q_mo_passSign.1 q_mo_passSign.1 ∈ sm_LT := ⟨(sm_mq6 194 (by decide +kernel) rfl), (sm_ms5 (q := (q_mo_passSign.1, 35)) 4 (by decide +kernel))⟩
theorem cw_mo_passTicks : Cond.code q_mo_passTicks.1 q_mo_passTicks.2.1 q_mo_passTicks.2.2.1 q_mo_passTicks.2.2.2 ∈ sm_LT := (sm_mq7 23 rfl rfl)
theorem cy_mo_passTicks : (q_mo_passTicks.1.cls ≠ "java/lang/invoke/MethodHandle" ∧ q_mo_passTicks.1.cls ≠ "java/lang/invoke/VarHandle" ∧ (parseMethodDescriptor q_mo_passTicks.1.desc).map (fun d => d.parameters.length) = some 1) ∧ Nat.ble q_mo_passTicks.2.2.1 45 = true := ⟨⟨by decide +kernel, by decide +kernel, by decide +kernel⟩, rfl⟩
theorem cx_mo_passTicks : Cond.instanceMethod q_mo_passTicks.1 ∈ sm_LT ∧ Cond.selects q_mo_passTicks.1.cls q_mo_passTicks.1 q_mo_passTicks.1 ∈ sm_LT := ⟨(sm_mq7 22 (by decide +kernel) rfl), (sm_ms5 (q := (q_mo_passTicks.1, 35)) 14 (by decide +kernel))⟩
theorem cw_mo_passWord : Cond.code q_mo_passWord.1 q_mo_passWord.2.1 q_mo_passWord.2.2.1 q_mo_passWord.2.2.2 ∈ sm_LT := (sm_mq6 126 rfl rfl)
theorem cy_mo_passWord : (q_mo_passWord.1.cls ≠ "java/lang/invoke/MethodHandle" ∧ q_mo_passWord.1.cls ≠ "java/lang/invoke/VarHandle" ∧ (parseMethodDescriptor q_mo_passWord.1.desc).map (fun d => d.parameters.length) = some 0) ∧ Nat.ble q_mo_passWord.2.2.1 45 = true := ⟨⟨by decide +kernel, by decide +kernel, by decide +kernel⟩, rfl⟩
theorem cx_mo_passWord : Cond.instanceMethod q_mo_passWord.1 ∈ sm_LT ∧ Cond.selects q_mo_passWord.1.cls q_mo_passWord.1 q_mo_passWord.1 ∈ sm_LT := ⟨(sm_mq6 125 (by decide +kernel) rfl), (sm_ms4 (q := (q_mo_passWord.1, 35)) 7 (by decide +kernel))⟩
theorem cw_mo_peek : Cond.code q_mo_peek.1 q_mo_peek.2.1 q_mo_peek.2.2.1 q_mo_peek.2.2.2 ∈ sm_LT := (sm_mq6 97 rfl rfl)
theorem cy_mo_peek : (q_mo_peek.1.cls ≠ "java/lang/invoke/MethodHandle" ∧ q_mo_peek.1.cls ≠ "java/lang/invoke/VarHandle" ∧ (parseMethodDescriptor q_mo_peek.1.desc).map (fun d => d.parameters.length) = some 0) ∧ Nat.ble q_mo_peek.2.2.1 45 = true := ⟨⟨by decide +kernel, by decide +kernel, by decide +kernel⟩, rfl⟩
theorem cx_mo_peek : Cond.instanceMethod q_mo_peek.1 ∈ sm_LT ∧ Cond.selects q_mo_peek.1.cls q_mo_peek.1 q_mo_peek.1 ∈ sm_LT := ⟨(sm_mq6 96 (by decide +kernel) rfl), (sm_ms4 (q := (q_mo_peek.1, 35)) 1 (by decide +kernel))⟩
theorem cw_mo_pressStair : Cond.code q_mo_pressStair.1 q_mo_pressStair.2.1 q_mo_pressStair.2.2.1 q_mo_pressStair.2.2.2 ∈ sm_LT := (sm_mq7 119 rfl rfl)
theorem cy_mo_pressStair : (q_mo_pressStair.1.cls ≠ "java/lang/invoke/MethodHandle" ∧ q_mo_pressStair.1.cls ≠ "java/lang/invoke/VarHandle" ∧ (parseMethodDescriptor q_mo_pressStair.1.desc).map (fun d => d.parameters.length) = some 0) ∧ Nat.ble q_mo_pressStair.2.2.1 45 = true := ⟨⟨by decide +kernel, by decide +kernel, by decide +kernel⟩, rfl⟩
theorem cx_mo_pressStair : Cond.instanceMethod q_mo_pressStair.1 ∈ sm_LT ∧ Cond.selects q_mo_pressStair.1.cls q_mo_pressStair.1 q_mo_pressStair.1 ∈ sm_LT := ⟨(sm_mq7 118 (by decide +kernel) rfl), (sm_ms7 (q := (q_mo_pressStair.1, 35)) 3 (by decide +kernel))⟩
theorem cw_mo_pressureBy : Cond.code q_mo_pressureBy.1 q_mo_pressureBy.2.1 q_mo_pressureBy.2.2.1 q_mo_pressureBy.2.2.2 ∈ sm_LT := (sm_mq7 142 rfl rfl)
theorem cy_mo_pressureBy : (q_mo_pressureBy.1.cls ≠ "java/lang/invoke/MethodHandle" ∧ q_mo_pressureBy.1.cls ≠ "java/lang/invoke/VarHandle" ∧ (parseMethodDescriptor q_mo_pressureBy.1.desc).map (fun d => d.parameters.length) = some 2) ∧ Nat.ble q_mo_pressureBy.2.2.1 45 = true := ⟨⟨by decide +kernel, by decide +kernel, by decide +kernel⟩, rfl⟩
theorem cx_mo_pressureBy : Cond.static q_mo_pressureBy.1 ∈ sm_LT := (sm_mq7 141 (by decide +kernel) rfl)
theorem cw_mo_pressureOf : Cond.code q_mo_pressureOf.1 q_mo_pressureOf.2.1 q_mo_pressureOf.2.2.1 q_mo_pressureOf.2.2.2 ∈ sm_LT := (sm_mq8 110 rfl rfl)
theorem cy_mo_pressureOf : (q_mo_pressureOf.1.cls ≠ "java/lang/invoke/MethodHandle" ∧ q_mo_pressureOf.1.cls ≠ "java/lang/invoke/VarHandle" ∧ (parseMethodDescriptor q_mo_pressureOf.1.desc).map (fun d => d.parameters.length) = some 1) ∧ Nat.ble q_mo_pressureOf.2.2.1 45 = true := ⟨⟨by decide +kernel, by decide +kernel, by decide +kernel⟩, rfl⟩
theorem cx_mo_pressureOf : Cond.instanceMethod q_mo_pressureOf.1 ∈ sm_LT ∧ Cond.selects q_mo_pressureOf.1.cls q_mo_pressureOf.1 q_mo_pressureOf.1 ∈ sm_LT := ⟨(sm_mq8 109 (by decide +kernel) rfl), (sm_ms8 (q := (q_mo_pressureOf.1, 35)) 13 (by decide +kernel))⟩
theorem cw_mo_push : Cond.code q_mo_push.1 q_mo_push.2.1 q_mo_push.2.2.1 q_mo_push.2.2.2 ∈ sm_LT := (sm_mq6 191 rfl rfl)
theorem cy_mo_push : (q_mo_push.1.cls ≠ "java/lang/invoke/MethodHandle" ∧ q_mo_push.1.cls ≠ "java/lang/invoke/VarHandle" ∧ (parseMethodDescriptor q_mo_push.1.desc).map (fun d => d.parameters.length) = some 1) ∧ Nat.ble q_mo_push.2.2.1 45 = true := ⟨⟨by decide +kernel, by decide +kernel, by decide +kernel⟩, rfl⟩
theorem cx_mo_push : Cond.instanceMethod q_mo_push.1 ∈ sm_LT ∧ Cond.selects q_mo_push.1.cls q_mo_push.1 q_mo_push.1 ∈ sm_LT := ⟨(sm_mq6 190 (by decide +kernel) rfl), (sm_ms5 (q := (q_mo_push.1, 35)) 3 (by decide +kernel))⟩
theorem cw_mo_put : Cond.code q_mo_put.1 q_mo_put.2.1 q_mo_put.2.2.1 q_mo_put.2.2.2 ∈ sm_LT := (sm_mq5 199 rfl rfl)
theorem cy_mo_put : (q_mo_put.1.cls ≠ "java/lang/invoke/MethodHandle" ∧ q_mo_put.1.cls ≠ "java/lang/invoke/VarHandle" ∧ (parseMethodDescriptor q_mo_put.1.desc).map (fun d => d.parameters.length) = some 3) ∧ Nat.ble q_mo_put.2.2.1 45 = true := ⟨⟨by decide +kernel, by decide +kernel, by decide +kernel⟩, rfl⟩
theorem cx_mo_put : Cond.instanceMethod q_mo_put.1 ∈ sm_LT ∧ Cond.selects q_mo_put.1.cls q_mo_put.1 q_mo_put.1 ∈ sm_LT := ⟨(sm_mq5 198 (by decide +kernel) rfl), (sm_ms3 (q := (q_mo_put.1, 35)) 14 (by decide +kernel))⟩
theorem cw_mo_putAside : Cond.code q_mo_putAside.1 q_mo_putAside.2.1 q_mo_putAside.2.2.1 q_mo_putAside.2.2.2 ∈ sm_LT := (sm_mq8 58 rfl rfl)
theorem cy_mo_putAside : (q_mo_putAside.1.cls ≠ "java/lang/invoke/MethodHandle" ∧ q_mo_putAside.1.cls ≠ "java/lang/invoke/VarHandle" ∧ (parseMethodDescriptor q_mo_putAside.1.desc).map (fun d => d.parameters.length) = some 0) ∧ Nat.ble q_mo_putAside.2.2.1 45 = true := ⟨⟨by decide +kernel, by decide +kernel, by decide +kernel⟩, rfl⟩
theorem cx_mo_putAside : Cond.instanceMethod q_mo_putAside.1 ∈ sm_LT ∧ Cond.selects q_mo_putAside.1.cls q_mo_putAside.1 q_mo_putAside.1 ∈ sm_LT := ⟨(sm_mq8 57 (by decide +kernel) rfl), (sm_ms8 (q := (q_mo_putAside.1, 35)) 6 (by decide +kernel))⟩
theorem cw_mo_putBack : Cond.code q_mo_putBack.1 q_mo_putBack.2.1 q_mo_putBack.2.2.1 q_mo_putBack.2.2.2 ∈ sm_LT := (sm_mq8 62 rfl rfl)
theorem cy_mo_putBack : (q_mo_putBack.1.cls ≠ "java/lang/invoke/MethodHandle" ∧ q_mo_putBack.1.cls ≠ "java/lang/invoke/VarHandle" ∧ (parseMethodDescriptor q_mo_putBack.1.desc).map (fun d => d.parameters.length) = some 0) ∧ Nat.ble q_mo_putBack.2.2.1 45 = true := ⟨⟨by decide +kernel, by decide +kernel, by decide +kernel⟩, rfl⟩
theorem cx_mo_putBack : Cond.instanceMethod q_mo_putBack.1 ∈ sm_LT ∧ Cond.selects q_mo_putBack.1.cls q_mo_putBack.1 q_mo_putBack.1 ∈ sm_LT := ⟨(sm_mq8 61 (by decide +kernel) rfl), (sm_ms8 (q := (q_mo_putBack.1, 35)) 7 (by decide +kernel))⟩
theorem cw_mo_putFan : Cond.code q_mo_putFan.1 q_mo_putFan.2.1 q_mo_putFan.2.2.1 q_mo_putFan.2.2.2 ∈ sm_LT := (sm_mq7 115 rfl rfl)
theorem cy_mo_putFan : (q_mo_putFan.1.cls ≠ "java/lang/invoke/MethodHandle" ∧ q_mo_putFan.1.cls ≠ "java/lang/invoke/VarHandle" ∧ (parseMethodDescriptor q_mo_putFan.1.desc).map (fun d => d.parameters.length) = some 3) ∧ Nat.ble q_mo_putFan.2.2.1 45 = true := ⟨⟨by decide +kernel, by decide +kernel, by decide +kernel⟩, rfl⟩
theorem cx_mo_putFan : Cond.instanceMethod q_mo_putFan.1 ∈ sm_LT ∧ Cond.selects q_mo_putFan.1.cls q_mo_putFan.1 q_mo_putFan.1 ∈ sm_LT := ⟨(sm_mq7 114 (by decide +kernel) rfl), (sm_ms7 (q := (q_mo_putFan.1, 35)) 2 (by decide +kernel))⟩
theorem cw_mo_putZone : Cond.code q_mo_putZone.1 q_mo_putZone.2.1 q_mo_putZone.2.2.1 q_mo_putZone.2.2.2 ∈ sm_LT := (sm_mq7 162 rfl rfl)
theorem cy_mo_putZone : (q_mo_putZone.1.cls ≠ "java/lang/invoke/MethodHandle" ∧ q_mo_putZone.1.cls ≠ "java/lang/invoke/VarHandle" ∧ (parseMethodDescriptor q_mo_putZone.1.desc).map (fun d => d.parameters.length) = some 3) ∧ Nat.ble q_mo_putZone.2.2.1 45 = true := ⟨⟨by decide +kernel, by decide +kernel, by decide +kernel⟩, rfl⟩
theorem cx_mo_putZone : Cond.instanceMethod q_mo_putZone.1 ∈ sm_LT ∧ Cond.selects q_mo_putZone.1.cls q_mo_putZone.1 q_mo_putZone.1 ∈ sm_LT := ⟨(sm_mq7 161 (by decide +kernel) rfl), (sm_ms7 (q := (q_mo_putZone.1, 35)) 13 (by decide +kernel))⟩
theorem cw_mo_raiseAlarms : Cond.code q_mo_raiseAlarms.1 q_mo_raiseAlarms.2.1 q_mo_raiseAlarms.2.2.1 q_mo_raiseAlarms.2.2.2 ∈ sm_LT := (sm_mq7 170 rfl rfl)
theorem cy_mo_raiseAlarms : (q_mo_raiseAlarms.1.cls ≠ "java/lang/invoke/MethodHandle" ∧ q_mo_raiseAlarms.1.cls ≠ "java/lang/invoke/VarHandle" ∧ (parseMethodDescriptor q_mo_raiseAlarms.1.desc).map (fun d => d.parameters.length) = some 0) ∧ Nat.ble q_mo_raiseAlarms.2.2.1 45 = true := ⟨⟨by decide +kernel, by decide +kernel, by decide +kernel⟩, rfl⟩
theorem cx_mo_raiseAlarms : Cond.instanceMethod q_mo_raiseAlarms.1 ∈ sm_LT ∧ Cond.selects q_mo_raiseAlarms.1.cls q_mo_raiseAlarms.1 q_mo_raiseAlarms.1 ∈ sm_LT := ⟨(sm_mq7 169 (by decide +kernel) rfl), (sm_ms7 (q := (q_mo_raiseAlarms.1, 35)) 15 (by decide +kernel))⟩
theorem cw_mo_readAction : Cond.code q_mo_readAction.1 q_mo_readAction.2.1 q_mo_readAction.2.2.1 q_mo_readAction.2.2.2 ∈ sm_LT := (sm_mq6 236 rfl rfl)
theorem cy_mo_readAction : (q_mo_readAction.1.cls ≠ "java/lang/invoke/MethodHandle" ∧ q_mo_readAction.1.cls ≠ "java/lang/invoke/VarHandle" ∧ (parseMethodDescriptor q_mo_readAction.1.desc).map (fun d => d.parameters.length) = some 1) ∧ Nat.ble q_mo_readAction.2.2.1 45 = true := ⟨⟨by decide +kernel, by decide +kernel, by decide +kernel⟩, rfl⟩
theorem cx_mo_readAction : Cond.instanceMethod q_mo_readAction.1 ∈ sm_LT ∧ Cond.selects q_mo_readAction.1.cls q_mo_readAction.1 q_mo_readAction.1 ∈ sm_LT := ⟨(sm_mq6 235 (by decide +kernel) rfl), (sm_ms5 (q := (q_mo_readAction.1, 35)) 11 (by decide +kernel))⟩
theorem cw_mo_readCondition : Cond.code q_mo_readCondition.1 q_mo_readCondition.2.1 q_mo_readCondition.2.2.1 q_mo_readCondition.2.2.2 ∈ sm_LT := (sm_mq6 179 rfl rfl)
theorem cy_mo_readCondition : (q_mo_readCondition.1.cls ≠ "java/lang/invoke/MethodHandle" ∧ q_mo_readCondition.1.cls ≠ "java/lang/invoke/VarHandle" ∧ (parseMethodDescriptor q_mo_readCondition.1.desc).map (fun d => d.parameters.length) = some 0) ∧ Nat.ble q_mo_readCondition.2.2.1 45 = true := ⟨⟨by decide +kernel, by decide +kernel, by decide +kernel⟩, rfl⟩
theorem cx_mo_readCondition : Cond.instanceMethod q_mo_readCondition.1 ∈ sm_LT ∧ Cond.selects q_mo_readCondition.1.cls q_mo_readCondition.1 q_mo_readCondition.1 ∈ sm_LT := ⟨(sm_mq6 178 (by decide +kernel) rfl), (sm_ms5 (q := (q_mo_readCondition.1, 35)) 0 (by decide +kernel))⟩
theorem cw_mo_readDamper : Cond.code q_mo_readDamper.1 q_mo_readDamper.2.1 q_mo_readDamper.2.2.1 q_mo_readDamper.2.2.2 ∈ sm_LT := (sm_mq6 145 rfl rfl)
theorem cy_mo_readDamper : (q_mo_readDamper.1.cls ≠ "java/lang/invoke/MethodHandle" ∧ q_mo_readDamper.1.cls ≠ "java/lang/invoke/VarHandle" ∧ (parseMethodDescriptor q_mo_readDamper.1.desc).map (fun d => d.parameters.length) = some 0) ∧ Nat.ble q_mo_readDamper.2.2.1 45 = true := ⟨⟨by decide +kernel, by decide +kernel, by decide +kernel⟩, rfl⟩
theorem cx_mo_readDamper : Cond.instanceMethod q_mo_readDamper.1 ∈ sm_LT ∧ Cond.selects q_mo_readDamper.1.cls q_mo_readDamper.1 q_mo_readDamper.1 ∈ sm_LT := ⟨(sm_mq6 144 (by decide +kernel) rfl), (sm_ms4 (q := (q_mo_readDamper.1, 35)) 10 (by decide +kernel))⟩
theorem cw_mo_readDoor : Cond.code q_mo_readDoor.1 q_mo_readDoor.2.1 q_mo_readDoor.2.2.1 q_mo_readDoor.2.2.2 ∈ sm_LT := (sm_mq6 170 rfl rfl)
theorem cy_mo_readDoor : (q_mo_readDoor.1.cls ≠ "java/lang/invoke/MethodHandle" ∧ q_mo_readDoor.1.cls ≠ "java/lang/invoke/VarHandle" ∧ (parseMethodDescriptor q_mo_readDoor.1.desc).map (fun d => d.parameters.length) = some 0) ∧ Nat.ble q_mo_readDoor.2.2.1 45 = true := ⟨⟨by decide +kernel, by decide +kernel, by decide +kernel⟩, rfl⟩
theorem cx_mo_readDoor : Cond.instanceMethod q_mo_readDoor.1 ∈ sm_LT ∧ Cond.selects q_mo_readDoor.1.cls q_mo_readDoor.1 q_mo_readDoor.1 ∈ sm_LT := ⟨(sm_mq6 169 (by decide +kernel) rfl), (sm_ms4 (q := (q_mo_readDoor.1, 35)) 14 (by decide +kernel))⟩
theorem cw_mo_readFan : Cond.code q_mo_readFan.1 q_mo_readFan.2.1 q_mo_readFan.2.2.1 q_mo_readFan.2.2.2 ∈ sm_LT := (sm_mq6 162 rfl rfl)
theorem cy_mo_readFan : (q_mo_readFan.1.cls ≠ "java/lang/invoke/MethodHandle" ∧ q_mo_readFan.1.cls ≠ "java/lang/invoke/VarHandle" ∧ (parseMethodDescriptor q_mo_readFan.1.desc).map (fun d => d.parameters.length) = some 0) ∧ Nat.ble q_mo_readFan.2.2.1 45 = true := ⟨⟨by decide +kernel, by decide +kernel, by decide +kernel⟩, rfl⟩
theorem cx_mo_readFan : Cond.instanceMethod q_mo_readFan.1 ∈ sm_LT ∧ Cond.selects q_mo_readFan.1.cls q_mo_readFan.1 q_mo_readFan.1 ∈ sm_LT := ⟨(sm_mq6 161 (by decide +kernel) rfl), (sm_ms4 (q := (q_mo_readFan.1, 35)) 13 (by decide +kernel))⟩
theorem cw_mo_readItem : Cond.code q_mo_readItem.1 q_mo_readItem.2.1 q_mo_readItem.2.2.1 q_mo_readItem.2.2.2 ∈ sm_LT := (sm_mq6 105 rfl rfl)
theorem cy_mo_readItem : (q_mo_readItem.1.cls ≠ "java/lang/invoke/MethodHandle" ∧ q_mo_readItem.1.cls ≠ "java/lang/invoke/VarHandle" ∧ (parseMethodDescriptor q_mo_readItem.1.desc).map (fun d => d.parameters.length) = some 0) ∧ Nat.ble q_mo_readItem.2.2.1 45 = true := ⟨⟨by decide +kernel, by decide +kernel, by decide +kernel⟩, rfl⟩
theorem cx_mo_readItem : Cond.instanceMethod q_mo_readItem.1 ∈ sm_LT ∧ Cond.selects q_mo_readItem.1.cls q_mo_readItem.1 q_mo_readItem.1 ∈ sm_LT := ⟨(sm_mq6 104 (by decide +kernel) rfl), (sm_ms4 (q := (q_mo_readItem.1, 35)) 3 (by decide +kernel))⟩
theorem cw_mo_readKeyword : Cond.code q_mo_readKeyword.1 q_mo_readKeyword.2.1 q_mo_readKeyword.2.2.1 q_mo_readKeyword.2.2.2 ∈ sm_LT := (sm_mq6 157 rfl rfl)
theorem cy_mo_readKeyword : (q_mo_readKeyword.1.cls ≠ "java/lang/invoke/MethodHandle" ∧ q_mo_readKeyword.1.cls ≠ "java/lang/invoke/VarHandle" ∧ (parseMethodDescriptor q_mo_readKeyword.1.desc).map (fun d => d.parameters.length) = some 1) ∧ Nat.ble q_mo_readKeyword.2.2.1 45 = true := ⟨⟨by decide +kernel, by decide +kernel, by decide +kernel⟩, rfl⟩
theorem cx_mo_readKeyword : Cond.instanceMethod q_mo_readKeyword.1 ∈ sm_LT ∧ Cond.selects q_mo_readKeyword.1.cls q_mo_readKeyword.1 q_mo_readKeyword.1 ∈ sm_LT := ⟨(sm_mq6 156 (by decide +kernel) rfl), (sm_ms4 (q := (q_mo_readKeyword.1, 35)) 12 (by decide +kernel))⟩
theorem cw_mo_readKind : Cond.code q_mo_readKind.1 q_mo_readKind.2.1 q_mo_readKind.2.2.1 q_mo_readKind.2.2.2 ∈ sm_LT := (sm_mq6 149 rfl rfl)
theorem cy_mo_readKind : (q_mo_readKind.1.cls ≠ "java/lang/invoke/MethodHandle" ∧ q_mo_readKind.1.cls ≠ "java/lang/invoke/VarHandle" ∧ (parseMethodDescriptor q_mo_readKind.1.desc).map (fun d => d.parameters.length) = some 1) ∧ Nat.ble q_mo_readKind.2.2.1 45 = true := ⟨⟨by decide +kernel, by decide +kernel, by decide +kernel⟩, rfl⟩
theorem cx_mo_readKind : Cond.instanceMethod q_mo_readKind.1 ∈ sm_LT ∧ Cond.selects q_mo_readKind.1.cls q_mo_readKind.1 q_mo_readKind.1 ∈ sm_LT := ⟨(sm_mq6 148 (by decide +kernel) rfl), (sm_ms4 (q := (q_mo_readKind.1, 35)) 11 (by decide +kernel))⟩
theorem cw_mo_readNumber : Cond.code q_mo_readNumber.1 q_mo_readNumber.2.1 q_mo_readNumber.2.2.1 q_mo_readNumber.2.2.2 ∈ sm_LT := (sm_mq6 135 rfl rfl)
theorem cy_mo_readNumber : (q_mo_readNumber.1.cls ≠ "java/lang/invoke/MethodHandle" ∧ q_mo_readNumber.1.cls ≠ "java/lang/invoke/VarHandle" ∧ (parseMethodDescriptor q_mo_readNumber.1.desc).map (fun d => d.parameters.length) = some 2) ∧ Nat.ble q_mo_readNumber.2.2.1 45 = true := ⟨⟨by decide +kernel, by decide +kernel, by decide +kernel⟩, rfl⟩
theorem cx_mo_readNumber : Cond.instanceMethod q_mo_readNumber.1 ∈ sm_LT ∧ Cond.selects q_mo_readNumber.1.cls q_mo_readNumber.1 q_mo_readNumber.1 ∈ sm_LT := ⟨(sm_mq6 134 (by decide +kernel) rfl), (sm_ms4 (q := (q_mo_readNumber.1, 35)) 9 (by decide +kernel))⟩
theorem cw_mo_readOpenings : Cond.code q_mo_readOpenings.1 q_mo_readOpenings.2.1 q_mo_readOpenings.2.2.1 q_mo_readOpenings.2.2.2 ∈ sm_LT := (sm_mq6 183 rfl rfl)
theorem cy_mo_readOpenings : (q_mo_readOpenings.1.cls ≠ "java/lang/invoke/MethodHandle" ∧ q_mo_readOpenings.1.cls ≠ "java/lang/invoke/VarHandle" ∧ (parseMethodDescriptor q_mo_readOpenings.1.desc).map (fun d => d.parameters.length) = some 0) ∧ Nat.ble q_mo_readOpenings.2.2.1 45 = true := ⟨⟨by decide +kernel, by decide +kernel, by decide +kernel⟩, rfl⟩
theorem cx_mo_readOpenings : Cond.instanceMethod q_mo_readOpenings.1 ∈ sm_LT ∧ Cond.selects q_mo_readOpenings.1.cls q_mo_readOpenings.1 q_mo_readOpenings.1 ∈ sm_LT := ⟨(sm_mq6 182 (by decide +kernel) rfl), (sm_ms5 (q := (q_mo_readOpenings.1, 35)) 1 (by decide +kernel))⟩
theorem cw_mo_readPlant : Cond.code q_mo_readPlant.1 q_mo_readPlant.2.1 q_mo_readPlant.2.2.1 q_mo_readPlant.2.2.2 ∈ sm_LT := (sm_mq6 93 rfl rfl)
theorem cy_mo_readPlant : (q_mo_readPlant.1.cls ≠ "java/lang/invoke/MethodHandle" ∧ q_mo_readPlant.1.cls ≠ "java/lang/invoke/VarHandle" ∧ (parseMethodDescriptor q_mo_readPlant.1.desc).map (fun d => d.parameters.length) = some 0) ∧ Nat.ble q_mo_readPlant.2.2.1 45 = true := ⟨⟨by decide +kernel, by decide +kernel, by decide +kernel⟩, rfl⟩
theorem cx_mo_readPlant : Cond.instanceMethod q_mo_readPlant.1 ∈ sm_LT ∧ Cond.selects q_mo_readPlant.1.cls q_mo_readPlant.1 q_mo_readPlant.1 ∈ sm_LT := ⟨(sm_mq6 92 (by decide +kernel) rfl), (sm_ms4 (q := (q_mo_readPlant.1, 35)) 0 (by decide +kernel))⟩
theorem cw_mo_readRule : Cond.code q_mo_readRule.1 q_mo_readRule.2.1 q_mo_readRule.2.2.1 q_mo_readRule.2.2.2 ∈ sm_LT := (sm_mq6 175 rfl rfl)
theorem cy_mo_readRule : (q_mo_readRule.1.cls ≠ "java/lang/invoke/MethodHandle" ∧ q_mo_readRule.1.cls ≠ "java/lang/invoke/VarHandle" ∧ (parseMethodDescriptor q_mo_readRule.1.desc).map (fun d => d.parameters.length) = some 0) ∧ Nat.ble q_mo_readRule.2.2.1 45 = true := ⟨⟨by decide +kernel, by decide +kernel, by decide +kernel⟩, rfl⟩
theorem cx_mo_readRule : Cond.instanceMethod q_mo_readRule.1 ∈ sm_LT ∧ Cond.selects q_mo_readRule.1.cls q_mo_readRule.1 q_mo_readRule.1 ∈ sm_LT := ⟨(sm_mq6 174 (by decide +kernel) rfl), (sm_ms4 (q := (q_mo_readRule.1, 35)) 15 (by decide +kernel))⟩
theorem cw_mo_readSetting : Cond.code q_mo_readSetting.1 q_mo_readSetting.2.1 q_mo_readSetting.2.2.1 q_mo_readSetting.2.2.2 ∈ sm_LT := (sm_mq6 131 rfl rfl)
theorem cy_mo_readSetting : (q_mo_readSetting.1.cls ≠ "java/lang/invoke/MethodHandle" ∧ q_mo_readSetting.1.cls ≠ "java/lang/invoke/VarHandle" ∧ (parseMethodDescriptor q_mo_readSetting.1.desc).map (fun d => d.parameters.length) = some 3) ∧ Nat.ble q_mo_readSetting.2.2.1 45 = true := ⟨⟨by decide +kernel, by decide +kernel, by decide +kernel⟩, rfl⟩
theorem cx_mo_readSetting : Cond.instanceMethod q_mo_readSetting.1 ∈ sm_LT ∧ Cond.selects q_mo_readSetting.1.cls q_mo_readSetting.1 q_mo_readSetting.1 ∈ sm_LT := ⟨(sm_mq6 130 (by decide +kernel) rfl), (sm_ms4 (q := (q_mo_readSetting.1, 35)) 8 (by decide +kernel))⟩
theorem cw_mo_readSign : Cond.code q_mo_readSign.1 q_mo_readSign.2.1 q_mo_readSign.2.2.1 q_mo_readSign.2.2.2 ∈ sm_LT := (sm_mq7 11 rfl rfl)
theorem cy_mo_readSign : (q_mo_readSign.1.cls ≠ "java/lang/invoke/MethodHandle" ∧ q_mo_readSign.1.cls ≠ "java/lang/invoke/VarHandle" ∧ (parseMethodDescriptor q_mo_readSign.1.desc).map (fun d => d.parameters.length) = some 1) ∧ Nat.ble q_mo_readSign.2.2.1 45 = true := ⟨⟨by decide +kernel, by decide +kernel, by decide +kernel⟩, rfl⟩
theorem cx_mo_readSign : Cond.instanceMethod q_mo_readSign.1 ∈ sm_LT ∧ Cond.selects q_mo_readSign.1.cls q_mo_readSign.1 q_mo_readSign.1 ∈ sm_LT := ⟨(sm_mq7 10 (by decide +kernel) rfl), (sm_ms5 (q := (q_mo_readSign.1, 35)) 13 (by decide +kernel))⟩
theorem cw_mo_readTest : Cond.code q_mo_readTest.1 q_mo_readTest.2.1 q_mo_readTest.2.2.1 q_mo_readTest.2.2.2 ∈ sm_LT := (sm_mq6 200 rfl rfl)
theorem cy_mo_readTest : (q_mo_readTest.1.cls ≠ "java/lang/invoke/MethodHandle" ∧ q_mo_readTest.1.cls ≠ "java/lang/invoke/VarHandle" ∧ (parseMethodDescriptor q_mo_readTest.1.desc).map (fun d => d.parameters.length) = some 0) ∧ Nat.ble q_mo_readTest.2.2.1 45 = true := ⟨⟨by decide +kernel, by decide +kernel, by decide +kernel⟩, rfl⟩
theorem cx_mo_readTest : Cond.instanceMethod q_mo_readTest.1 ∈ sm_LT ∧ Cond.selects q_mo_readTest.1.cls q_mo_readTest.1 q_mo_readTest.1 ∈ sm_LT := ⟨(sm_mq6 199 (by decide +kernel) rfl), (sm_ms5 (q := (q_mo_readTest.1, 35)) 5 (by decide +kernel))⟩
theorem cw_mo_readTestOf : Cond.code q_mo_readTestOf.1 q_mo_readTestOf.2.1 q_mo_readTestOf.2.2.1 q_mo_readTestOf.2.2.2 ∈ sm_LT := (sm_mq6 205 rfl rfl)
theorem cy_mo_readTestOf : (q_mo_readTestOf.1.cls ≠ "java/lang/invoke/MethodHandle" ∧ q_mo_readTestOf.1.cls ≠ "java/lang/invoke/VarHandle" ∧ (parseMethodDescriptor q_mo_readTestOf.1.desc).map (fun d => d.parameters.length) = some 2) ∧ Nat.ble q_mo_readTestOf.2.2.1 45 = true := ⟨⟨by decide +kernel, by decide +kernel, by decide +kernel⟩, rfl⟩
theorem cx_mo_readTestOf : Cond.instanceMethod q_mo_readTestOf.1 ∈ sm_LT ∧ Cond.selects q_mo_readTestOf.1.cls q_mo_readTestOf.1 q_mo_readTestOf.1 ∈ sm_LT := ⟨(sm_mq6 204 (by decide +kernel) rfl), (sm_ms5 (q := (q_mo_readTestOf.1, 35)) 6 (by decide +kernel))⟩
theorem cw_mo_readWord : Cond.code q_mo_readWord.1 q_mo_readWord.2.1 q_mo_readWord.2.2.1 q_mo_readWord.2.2.2 ∈ sm_LT := (sm_mq6 109 rfl rfl)
theorem cy_mo_readWord : (q_mo_readWord.1.cls ≠ "java/lang/invoke/MethodHandle" ∧ q_mo_readWord.1.cls ≠ "java/lang/invoke/VarHandle" ∧ (parseMethodDescriptor q_mo_readWord.1.desc).map (fun d => d.parameters.length) = some 0) ∧ Nat.ble q_mo_readWord.2.2.1 45 = true := ⟨⟨by decide +kernel, by decide +kernel, by decide +kernel⟩, rfl⟩
theorem cx_mo_readWord : Cond.instanceMethod q_mo_readWord.1 ∈ sm_LT ∧ Cond.selects q_mo_readWord.1.cls q_mo_readWord.1 q_mo_readWord.1 ∈ sm_LT := ⟨(sm_mq6 108 (by decide +kernel) rfl), (sm_ms4 (q := (q_mo_readWord.1, 35)) 4 (by decide +kernel))⟩
theorem cw_mo_record : Cond.code q_mo_record.1 q_mo_record.2.1 q_mo_record.2.2.1 q_mo_record.2.2.2 ∈ sm_LT := (sm_mq7 89 rfl rfl)
theorem cy_mo_record : (q_mo_record.1.cls ≠ "java/lang/invoke/MethodHandle" ∧ q_mo_record.1.cls ≠ "java/lang/invoke/VarHandle" ∧ (parseMethodDescriptor q_mo_record.1.desc).map (fun d => d.parameters.length) = some 2) ∧ Nat.ble q_mo_record.2.2.1 45 = true := ⟨⟨by decide +kernel, by decide +kernel, by decide +kernel⟩, rfl⟩
theorem cx_mo_record : Cond.instanceMethod q_mo_record.1 ∈ sm_LT ∧ Cond.selects q_mo_record.1.cls q_mo_record.1 q_mo_record.1 ∈ sm_LT := ⟨(sm_mq7 88 (by decide +kernel) rfl), (sm_ms6 (q := (q_mo_record.1, 35)) 13 (by decide +kernel))⟩
theorem cw_mo_rule : Cond.code q_mo_rule.1 q_mo_rule.2.1 q_mo_rule.2.2.1 q_mo_rule.2.2.2 ∈ sm_LT := (sm_mq7 35 rfl rfl)
theorem cy_mo_rule : (q_mo_rule.1.cls ≠ "java/lang/invoke/MethodHandle" ∧ q_mo_rule.1.cls ≠ "java/lang/invoke/VarHandle" ∧ (parseMethodDescriptor q_mo_rule.1.desc).map (fun d => d.parameters.length) = some 0) ∧ Nat.ble q_mo_rule.2.2.1 45 = true := ⟨⟨by decide +kernel, by decide +kernel, by decide +kernel⟩, rfl⟩
theorem cx_mo_rule : Cond.instanceMethod q_mo_rule.1 ∈ sm_LT ∧ Cond.selects q_mo_rule.1.cls q_mo_rule.1 q_mo_rule.1 ∈ sm_LT := ⟨(sm_mq7 34 (by decide +kernel) rfl), (sm_ms6 (q := (q_mo_rule.1, 35)) 1 (by decide +kernel))⟩
theorem cw_mo_seesWord : Cond.code q_mo_seesWord.1 q_mo_seesWord.2.1 q_mo_seesWord.2.2.1 q_mo_seesWord.2.2.2 ∈ sm_LT := (sm_mq6 113 rfl rfl)
theorem cy_mo_seesWord : (q_mo_seesWord.1.cls ≠ "java/lang/invoke/MethodHandle" ∧ q_mo_seesWord.1.cls ≠ "java/lang/invoke/VarHandle" ∧ (parseMethodDescriptor q_mo_seesWord.1.desc).map (fun d => d.parameters.length) = some 0) ∧ Nat.ble q_mo_seesWord.2.2.1 45 = true := ⟨⟨by decide +kernel, by decide +kernel, by decide +kernel⟩, rfl⟩
theorem cx_mo_seesWord : Cond.instanceMethod q_mo_seesWord.1 ∈ sm_LT ∧ Cond.selects q_mo_seesWord.1.cls q_mo_seesWord.1 q_mo_seesWord.1 ∈ sm_LT := ⟨(sm_mq6 112 (by decide +kernel) rfl), (sm_ms4 (q := (q_mo_seesWord.1, 35)) 5 (by decide +kernel))⟩
theorem cw_mo_set : Cond.code q_mo_set.1 q_mo_set.2.1 q_mo_set.2.2.1 q_mo_set.2.2.2 ∈ sm_LT := (sm_mq7 222 rfl rfl)
theorem cy_mo_set : (q_mo_set.1.cls ≠ "java/lang/invoke/MethodHandle" ∧ q_mo_set.1.cls ≠ "java/lang/invoke/VarHandle" ∧ (parseMethodDescriptor q_mo_set.1.desc).map (fun d => d.parameters.length) = some 3) ∧ Nat.ble q_mo_set.2.2.1 45 = true := ⟨⟨by decide +kernel, by decide +kernel, by decide +kernel⟩, rfl⟩
theorem cx_mo_set : Cond.instanceMethod q_mo_set.1 ∈ sm_LT ∧ Cond.selects q_mo_set.1.cls q_mo_set.1 q_mo_set.1 ∈ sm_LT := ⟨(sm_mq7 221 (by decide +kernel) rfl), (sm_ms8 (q := (q_mo_set.1, 35)) 5 (by decide +kernel))⟩
theorem cw_mo_settle : Cond.code q_mo_settle.1 q_mo_settle.2.1 q_mo_settle.2.2.1 q_mo_settle.2.2.2 ∈ sm_LT := (sm_mq6 222 rfl rfl)
theorem cy_mo_settle : (q_mo_settle.1.cls ≠ "java/lang/invoke/MethodHandle" ∧ q_mo_settle.1.cls ≠ "java/lang/invoke/VarHandle" ∧ (parseMethodDescriptor q_mo_settle.1.desc).map (fun d => d.parameters.length) = some 1) ∧ Nat.ble q_mo_settle.2.2.1 45 = true := ⟨⟨by decide +kernel, by decide +kernel, by decide +kernel⟩, rfl⟩
theorem cx_mo_settle : Cond.instanceMethod q_mo_settle.1 ∈ sm_LT ∧ Cond.selects q_mo_settle.1.cls q_mo_settle.1 q_mo_settle.1 ∈ sm_LT := ⟨(sm_mq6 221 (by decide +kernel) rfl), (sm_ms5 (q := (q_mo_settle.1, 35)) 9 (by decide +kernel))⟩
theorem cw_mo_smokeWith : Cond.code q_mo_smokeWith.1 q_mo_smokeWith.2.1 q_mo_smokeWith.2.2.1 q_mo_smokeWith.2.2.2 ∈ sm_LT := (sm_mq8 94 rfl rfl)
theorem cy_mo_smokeWith : (q_mo_smokeWith.1.cls ≠ "java/lang/invoke/MethodHandle" ∧ q_mo_smokeWith.1.cls ≠ "java/lang/invoke/VarHandle" ∧ (parseMethodDescriptor q_mo_smokeWith.1.desc).map (fun d => d.parameters.length) = some 3) ∧ Nat.ble q_mo_smokeWith.2.2.1 45 = true := ⟨⟨by decide +kernel, by decide +kernel, by decide +kernel⟩, rfl⟩
theorem cx_mo_smokeWith : Cond.instanceMethod q_mo_smokeWith.1 ∈ sm_LT ∧ Cond.selects q_mo_smokeWith.1.cls q_mo_smokeWith.1 q_mo_smokeWith.1 ∈ sm_LT := ⟨(sm_mq8 93 (by decide +kernel) rfl), (sm_ms8 (q := (q_mo_smokeWith.1, 35)) 11 (by decide +kernel))⟩
theorem cw_mo_sourceOf : Cond.code q_mo_sourceOf.1 q_mo_sourceOf.2.1 q_mo_sourceOf.2.2.1 q_mo_sourceOf.2.2.2 ∈ sm_LT := (sm_mq7 78 rfl rfl)
theorem cy_mo_sourceOf : (q_mo_sourceOf.1.cls ≠ "java/lang/invoke/MethodHandle" ∧ q_mo_sourceOf.1.cls ≠ "java/lang/invoke/VarHandle" ∧ (parseMethodDescriptor q_mo_sourceOf.1.desc).map (fun d => d.parameters.length) = some 3) ∧ Nat.ble q_mo_sourceOf.2.2.1 45 = true := ⟨⟨by decide +kernel, by decide +kernel, by decide +kernel⟩, rfl⟩
theorem cx_mo_sourceOf : Cond.static q_mo_sourceOf.1 ∈ sm_LT := (sm_mq7 77 (by decide +kernel) rfl)
theorem cw_mo_spreadSmoke : Cond.code q_mo_spreadSmoke.1 q_mo_spreadSmoke.2.1 q_mo_spreadSmoke.2.2.1 q_mo_spreadSmoke.2.2.2 ∈ sm_LT := (sm_mq7 150 rfl rfl)
theorem cy_mo_spreadSmoke : (q_mo_spreadSmoke.1.cls ≠ "java/lang/invoke/MethodHandle" ∧ q_mo_spreadSmoke.1.cls ≠ "java/lang/invoke/VarHandle" ∧ (parseMethodDescriptor q_mo_spreadSmoke.1.desc).map (fun d => d.parameters.length) = some 0) ∧ Nat.ble q_mo_spreadSmoke.2.2.1 45 = true := ⟨⟨by decide +kernel, by decide +kernel, by decide +kernel⟩, rfl⟩
theorem cx_mo_spreadSmoke : Cond.instanceMethod q_mo_spreadSmoke.1 ∈ sm_LT ∧ Cond.selects q_mo_spreadSmoke.1.cls q_mo_spreadSmoke.1 q_mo_spreadSmoke.1 ∈ sm_LT := ⟨(sm_mq7 149 (by decide +kernel) rfl), (sm_ms7 (q := (q_mo_spreadSmoke.1, 35)) 10 (by decide +kernel))⟩
theorem cw_mo_stairAir : Cond.code q_mo_stairAir.1 q_mo_stairAir.2.1 q_mo_stairAir.2.2.1 q_mo_stairAir.2.2.2 ∈ sm_LT := (sm_mq7 123 rfl rfl)
theorem cy_mo_stairAir : (q_mo_stairAir.1.cls ≠ "java/lang/invoke/MethodHandle" ∧ q_mo_stairAir.1.cls ≠ "java/lang/invoke/VarHandle" ∧ (parseMethodDescriptor q_mo_stairAir.1.desc).map (fun d => d.parameters.length) = some 0) ∧ Nat.ble q_mo_stairAir.2.2.1 45 = true := ⟨⟨by decide +kernel, by decide +kernel, by decide +kernel⟩, rfl⟩
theorem cx_mo_stairAir : Cond.instanceMethod q_mo_stairAir.1 ∈ sm_LT ∧ Cond.selects q_mo_stairAir.1.cls q_mo_stairAir.1 q_mo_stairAir.1 ∈ sm_LT := ⟨(sm_mq7 122 (by decide +kernel) rfl), (sm_ms7 (q := (q_mo_stairAir.1, 35)) 4 (by decide +kernel))⟩
theorem cw_mo_strength : Cond.code q_mo_strength.1 q_mo_strength.2.1 q_mo_strength.2.2.1 q_mo_strength.2.2.2 ∈ sm_LT := (sm_mq6 225 rfl rfl)
theorem cy_mo_strength : (q_mo_strength.1.cls ≠ "java/lang/invoke/MethodHandle" ∧ q_mo_strength.1.cls ≠ "java/lang/invoke/VarHandle" ∧ (parseMethodDescriptor q_mo_strength.1.desc).map (fun d => d.parameters.length) = some 1) ∧ Nat.ble q_mo_strength.2.2.1 45 = true := ⟨⟨by decide +kernel, by decide +kernel, by decide +kernel⟩, rfl⟩
theorem cx_mo_strength : Cond.static q_mo_strength.1 ∈ sm_LT := (sm_mq6 224 (by decide +kernel) rfl)
theorem cw_mo_ticksUntil : Cond.code q_mo_ticksUntil.1 q_mo_ticksUntil.2.1 q_mo_ticksUntil.2.2.1 q_mo_ticksUntil.2.2.2 ∈ sm_LT := (sm_mq8 82 rfl rfl)
theorem cy_mo_ticksUntil : (q_mo_ticksUntil.1.cls ≠ "java/lang/invoke/MethodHandle" ∧ q_mo_ticksUntil.1.cls ≠ "java/lang/invoke/VarHandle" ∧ (parseMethodDescriptor q_mo_ticksUntil.1.desc).map (fun d => d.parameters.length) = some 3) ∧ Nat.ble q_mo_ticksUntil.2.2.1 45 = true := ⟨⟨by decide +kernel, by decide +kernel, by decide +kernel⟩, rfl⟩
theorem cx_mo_ticksUntil : Cond.instanceMethod q_mo_ticksUntil.1 ∈ sm_LT ∧ Cond.selects q_mo_ticksUntil.1.cls q_mo_ticksUntil.1 q_mo_ticksUntil.1 ∈ sm_LT := ⟨(sm_mq8 81 (by decide +kernel) rfl), (sm_ms8 (q := (q_mo_ticksUntil.1, 35)) 9 (by decide +kernel))⟩
theorem cw_mo_zoneIs : Cond.code q_mo_zoneIs.1 q_mo_zoneIs.2.1 q_mo_zoneIs.2.2.1 q_mo_zoneIs.2.2.2 ∈ sm_LT := (sm_mq7 51 rfl rfl)
theorem cy_mo_zoneIs : (q_mo_zoneIs.1.cls ≠ "java/lang/invoke/MethodHandle" ∧ q_mo_zoneIs.1.cls ≠ "java/lang/invoke/VarHandle" ∧ (parseMethodDescriptor q_mo_zoneIs.1.desc).map (fun d => d.parameters.length) = some 2) ∧ Nat.ble q_mo_zoneIs.2.2.1 45 = true := ⟨⟨by decide +kernel, by decide +kernel, by decide +kernel⟩, rfl⟩
theorem cx_mo_zoneIs : Cond.instanceMethod q_mo_zoneIs.1 ∈ sm_LT ∧ Cond.selects q_mo_zoneIs.1.cls q_mo_zoneIs.1 q_mo_zoneIs.1 ∈ sm_LT := ⟨(sm_mq7 50 (by decide +kernel) rfl), (sm_ms6 (q := (q_mo_zoneIs.1, 35)) 5 (by decide +kernel))⟩
theorem cw_ji_bitCount : Cond.code q_ji_bitCount.1 q_ji_bitCount.2.1 q_ji_bitCount.2.2.1 q_ji_bitCount.2.2.2 ∈ sm_LT := (sm_mq4 202 rfl rfl)
theorem cy_ji_bitCount : (q_ji_bitCount.1.cls ≠ "java/lang/invoke/MethodHandle" ∧ q_ji_bitCount.1.cls ≠ "java/lang/invoke/VarHandle" ∧ (parseMethodDescriptor q_ji_bitCount.1.desc).map (fun d => d.parameters.length) = some 1) ∧ Nat.ble q_ji_bitCount.2.2.1 45 = true := ⟨⟨by decide +kernel, by decide +kernel, by decide +kernel⟩, rfl⟩
theorem cx_ji_bitCount : Cond.static q_ji_bitCount.1 ∈ sm_LT := (sm_mq4 201 (by decide +kernel) rfl)
theorem cw_jm_floorMod : Cond.code q_jm_floorMod.1 q_jm_floorMod.2.1 q_jm_floorMod.2.2.1 q_jm_floorMod.2.2.2 ∈ sm_LT := (sm_mq4 57 rfl rfl)
theorem cy_jm_floorMod : (q_jm_floorMod.1.cls ≠ "java/lang/invoke/MethodHandle" ∧ q_jm_floorMod.1.cls ≠ "java/lang/invoke/VarHandle" ∧ (parseMethodDescriptor q_jm_floorMod.1.desc).map (fun d => d.parameters.length) = some 2) ∧ Nat.ble q_jm_floorMod.2.2.1 45 = true := ⟨⟨by decide +kernel, by decide +kernel, by decide +kernel⟩, rfl⟩
theorem cx_jm_floorMod : Cond.static q_jm_floorMod.1 ∈ sm_LT := (sm_mq4 56 (by decide +kernel) rfl)
theorem cw_jm_max : Cond.code q_jm_max.1 q_jm_max.2.1 q_jm_max.2.2.1 q_jm_max.2.2.2 ∈ sm_LT := (sm_mq4 188 rfl rfl)
theorem cy_jm_max : (q_jm_max.1.cls ≠ "java/lang/invoke/MethodHandle" ∧ q_jm_max.1.cls ≠ "java/lang/invoke/VarHandle" ∧ (parseMethodDescriptor q_jm_max.1.desc).map (fun d => d.parameters.length) = some 2) ∧ Nat.ble q_jm_max.2.2.1 45 = true := ⟨⟨by decide +kernel, by decide +kernel, by decide +kernel⟩, rfl⟩
theorem cx_jm_max : Cond.static q_jm_max.1 ∈ sm_LT := (sm_mq4 187 (by decide +kernel) rfl)
theorem cw_jm_min : Cond.code q_jm_min.1 q_jm_min.2.1 q_jm_min.2.2.1 q_jm_min.2.2.2 ∈ sm_LT := (sm_mq4 185 rfl rfl)
theorem cy_jm_min : (q_jm_min.1.cls ≠ "java/lang/invoke/MethodHandle" ∧ q_jm_min.1.cls ≠ "java/lang/invoke/VarHandle" ∧ (parseMethodDescriptor q_jm_min.1.desc).map (fun d => d.parameters.length) = some 2) ∧ Nat.ble q_jm_min.2.2.1 45 = true := ⟨⟨by decide +kernel, by decide +kernel, by decide +kernel⟩, rfl⟩
theorem cx_jm_min : Cond.static q_jm_min.1 ∈ sm_LT := (sm_mq4 184 (by decide +kernel) rfl)
theorem cw_js_charAt : Cond.code q_js_charAt.1 q_js_charAt.2.1 q_js_charAt.2.2.1 q_js_charAt.2.2.2 ∈ sm_LT := (sm_mq3 60 rfl rfl)
theorem cy_js_charAt : (q_js_charAt.1.cls ≠ "java/lang/invoke/MethodHandle" ∧ q_js_charAt.1.cls ≠ "java/lang/invoke/VarHandle" ∧ (parseMethodDescriptor q_js_charAt.1.desc).map (fun d => d.parameters.length) = some 1) ∧ Nat.ble q_js_charAt.2.2.1 45 = true := ⟨⟨by decide +kernel, by decide +kernel, by decide +kernel⟩, rfl⟩
theorem cx_js_charAt : Cond.instanceMethod q_js_charAt.1 ∈ sm_LT ∧ Cond.selects q_js_charAt.1.cls q_js_charAt.1 q_js_charAt.1 ∈ sm_LT := ⟨(sm_mq3 58 (by decide +kernel) rfl), (sm_mq3 59 (by decide +kernel) rfl)⟩
theorem cw_js_checkIndex : Cond.code q_js_checkIndex.1 q_js_checkIndex.2.1 q_js_checkIndex.2.2.1 q_js_checkIndex.2.2.2 ∈ sm_LT := (sm_mq3 70 rfl rfl)
theorem cy_js_checkIndex : (q_js_checkIndex.1.cls ≠ "java/lang/invoke/MethodHandle" ∧ q_js_checkIndex.1.cls ≠ "java/lang/invoke/VarHandle" ∧ (parseMethodDescriptor q_js_checkIndex.1.desc).map (fun d => d.parameters.length) = some 2) ∧ Nat.ble q_js_checkIndex.2.2.1 45 = true := ⟨⟨by decide +kernel, by decide +kernel, by decide +kernel⟩, rfl⟩
theorem cx_js_checkIndex : Cond.static q_js_checkIndex.1 ∈ sm_LT := (sm_mq3 69 (by decide +kernel) rfl)
theorem cw_js_coder : Cond.code q_js_coder.1 q_js_coder.2.1 q_js_coder.2.2.1 q_js_coder.2.2.2 ∈ sm_LT := (sm_mq3 54 rfl rfl)
theorem cy_js_coder : (q_js_coder.1.cls ≠ "java/lang/invoke/MethodHandle" ∧ q_js_coder.1.cls ≠ "java/lang/invoke/VarHandle" ∧ (parseMethodDescriptor q_js_coder.1.desc).map (fun d => d.parameters.length) = some 0) ∧ Nat.ble q_js_coder.2.2.1 45 = true := ⟨⟨by decide +kernel, by decide +kernel, by decide +kernel⟩, rfl⟩
theorem cx_js_coder : Cond.instanceMethod q_js_coder.1 ∈ sm_LT ∧ Cond.selects q_js_coder.1.cls q_js_coder.1 q_js_coder.1 ∈ sm_LT := ⟨(sm_mq3 52 (by decide +kernel) rfl), (sm_mq3 53 (by decide +kernel) rfl)⟩
theorem cw_js_isLatin1 : Cond.code q_js_isLatin1.1 q_js_isLatin1.2.1 q_js_isLatin1.2.2.1 q_js_isLatin1.2.2.2 ∈ sm_LT := (sm_mq3 64 rfl rfl)
theorem cy_js_isLatin1 : (q_js_isLatin1.1.cls ≠ "java/lang/invoke/MethodHandle" ∧ q_js_isLatin1.1.cls ≠ "java/lang/invoke/VarHandle" ∧ (parseMethodDescriptor q_js_isLatin1.1.desc).map (fun d => d.parameters.length) = some 0) ∧ Nat.ble q_js_isLatin1.2.2.1 45 = true := ⟨⟨by decide +kernel, by decide +kernel, by decide +kernel⟩, rfl⟩
theorem cx_js_isLatin1 : Cond.instanceMethod q_js_isLatin1.1 ∈ sm_LT ∧ Cond.selects q_js_isLatin1.1.cls q_js_isLatin1.1 q_js_isLatin1.1 ∈ sm_LT := ⟨(sm_mq3 62 (by decide +kernel) rfl), (sm_mq3 63 (by decide +kernel) rfl)⟩
theorem cw_js_length : Cond.code q_js_length.1 q_js_length.2.1 q_js_length.2.2.1 q_js_length.2.2.2 ∈ sm_LT := (sm_mq3 50 rfl rfl)
theorem cy_js_length : (q_js_length.1.cls ≠ "java/lang/invoke/MethodHandle" ∧ q_js_length.1.cls ≠ "java/lang/invoke/VarHandle" ∧ (parseMethodDescriptor q_js_length.1.desc).map (fun d => d.parameters.length) = some 0) ∧ Nat.ble q_js_length.2.2.1 45 = true := ⟨⟨by decide +kernel, by decide +kernel, by decide +kernel⟩, rfl⟩
theorem cx_js_length : Cond.instanceMethod q_js_length.1 ∈ sm_LT ∧ Cond.selects q_js_length.1.cls q_js_length.1 q_js_length.1 ∈ sm_LT := ⟨(sm_mq3 48 (by decide +kernel) rfl), (sm_mq3 49 (by decide +kernel) rfl)⟩
theorem cw_jl_charAt : Cond.code q_jl_charAt.1 q_jl_charAt.2.1 q_jl_charAt.2.2.1 q_jl_charAt.2.2.2 ∈ sm_LT := (sm_mq3 67 rfl rfl)
theorem cy_jl_charAt : (q_jl_charAt.1.cls ≠ "java/lang/invoke/MethodHandle" ∧ q_jl_charAt.1.cls ≠ "java/lang/invoke/VarHandle" ∧ (parseMethodDescriptor q_jl_charAt.1.desc).map (fun d => d.parameters.length) = some 2) ∧ Nat.ble q_jl_charAt.2.2.1 45 = true := ⟨⟨by decide +kernel, by decide +kernel, by decide +kernel⟩, rfl⟩
theorem cx_jl_charAt : Cond.static q_jl_charAt.1 ∈ sm_LT := (sm_mq3 66 (by decide +kernel) rfl)
theorem cw_ja_fill : Cond.code q_ja_fill.1 q_ja_fill.2.1 q_ja_fill.2.2.1 q_ja_fill.2.2.2 ∈ sm_LT := (sm_mq2 68 rfl rfl)
theorem cy_ja_fill : (q_ja_fill.1.cls ≠ "java/lang/invoke/MethodHandle" ∧ q_ja_fill.1.cls ≠ "java/lang/invoke/VarHandle" ∧ (parseMethodDescriptor q_ja_fill.1.desc).map (fun d => d.parameters.length) = some 2) ∧ Nat.ble q_ja_fill.2.2.1 45 = true := ⟨⟨by decide +kernel, by decide +kernel, by decide +kernel⟩, rfl⟩
theorem cx_ja_fill : Cond.static q_ja_fill.1 ∈ sm_LT := (sm_mq2 67 (by decide +kernel) rfl)
theorem cw_jp_checkIndex : Cond.code q_jp_checkIndex.1 q_jp_checkIndex.2.1 q_jp_checkIndex.2.2.1 q_jp_checkIndex.2.2.2 ∈ sm_LT := (sm_mq3 75 rfl rfl)
theorem cy_jp_checkIndex : (q_jp_checkIndex.1.cls ≠ "java/lang/invoke/MethodHandle" ∧ q_jp_checkIndex.1.cls ≠ "java/lang/invoke/VarHandle" ∧ (parseMethodDescriptor q_jp_checkIndex.1.desc).map (fun d => d.parameters.length) = some 3) ∧ Nat.ble q_jp_checkIndex.2.2.1 45 = true := ⟨⟨by decide +kernel, by decide +kernel, by decide +kernel⟩, rfl⟩
theorem cx_jp_checkIndex : Cond.static q_jp_checkIndex.1 ∈ sm_LT := (sm_mq3 74 (by decide +kernel) rfl)
theorem cvn_al_39 : sm_CN "SmokeControl$Alarms" 39 q_sc_has 2 := ⟨⟨List.mem_of_getElem? (i := 14) rfl, cx_sc_has, ini_sc, cw_sc_has⟩, cy_sc_has.1, cy_sc_has.2⟩
theorem cvn_al_43 : sm_CN "SmokeControl$Alarms" 43 q_sc_with 3 := ⟨⟨List.mem_of_getElem? (i := 15) rfl, cx_sc_with, ini_sc, cw_sc_with⟩, cy_sc_with.1, cy_sc_with.2⟩
theorem cvn_co_40 : sm_CN "SmokeControl$Commands" 40 q_sc_has 2 := ⟨⟨List.mem_of_getElem? (i := 10) rfl, cx_sc_has, ini_sc, cw_sc_has⟩, cy_sc_has.1, cy_sc_has.2⟩
theorem cvn_en_88 : sm_CN "SmokeControl$Engine" 88 q_sc_has 2 := ⟨⟨List.mem_of_getElem? (i := 11) rfl, cx_sc_has, ini_sc, cw_sc_has⟩, cy_sc_has.1, cy_sc_has.2⟩
theorem cvn_lo_32 : sm_CN "SmokeControl$Log" 32 q_sc_copyRow 2 := ⟨⟨List.mem_of_getElem? (i := 17) rfl, cx_sc_copyRow, ini_sc, cw_sc_copyRow⟩, cy_sc_copyRow.1, cy_sc_copyRow.2⟩
theorem cvn_pl_69 : sm_CN "SmokeControl$Plant" 69 q_sc_with 3 := ⟨⟨List.mem_of_getElem? (i := 8) rfl, cx_sc_with, ini_sc, cw_sc_with⟩, cy_sc_with.1, cy_sc_with.2⟩
theorem cvn_pl_73 : sm_CN "SmokeControl$Plant" 73 q_sc_has 2 := ⟨⟨List.mem_of_getElem? (i := 13) rfl, cx_sc_has, ini_sc, cw_sc_has⟩, cy_sc_has.1, cy_sc_has.2⟩
theorem cvn_re_167 : sm_CN "SmokeControl$Reader" 167 q_sc_has 2 := ⟨⟨List.mem_of_getElem? (i := 9) rfl, cx_sc_has, ini_sc, cw_sc_has⟩, cy_sc_has.1, cy_sc_has.2⟩
theorem cvn_st_100 : sm_CN "SmokeControl$State" 100 q_sc_has 2 := ⟨⟨List.mem_of_getElem? (i := 5) rfl, cx_sc_has, ini_sc, cw_sc_has⟩, cy_sc_has.1, cy_sc_has.2⟩
theorem cvn_st_107 : sm_CN "SmokeControl$State" 107 q_sc_copyRow 2 := ⟨⟨List.mem_of_getElem? (i := 16) rfl, cx_sc_copyRow, ini_sc, cw_sc_copyRow⟩, cy_sc_copyRow.1, cy_sc_copyRow.2⟩
theorem cvn_st_127 : sm_CN "SmokeControl$State" 127 q_sc_with 3 := ⟨⟨List.mem_of_getElem? (i := 12) rfl, cx_sc_with, ini_sc, cw_sc_with⟩, cy_sc_with.1, cy_sc_with.2⟩
theorem cvs_co_137 : sm_CS "SmokeControl$Commands" 137 q_co_testHolds 3 := ⟨⟨(sm_mq4 103 (by decide +kernel) rfl), cx_co_testHolds, ini_co, cw_co_testHolds⟩, cy_co_testHolds.1, cy_co_testHolds.2⟩
theorem cvs_co_65 : sm_CS "SmokeControl$Commands" 65 q_ja_fill 2 := ⟨⟨(sm_mq4 93 (by decide +kernel) rfl), cx_ja_fill, ini_ja, cw_ja_fill⟩, cy_ja_fill.1, cy_ja_fill.2⟩
theorem cvs_en_114 : sm_CS "SmokeControl$Engine" 114 q_en_changeLevel 3 := ⟨⟨(sm_mq4 158 (by decide +kernel) rfl), cx_en_changeLevel, ini_en, cw_en_changeLevel⟩, cy_en_changeLevel.1, cy_en_changeLevel.2⟩
theorem cvs_en_141 : sm_CS "SmokeControl$Engine" 141 q_jm_max 2 := ⟨⟨(sm_mq4 186 (by decide +kernel) rfl), cx_jm_max, ini_jm, cw_jm_max⟩, cy_jm_max.1, cy_jm_max.2⟩
theorem cvs_en_146 : sm_CS "SmokeControl$Engine" 146 q_jm_min 2 := ⟨⟨(sm_mq4 189 (by decide +kernel) rfl), cx_jm_min, ini_jm, cw_jm_min⟩, cy_jm_min.1, cy_jm_min.2⟩
theorem cvs_en_157 : sm_CS "SmokeControl$Engine" 157 q_ja_fill 2 := ⟨⟨(sm_mq4 199 (by decide +kernel) rfl), cx_ja_fill, ini_ja, cw_ja_fill⟩, cy_ja_fill.1, cy_ja_fill.2⟩
theorem cvs_en_166 : sm_CS "SmokeControl$Engine" 166 q_ji_bitCount 1 := ⟨⟨(sm_mq4 200 (by decide +kernel) rfl), cx_ji_bitCount, ini_ji, cw_ji_bitCount⟩, cy_ji_bitCount.1, cy_ji_bitCount.2⟩
theorem cvs_en_190 : sm_CS "SmokeControl$Engine" 190 q_en_fillStair 2 := ⟨⟨(sm_mq4 211 (by decide +kernel) rfl), cx_en_fillStair, ini_en, cw_en_fillStair⟩, cy_en_fillStair.1, cy_en_fillStair.2⟩
theorem cvs_jl_9 : sm_CS "java/lang/StringLatin1" 9 q_js_checkIndex 2 := ⟨⟨(sm_mq3 68 (by decide +kernel) rfl), cx_js_checkIndex, ini_js, cw_js_checkIndex⟩, cy_js_checkIndex.1, cy_js_checkIndex.2⟩
theorem cvs_js_1059 : sm_CS "java/lang/String" 1059 q_jp_checkIndex 3 := ⟨⟨(sm_mq3 73 (by decide +kernel) rfl), cx_jp_checkIndex, ini_jp, cw_jp_checkIndex⟩, cy_jp_checkIndex.1, cy_jp_checkIndex.2⟩
theorem cvs_js_495 : sm_CS "java/lang/String" 495 q_jl_charAt 2 := ⟨⟨(sm_mq3 65 (by decide +kernel) rfl), cx_jl_charAt, ini_jl, cw_jl_charAt⟩, cy_jl_charAt.1, cy_jl_charAt.2⟩
theorem cvs_lo_23 : sm_CS "SmokeControl$Log" 23 q_jm_floorMod 2 := ⟨⟨(sm_mq4 55 (by decide +kernel) rfl), cx_jm_floorMod, ini_jm, cw_jm_floorMod⟩, cy_jm_floorMod.1, cy_jm_floorMod.2⟩
theorem cvs_lo_29 : sm_CS "SmokeControl$Log" 29 q_jm_min 2 := ⟨⟨(sm_mq5 72 (by decide +kernel) rfl), cx_jm_min, ini_jm, cw_jm_min⟩, cy_jm_min.1, cy_jm_min.2⟩
theorem cvs_mo_122 : sm_CS "SmokeControlModel" 122 q_mo_isLetter 1 := ⟨⟨(sm_mq6 114 (by decide +kernel) rfl), cx_mo_isLetter, ini_mo, cw_mo_isLetter⟩, cy_mo_isLetter.1, cy_mo_isLetter.2⟩
theorem cvs_mo_148 : sm_CS "SmokeControlModel" 148 q_mo_isDigit 1 := ⟨⟨(sm_mq6 136 (by decide +kernel) rfl), cx_mo_isDigit, ini_mo, cw_mo_isDigit⟩, cy_mo_isDigit.1, cy_mo_isDigit.2⟩
theorem cvs_mo_160 : sm_CS "SmokeControlModel" 160 q_mo_strength 1 := ⟨⟨(sm_mq6 223 (by decide +kernel) rfl), cx_mo_strength, ini_mo, cw_mo_strength⟩, cy_mo_strength.1, cy_mo_strength.2⟩
theorem cvs_mo_255 : sm_CS "SmokeControlModel" 255 q_mo_hasBit 2 := ⟨⟨(sm_mq6 163 (by decide +kernel) rfl), cx_mo_hasBit, ini_mo, cw_mo_hasBit⟩, cy_mo_hasBit.1, cy_mo_hasBit.2⟩
theorem cvs_mo_341 : sm_CS "SmokeControlModel" 341 q_mo_sourceOf 3 := ⟨⟨(sm_mq7 76 (by decide +kernel) rfl), cx_mo_sourceOf, ini_mo, cw_mo_sourceOf⟩, cy_mo_sourceOf.1, cy_mo_sourceOf.2⟩
theorem cvs_mo_345 : sm_CS "SmokeControlModel" 345 q_mo_commandOf 5 := ⟨⟨(sm_mq7 79 (by decide +kernel) rfl), cx_mo_commandOf, ini_mo, cw_mo_commandOf⟩, cy_mo_commandOf.1, cy_mo_commandOf.2⟩
theorem cvs_mo_361 : sm_CS "SmokeControlModel" 361 q_mo_lesser 2 := ⟨⟨(sm_mq7 106 (by decide +kernel) rfl), cx_mo_lesser, ini_mo, cw_mo_lesser⟩, cy_mo_lesser.1, cy_mo_lesser.2⟩
theorem cvs_mo_370 : sm_CS "SmokeControlModel" 370 q_mo_greater 2 := ⟨⟨(sm_mq7 109 (by decide +kernel) rfl), cx_mo_greater, ini_mo, cw_mo_greater⟩, cy_mo_greater.1, cy_mo_greater.2⟩
theorem cvs_mo_388 : sm_CS "SmokeControlModel" 388 q_mo_pressureBy 2 := ⟨⟨(sm_mq7 140 (by decide +kernel) rfl), cx_mo_pressureBy, ini_mo, cw_mo_pressureBy⟩, cy_mo_pressureBy.1, cy_mo_pressureBy.2⟩
theorem cvs_mo_477 : sm_CS "SmokeControlModel" 477 q_mo_bits 1 := ⟨⟨(sm_mq8 119 (by decide +kernel) rfl), cx_mo_bits, ini_mo, cw_mo_bits⟩, cy_mo_bits.1, cy_mo_bits.2⟩
theorem cvs_mo_66 : sm_CS "SmokeControlModel" 66 q_mo_clearPlan 1 := ⟨⟨(sm_mq5 185 (by decide +kernel) rfl), cx_mo_clearPlan, ini_mo, cw_mo_clearPlan⟩, cy_mo_clearPlan.1, cy_mo_clearPlan.2⟩
theorem cvs_mo_91 : sm_CS "SmokeControlModel" 91 q_mo_in 3 := ⟨⟨(sm_mq6 87 (by decide +kernel) rfl), cx_mo_in, ini_mo, cw_mo_in⟩, cy_mo_in.1, cy_mo_in.2⟩
theorem cvs_pl_81 : sm_CS "SmokeControl$Plant" 81 q_jm_min 2 := ⟨⟨(sm_mq4 183 (by decide +kernel) rfl), cx_jm_min, ini_jm, cw_jm_min⟩, cy_jm_min.1, cy_jm_min.2⟩
theorem cvs_sc_120 : sm_CS "SmokeControl" 120 q_sc_exchange 3 := ⟨⟨(sm_mq4 15 (by decide +kernel) rfl), cx_sc_exchange, ini_sc, cw_sc_exchange⟩, cy_sc_exchange.1, cy_sc_exchange.2⟩
theorem cvs_sc_133 : sm_CS "SmokeControl" 133 q_sc_with 3 := ⟨⟨(sm_mq4 22 (by decide +kernel) rfl), cx_sc_with, ini_sc, cw_sc_with⟩, cy_sc_with.1, cy_sc_with.2⟩
theorem cvs_sc_173 : sm_CS "SmokeControl" 173 q_sc_setCommand 3 := ⟨⟨(sm_mq4 62 (by decide +kernel) rfl), cx_sc_setCommand, ini_sc, cw_sc_setCommand⟩, cy_sc_setCommand.1, cy_sc_setCommand.2⟩
theorem cvs_sc_189 : sm_CS "SmokeControl" 189 q_ja_fill 2 := ⟨⟨(sm_mq4 229 (by decide +kernel) rfl), cx_ja_fill, ini_ja, cw_ja_fill⟩, cy_ja_fill.1, cy_ja_fill.2⟩
theorem cvs_sc_202 : sm_CS "SmokeControl" 202 q_ji_bitCount 1 := ⟨⟨(sm_mq4 238 (by decide +kernel) rfl), cx_ji_bitCount, ini_ji, cw_ji_bitCount⟩, cy_ji_bitCount.1, cy_ji_bitCount.2⟩
theorem cvs_sc_227 : sm_CS "SmokeControl" 227 q_sc_has 2 := ⟨⟨(sm_mq5 13 (by decide +kernel) rfl), cx_sc_has, ini_sc, cw_sc_has⟩, cy_sc_has.1, cy_sc_has.2⟩
theorem cvs_sc_305 : sm_CS "SmokeControl" 305 q_sc_isNoTrial 1 := ⟨⟨(sm_mq5 85 (by decide +kernel) rfl), cx_sc_isNoTrial, ini_sc, cw_sc_isNoTrial⟩, cy_sc_isNoTrial.1, cy_sc_isNoTrial.2⟩
theorem cvs_sc_336 : sm_CS "SmokeControl" 336 q_jm_min 2 := ⟨⟨(sm_mq5 99 (by decide +kernel) rfl), cx_jm_min, ini_jm, cw_jm_min⟩, cy_jm_min.1, cy_jm_min.2⟩
theorem cvs_st_121 : sm_CS "SmokeControl$State" 121 q_jm_max 2 := ⟨⟨(sm_mq5 132 (by decide +kernel) rfl), cx_jm_max, ini_jm, cw_jm_max⟩, cy_jm_max.1, cy_jm_max.2⟩
theorem cvs_st_81 : sm_CS "SmokeControl$State" 81 q_ja_fill 2 := ⟨⟨(sm_mq2 66 (by decide +kernel) rfl), cx_ja_fill, ini_ja, cw_ja_fill⟩, cy_ja_fill.1, cy_ja_fill.2⟩
theorem cvs_te_38 : sm_CS "SmokeControl$Text" 38 q_te_kindOf 1 := ⟨⟨(sm_mq3 16 (by decide +kernel) rfl), cx_te_kindOf, ini_te, cw_te_kindOf⟩, cy_te_kindOf.1, cy_te_kindOf.2⟩
theorem cvs_te_42 : sm_CS "SmokeControl$Text" 42 q_te_isRun 1 := ⟨⟨(sm_mq3 19 (by decide +kernel) rfl), cx_te_isRun, ini_te, cw_te_isRun⟩, cy_te_isRun.1, cy_te_isRun.2⟩
theorem cvv_al_54 : sm_CV "SmokeControl$Alarms" 54 q_lo_add 3 := ⟨⟨(sm_mq4 224 (by decide +kernel) rfl), cx_lo_add.1, cx_lo_add.2, ini_lo, cw_lo_add⟩, cy_lo_add.1, cy_lo_add.2⟩
theorem cvv_al_60 : sm_CV "SmokeControl$Alarms" 60 q_al_lowest 1 := ⟨⟨(sm_mq4 234 (by decide +kernel) rfl), cx_al_lowest.1, cx_al_lowest.2, ini_al, cw_al_lowest⟩, cy_al_lowest.1, cy_al_lowest.2⟩
theorem cvv_co_105 : sm_CV "SmokeControl$Commands" 105 q_co_act 3 := ⟨⟨(sm_mq4 111 (by decide +kernel) rfl), cx_co_act.1, cx_co_act.2, ini_co, cw_co_act⟩, cy_co_act.1, cy_co_act.2⟩
theorem cvv_co_109 : sm_CV "SmokeControl$Commands" 109 q_co_rule 2 := ⟨⟨(sm_mq4 115 (by decide +kernel) rfl), cx_co_rule.1, cx_co_rule.2, ini_co, cw_co_rule⟩, cy_co_rule.1, cy_co_rule.2⟩
theorem cvv_co_113 : sm_CV "SmokeControl$Commands" 113 q_co_ruleZone 4 := ⟨⟨(sm_mq4 119 (by decide +kernel) rfl), cx_co_ruleZone.1, cx_co_ruleZone.2, ini_co, cw_co_ruleZone⟩, cy_co_ruleZone.1, cy_co_ruleZone.2⟩
theorem cvv_co_123 : sm_CV "SmokeControl$Commands" 123 q_ru_codeStart 1 := ⟨⟨(sm_mq4 98 (by decide +kernel) rfl), cx_ru_codeStart.1, cx_ru_codeStart.2, ini_ru, cw_ru_codeStart⟩, cy_ru_codeStart.1, cy_ru_codeStart.2⟩
theorem cvv_co_27 : sm_CV "SmokeControl$Commands" 27 q_co_followRules 1 := ⟨⟨(sm_mq4 89 (by decide +kernel) rfl), cx_co_followRules.1, cx_co_followRules.2, ini_co, cw_co_followRules⟩, cy_co_followRules.1, cy_co_followRules.2⟩
theorem cvv_co_44 : sm_CV "SmokeControl$Commands" 44 q_co_settle 3 := ⟨⟨(sm_mq4 123 (by decide +kernel) rfl), cx_co_settle.1, cx_co_settle.2, ini_co, cw_co_settle⟩, cy_co_settle.1, cy_co_settle.2⟩
theorem cvv_co_58 : sm_CV "SmokeControl$Commands" 58 q_co_give 3 := ⟨⟨(sm_mq4 127 (by decide +kernel) rfl), cx_co_give.1, cx_co_give.2, ini_co, cw_co_give⟩, cy_co_give.1, cy_co_give.2⟩
theorem cvv_co_88 : sm_CV "SmokeControl$Commands" 88 q_co_holds 2 := ⟨⟨(sm_mq4 94 (by decide +kernel) rfl), cx_co_holds.1, cx_co_holds.2, ini_co, cw_co_holds⟩, cy_co_holds.1, cy_co_holds.2⟩
theorem cvv_co_92 : sm_CV "SmokeControl$Commands" 92 q_ru_actionStart 1 := ⟨⟨(sm_mq4 107 (by decide +kernel) rfl), cx_ru_actionStart.1, cx_ru_actionStart.2, ini_ru, cw_ru_actionStart⟩, cy_ru_actionStart.1, cy_ru_actionStart.2⟩
theorem cvv_en_101 : sm_CV "SmokeControl$Engine" 101 q_st_supervise 5 := ⟨⟨(sm_mq4 136 (by decide +kernel) rfl), cx_st_supervise.1, cx_st_supervise.2, ini_st, cw_st_supervise⟩, cy_st_supervise.1, cy_st_supervise.2⟩
theorem cvv_en_105 : sm_CV "SmokeControl$Engine" 105 q_st_provenOpen 0 := ⟨⟨(sm_mq4 146 (by decide +kernel) rfl), cx_st_provenOpen.1, cx_st_provenOpen.2, ini_st, cw_st_provenOpen⟩, cy_st_provenOpen.1, cy_st_provenOpen.2⟩
theorem cvv_en_111 : sm_CV "SmokeControl$Engine" 111 q_st_hasWay 2 := ⟨⟨(sm_mq4 150 (by decide +kernel) rfl), cx_st_hasWay.1, cx_st_hasWay.2, ini_st, cw_st_hasWay⟩, cy_st_hasWay.1, cy_st_hasWay.2⟩
theorem cvv_en_122 : sm_CV "SmokeControl$Engine" 122 q_lo_add 3 := ⟨⟨(sm_mq4 161 (by decide +kernel) rfl), cx_lo_add.1, cx_lo_add.2, ini_lo, cw_lo_add⟩, cy_lo_add.1, cy_lo_add.2⟩
theorem cvv_en_134 : sm_CV "SmokeControl$Engine" 134 q_pl_pressureOf 2 := ⟨⟨(sm_mq4 174 (by decide +kernel) rfl), cx_pl_pressureOf.1, cx_pl_pressureOf.2, ini_pl, cw_pl_pressureOf⟩, cy_pl_pressureOf.1, cy_pl_pressureOf.2⟩
theorem cvv_en_149 : sm_CV "SmokeControl$Engine" 149 q_en_isStairFanStarted 1 := ⟨⟨(sm_mq4 190 (by decide +kernel) rfl), cx_en_isStairFanStarted.1, cx_en_isStairFanStarted.2, ini_en, cw_en_isStairFanStarted⟩, cy_en_isStairFanStarted.1, cy_en_isStairFanStarted.2⟩
theorem cvv_en_153 : sm_CV "SmokeControl$Engine" 153 q_pl_isStairFan 1 := ⟨⟨(sm_mq4 194 (by decide +kernel) rfl), cx_pl_isStairFan.1, cx_pl_isStairFan.2, ini_pl, cw_pl_isStairFan⟩, cy_pl_isStairFan.1, cy_pl_isStairFan.2⟩
theorem cvv_en_172 : sm_CV "SmokeControl$Engine" 172 q_st_fanAir 1 := ⟨⟨(sm_mq4 206 (by decide +kernel) rfl), cx_st_fanAir.1, cx_st_fanAir.2, ini_st, cw_st_fanAir⟩, cy_st_fanAir.1, cy_st_fanAir.2⟩
theorem cvv_en_193 : sm_CV "SmokeControl$Engine" 193 q_en_flowBetween 3 := ⟨⟨(sm_mq4 214 (by decide +kernel) rfl), cx_en_flowBetween.1, cx_en_flowBetween.2, ini_en, cw_en_flowBetween⟩, cy_en_flowBetween.1, cy_en_flowBetween.2⟩
theorem cvv_en_34 : sm_CV "SmokeControl$Engine" 34 q_co_determine 1 := ⟨⟨(sm_mq4 85 (by decide +kernel) rfl), cx_co_determine.1, cx_co_determine.2, ini_co, cw_co_determine⟩, cy_co_determine.1, cy_co_determine.2⟩
theorem cvv_en_38 : sm_CV "SmokeControl$Engine" 38 q_en_moveDampers 1 := ⟨⟨(sm_mq4 131 (by decide +kernel) rfl), cx_en_moveDampers.1, cx_en_moveDampers.2, ini_en, cw_en_moveDampers⟩, cy_en_moveDampers.1, cy_en_moveDampers.2⟩
theorem cvv_en_41 : sm_CV "SmokeControl$Engine" 41 q_en_runFans 1 := ⟨⟨(sm_mq4 142 (by decide +kernel) rfl), cx_en_runFans.1, cx_en_runFans.2, ini_en, cw_en_runFans⟩, cy_en_runFans.1, cy_en_runFans.2⟩
theorem cvv_en_44 : sm_CV "SmokeControl$Engine" 44 q_st_stairAir 0 := ⟨⟨(sm_mq4 162 (by decide +kernel) rfl), cx_st_stairAir.1, cx_st_stairAir.2, ini_st, cw_st_stairAir⟩, cy_st_stairAir.1, cy_st_stairAir.2⟩
theorem cvv_en_51 : sm_CV "SmokeControl$Engine" 51 q_en_controlPressure 2 := ⟨⟨(sm_mq4 170 (by decide +kernel) rfl), cx_en_controlPressure.1, cx_en_controlPressure.2, ini_en, cw_en_controlPressure⟩, cy_en_controlPressure.1, cy_en_controlPressure.2⟩
theorem cvv_en_55 : sm_CV "SmokeControl$Engine" 55 q_en_divideAir 1 := ⟨⟨(sm_mq4 195 (by decide +kernel) rfl), cx_en_divideAir.1, cx_en_divideAir.2, ini_en, cw_en_divideAir⟩, cy_en_divideAir.1, cy_en_divideAir.2⟩
theorem cvv_en_58 : sm_CV "SmokeControl$Engine" 58 q_en_moveSmoke 2 := ⟨⟨(sm_mq4 207 (by decide +kernel) rfl), cx_en_moveSmoke.1, cx_en_moveSmoke.2, ini_en, cw_en_moveSmoke⟩, cy_en_moveSmoke.1, cy_en_moveSmoke.2⟩
theorem cvv_en_65 : sm_CV "SmokeControl$Engine" 65 q_al_raise 1 := ⟨⟨(sm_mq4 218 (by decide +kernel) rfl), cx_al_raise.1, cx_al_raise.2, ini_al, cw_al_raise⟩, cy_al_raise.1, cy_al_raise.2⟩
theorem cvv_js_335 : sm_CV "java/lang/String" 335 q_js_coder 0 := ⟨⟨(sm_mq3 51 (by decide +kernel) rfl), cx_js_coder.1, cx_js_coder.2, ini_js, cw_js_coder⟩, cy_js_coder.1, cy_js_coder.2⟩
theorem cvv_js_492 : sm_CV "java/lang/String" 492 q_js_isLatin1 0 := ⟨⟨(sm_mq3 61 (by decide +kernel) rfl), cx_js_isLatin1.1, cx_js_isLatin1.2, ini_js, cw_js_isLatin1⟩, cy_js_isLatin1.1, cy_js_isLatin1.2⟩
theorem cvv_mo_111 : sm_CV "SmokeControlModel" 111 q_mo_byteAt 1 := ⟨⟨(sm_mq6 98 (by decide +kernel) rfl), cx_mo_byteAt.1, cx_mo_byteAt.2, ini_mo, cw_mo_byteAt⟩, cy_mo_byteAt.1, cy_mo_byteAt.2⟩
theorem cvv_mo_118 : sm_CV "SmokeControlModel" 118 q_mo_peek 0 := ⟨⟨(sm_mq6 94 (by decide +kernel) rfl), cx_mo_peek.1, cx_mo_peek.2, ini_mo, cw_mo_peek⟩, cy_mo_peek.1, cy_mo_peek.2⟩
theorem cvv_mo_129 : sm_CV "SmokeControlModel" 129 q_mo_fails 2 := ⟨⟨(sm_mq6 117 (by decide +kernel) rfl), cx_mo_fails.1, cx_mo_fails.2, ini_mo, cw_mo_fails⟩, cy_mo_fails.1, cy_mo_fails.2⟩
theorem cvv_mo_141 : sm_CV "SmokeControlModel" 141 q_mo_seesWord 0 := ⟨⟨(sm_mq6 110 (by decide +kernel) rfl), cx_mo_seesWord.1, cx_mo_seesWord.2, ini_mo, cw_mo_seesWord⟩, cy_mo_seesWord.1, cy_mo_seesWord.2⟩
theorem cvv_mo_145 : sm_CV "SmokeControlModel" 145 q_mo_passWord 0 := ⟨⟨(sm_mq6 123 (by decide +kernel) rfl), cx_mo_passWord.1, cx_mo_passWord.2, ini_mo, cw_mo_passWord⟩, cy_mo_passWord.1, cy_mo_passWord.2⟩
theorem cvv_mo_154 : sm_CV "SmokeControlModel" 154 q_mo_passSign 0 := ⟨⟨(sm_mq6 192 (by decide +kernel) rfl), cx_mo_passSign.1, cx_mo_passSign.2, ini_mo, cw_mo_passSign⟩, cy_mo_passSign.1, cy_mo_passSign.2⟩
theorem cvv_mo_163 : sm_CV "SmokeControlModel" 163 q_mo_emit 2 := ⟨⟨(sm_mq6 206 (by decide +kernel) rfl), cx_mo_emit.1, cx_mo_emit.2, ini_mo, cw_mo_emit⟩, cy_mo_emit.1, cy_mo_emit.2⟩
theorem cvv_mo_170 : sm_CV "SmokeControlModel" 170 q_mo_push 1 := ⟨⟨(sm_mq6 188 (by decide +kernel) rfl), cx_mo_push.1, cx_mo_push.2, ini_mo, cw_mo_push⟩, cy_mo_push.1, cy_mo_push.2⟩
theorem cvv_mo_173 : sm_CV "SmokeControlModel" 173 q_mo_opens 1 := ⟨⟨(sm_mq6 184 (by decide +kernel) rfl), cx_mo_opens.1, cx_mo_opens.2, ini_mo, cw_mo_opens⟩, cy_mo_opens.1, cy_mo_opens.2⟩
theorem cvv_mo_178 : sm_CV "SmokeControlModel" 178 q_mo_readNumber 2 := ⟨⟨(sm_mq6 132 (by decide +kernel) rfl), cx_mo_readNumber.1, cx_mo_readNumber.2, ini_mo, cw_mo_readNumber⟩, cy_mo_readNumber.1, cy_mo_readNumber.2⟩
theorem cvv_mo_183 : sm_CV "SmokeControlModel" 183 q_mo_readTestOf 2 := ⟨⟨(sm_mq6 202 (by decide +kernel) rfl), cx_mo_readTestOf.1, cx_mo_readTestOf.2, ini_mo, cw_mo_readTestOf⟩, cy_mo_readTestOf.1, cy_mo_readTestOf.2⟩
theorem cvv_mo_196 : sm_CV "SmokeControlModel" 196 q_mo_settle 1 := ⟨⟨(sm_mq6 219 (by decide +kernel) rfl), cx_mo_settle.1, cx_mo_settle.2, ini_mo, cw_mo_settle⟩, cy_mo_settle.1, cy_mo_settle.2⟩
theorem cvv_mo_199 : sm_CV "SmokeControlModel" 199 q_mo_isInside 0 := ⟨⟨(sm_mq6 226 (by decide +kernel) rfl), cx_mo_isInside.1, cx_mo_isInside.2, ini_mo, cw_mo_isInside⟩, cy_mo_isInside.1, cy_mo_isInside.2⟩
theorem cvv_mo_202 : sm_CV "SmokeControlModel" 202 q_mo_readOpenings 0 := ⟨⟨(sm_mq6 180 (by decide +kernel) rfl), cx_mo_readOpenings.1, cx_mo_readOpenings.2, ini_mo, cw_mo_readOpenings⟩, cy_mo_readOpenings.1, cy_mo_readOpenings.2⟩
theorem cvv_mo_205 : sm_CV "SmokeControlModel" 205 q_mo_readTest 0 := ⟨⟨(sm_mq6 197 (by decide +kernel) rfl), cx_mo_readTest.1, cx_mo_readTest.2, ini_mo, cw_mo_readTest⟩, cy_mo_readTest.1, cy_mo_readTest.2⟩
theorem cvv_mo_208 : sm_CV "SmokeControlModel" 208 q_mo_passClosings 0 := ⟨⟨(sm_mq6 215 (by decide +kernel) rfl), cx_mo_passClosings.1, cx_mo_passClosings.2, ini_mo, cw_mo_passClosings⟩, cy_mo_passClosings.1, cy_mo_passClosings.2⟩
theorem cvv_mo_233 : sm_CV "SmokeControlModel" 233 q_mo_actionHere 0 := ⟨⟨(sm_mq6 237 (by decide +kernel) rfl), cx_mo_actionHere.1, cx_mo_actionHere.2, ini_mo, cw_mo_actionHere⟩, cy_mo_actionHere.1, cy_mo_actionHere.2⟩
theorem cvv_mo_236 : sm_CV "SmokeControlModel" 236 q_mo_readCondition 0 := ⟨⟨(sm_mq6 176 (by decide +kernel) rfl), cx_mo_readCondition.1, cx_mo_readCondition.2, ini_mo, cw_mo_readCondition⟩, cy_mo_readCondition.1, cy_mo_readCondition.2⟩
theorem cvv_mo_239 : sm_CV "SmokeControlModel" 239 q_mo_readAction 1 := ⟨⟨(sm_mq6 233 (by decide +kernel) rfl), cx_mo_readAction.1, cx_mo_readAction.2, ini_mo, cw_mo_readAction⟩, cy_mo_readAction.1, cy_mo_readAction.2⟩
theorem cvv_mo_248 : sm_CV "SmokeControlModel" 248 q_mo_readKind 1 := ⟨⟨(sm_mq6 146 (by decide +kernel) rfl), cx_mo_readKind.1, cx_mo_readKind.2, ini_mo, cw_mo_readKind⟩, cy_mo_readKind.1, cy_mo_readKind.2⟩
theorem cvv_mo_251 : sm_CV "SmokeControlModel" 251 q_mo_readKeyword 1 := ⟨⟨(sm_mq6 154 (by decide +kernel) rfl), cx_mo_readKeyword.1, cx_mo_readKeyword.2, ini_mo, cw_mo_readKeyword⟩, cy_mo_readKeyword.1, cy_mo_readKeyword.2⟩
theorem cvv_mo_258 : sm_CV "SmokeControlModel" 258 q_mo_readWord 0 := ⟨⟨(sm_mq6 106 (by decide +kernel) rfl), cx_mo_readWord.1, cx_mo_readWord.2, ini_mo, cw_mo_readWord⟩, cy_mo_readWord.1, cy_mo_readWord.2⟩
theorem cvv_mo_266 : sm_CV "SmokeControlModel" 266 q_mo_readSetting 3 := ⟨⟨(sm_mq6 128 (by decide +kernel) rfl), cx_mo_readSetting.1, cx_mo_readSetting.2, ini_mo, cw_mo_readSetting⟩, cy_mo_readSetting.1, cy_mo_readSetting.2⟩
theorem cvv_mo_281 : sm_CV "SmokeControlModel" 281 q_mo_readDamper 0 := ⟨⟨(sm_mq6 142 (by decide +kernel) rfl), cx_mo_readDamper.1, cx_mo_readDamper.2, ini_mo, cw_mo_readDamper⟩, cy_mo_readDamper.1, cy_mo_readDamper.2⟩
theorem cvv_mo_286 : sm_CV "SmokeControlModel" 286 q_mo_readFan 0 := ⟨⟨(sm_mq6 159 (by decide +kernel) rfl), cx_mo_readFan.1, cx_mo_readFan.2, ini_mo, cw_mo_readFan⟩, cy_mo_readFan.1, cy_mo_readFan.2⟩
theorem cvv_mo_291 : sm_CV "SmokeControlModel" 291 q_mo_readDoor 0 := ⟨⟨(sm_mq6 167 (by decide +kernel) rfl), cx_mo_readDoor.1, cx_mo_readDoor.2, ini_mo, cw_mo_readDoor⟩, cy_mo_readDoor.1, cy_mo_readDoor.2⟩
theorem cvv_mo_296 : sm_CV "SmokeControlModel" 296 q_mo_readRule 0 := ⟨⟨(sm_mq6 172 (by decide +kernel) rfl), cx_mo_readRule.1, cx_mo_readRule.2, ini_mo, cw_mo_readRule⟩, cy_mo_readRule.1, cy_mo_readRule.2⟩
theorem cvv_mo_299 : sm_CV "SmokeControlModel" 299 q_mo_readItem 0 := ⟨⟨(sm_mq6 102 (by decide +kernel) rfl), cx_mo_readItem.1, cx_mo_readItem.2, ini_mo, cw_mo_readItem⟩, cy_mo_readItem.1, cy_mo_readItem.2⟩
theorem cvv_mo_302 : sm_CV "SmokeControlModel" 302 q_mo_readSign 1 := ⟨⟨(sm_mq7 8 (by decide +kernel) rfl), cx_mo_readSign.1, cx_mo_readSign.2, ini_mo, cw_mo_readSign⟩, cy_mo_readSign.1, cy_mo_readSign.2⟩
theorem cvv_mo_305 : sm_CV "SmokeControlModel" 305 q_mo_readPlant 0 := ⟨⟨(sm_mq6 90 (by decide +kernel) rfl), cx_mo_readPlant.1, cx_mo_readPlant.2, ini_mo, cw_mo_readPlant⟩, cy_mo_readPlant.1, cy_mo_readPlant.2⟩
theorem cvv_mo_308 : sm_CV "SmokeControlModel" 308 q_mo_damperIs 2 := ⟨⟨(sm_mq7 64 (by decide +kernel) rfl), cx_mo_damperIs.1, cx_mo_damperIs.2, ini_mo, cw_mo_damperIs⟩, cy_mo_damperIs.1, cy_mo_damperIs.2⟩
theorem cvv_mo_311 : sm_CV "SmokeControlModel" 311 q_mo_fanIs 2 := ⟨⟨(sm_mq7 52 (by decide +kernel) rfl), cx_mo_fanIs.1, cx_mo_fanIs.2, ini_mo, cw_mo_fanIs⟩, cy_mo_fanIs.1, cy_mo_fanIs.2⟩
theorem cvv_mo_314 : sm_CV "SmokeControlModel" 314 q_mo_zoneIs 2 := ⟨⟨(sm_mq7 48 (by decide +kernel) rfl), cx_mo_zoneIs.1, cx_mo_zoneIs.2, ini_mo, cw_mo_zoneIs⟩, cy_mo_zoneIs.1, cy_mo_zoneIs.2⟩
theorem cvv_mo_317 : sm_CV "SmokeControlModel" 317 q_mo_isAlarm 0 := ⟨⟨(sm_mq7 36 (by decide +kernel) rfl), cx_mo_isAlarm.1, cx_mo_isAlarm.2, ini_mo, cw_mo_isAlarm⟩, cy_mo_isAlarm.1, cy_mo_isAlarm.2⟩
theorem cvv_mo_320 : sm_CV "SmokeControlModel" 320 q_mo_fanOf 2 := ⟨⟨(sm_mq7 56 (by decide +kernel) rfl), cx_mo_fanOf.1, cx_mo_fanOf.2, ini_mo, cw_mo_fanOf⟩, cy_mo_fanOf.1, cy_mo_fanOf.2⟩
theorem cvv_mo_323 : sm_CV "SmokeControlModel" 323 q_mo_isTrouble 0 := ⟨⟨(sm_mq7 60 (by decide +kernel) rfl), cx_mo_isTrouble.1, cx_mo_isTrouble.2, ini_mo, cw_mo_isTrouble⟩, cy_mo_isTrouble.1, cy_mo_isTrouble.2⟩
theorem cvv_mo_326 : sm_CV "SmokeControlModel" 326 q_mo_holds 2 := ⟨⟨(sm_mq7 44 (by decide +kernel) rfl), cx_mo_holds.1, cx_mo_holds.2, ini_mo, cw_mo_holds⟩, cy_mo_holds.1, cy_mo_holds.2⟩
theorem cvv_mo_329 : sm_CV "SmokeControlModel" 329 q_mo_orderDampers 3 := ⟨⟨(sm_mq7 72 (by decide +kernel) rfl), cx_mo_orderDampers.1, cx_mo_orderDampers.2, ini_mo, cw_mo_orderDampers⟩, cy_mo_orderDampers.1, cy_mo_orderDampers.2⟩
theorem cvv_mo_332 : sm_CV "SmokeControlModel" 332 q_mo_isHolding 1 := ⟨⟨(sm_mq7 40 (by decide +kernel) rfl), cx_mo_isHolding.1, cx_mo_isHolding.2, ini_mo, cw_mo_isHolding⟩, cy_mo_isHolding.1, cy_mo_isHolding.2⟩
theorem cvv_mo_335 : sm_CV "SmokeControlModel" 335 q_mo_order 2 := ⟨⟨(sm_mq7 68 (by decide +kernel) rfl), cx_mo_order.1, cx_mo_order.2, ini_mo, cw_mo_order⟩, cy_mo_order.1, cy_mo_order.2⟩
theorem cvv_mo_338 : sm_CV "SmokeControlModel" 338 q_mo_rule 0 := ⟨⟨(sm_mq7 32 (by decide +kernel) rfl), cx_mo_rule.1, cx_mo_rule.2, ini_mo, cw_mo_rule⟩, cy_mo_rule.1, cy_mo_rule.2⟩
theorem cvv_mo_349 : sm_CV "SmokeControlModel" 349 q_mo_isOpen 1 := ⟨⟨(sm_mq7 102 (by decide +kernel) rfl), cx_mo_isOpen.1, cx_mo_isOpen.2, ini_mo, cw_mo_isOpen⟩, cy_mo_isOpen.1, cy_mo_isOpen.2⟩
theorem cvv_mo_352 : sm_CV "SmokeControlModel" 352 q_mo_openOf 1 := ⟨⟨(sm_mq7 98 (by decide +kernel) rfl), cx_mo_openOf.1, cx_mo_openOf.2, ini_mo, cw_mo_openOf⟩, cy_mo_openOf.1, cy_mo_openOf.2⟩
theorem cvv_mo_355 : sm_CV "SmokeControlModel" 355 q_mo_airOf 1 := ⟨⟨(sm_mq7 124 (by decide +kernel) rfl), cx_mo_airOf.1, cx_mo_airOf.2, ini_mo, cw_mo_airOf⟩, cy_mo_airOf.1, cy_mo_airOf.2⟩
theorem cvv_mo_358 : sm_CV "SmokeControlModel" 358 q_mo_doorOf 2 := ⟨⟨(sm_mq7 136 (by decide +kernel) rfl), cx_mo_doorOf.1, cx_mo_doorOf.2, ini_mo, cw_mo_doorOf⟩, cy_mo_doorOf.1, cy_mo_doorOf.2⟩
theorem cvv_mo_364 : sm_CV "SmokeControlModel" 364 q_mo_record 2 := ⟨⟨(sm_mq7 86 (by decide +kernel) rfl), cx_mo_record.1, cx_mo_record.2, ini_mo, cw_mo_record⟩, cy_mo_record.1, cy_mo_record.2⟩
theorem cvv_mo_367 : sm_CV "SmokeControlModel" 367 q_mo_isClear 1 := ⟨⟨(sm_mq7 94 (by decide +kernel) rfl), cx_mo_isClear.1, cx_mo_isClear.2, ini_mo, cw_mo_isClear⟩, cy_mo_isClear.1, cy_mo_isClear.2⟩
theorem cvv_mo_373 : sm_CV "SmokeControlModel" 373 q_mo_putFan 3 := ⟨⟨(sm_mq7 112 (by decide +kernel) rfl), cx_mo_putFan.1, cx_mo_putFan.2, ini_mo, cw_mo_putFan⟩, cy_mo_putFan.1, cy_mo_putFan.2⟩
theorem cvv_mo_376 : sm_CV "SmokeControlModel" 376 q_mo_stairAir 0 := ⟨⟨(sm_mq7 120 (by decide +kernel) rfl), cx_mo_stairAir.1, cx_mo_stairAir.2, ini_mo, cw_mo_stairAir⟩, cy_mo_stairAir.1, cy_mo_stairAir.2⟩
theorem cvv_mo_382 : sm_CV "SmokeControlModel" 382 q_mo_openDoors 0 := ⟨⟨(sm_mq7 128 (by decide +kernel) rfl), cx_mo_openDoors.1, cx_mo_openDoors.2, ini_mo, cw_mo_openDoors⟩, cy_mo_openDoors.1, cy_mo_openDoors.2⟩
theorem cvv_mo_385 : sm_CV "SmokeControlModel" 385 q_mo_areaOf 1 := ⟨⟨(sm_mq7 132 (by decide +kernel) rfl), cx_mo_areaOf.1, cx_mo_areaOf.2, ini_mo, cw_mo_areaOf⟩, cy_mo_areaOf.1, cy_mo_areaOf.2⟩
theorem cvv_mo_391 : sm_CV "SmokeControlModel" 391 q_mo_isStairWanted 0 := ⟨⟨(sm_mq7 143 (by decide +kernel) rfl), cx_mo_isStairWanted.1, cx_mo_isStairWanted.2, ini_mo, cw_mo_isStairWanted⟩, cy_mo_isStairWanted.1, cy_mo_isStairWanted.2⟩
theorem cvv_mo_394 : sm_CV "SmokeControlModel" 394 q_mo_airTo 2 := ⟨⟨(sm_mq7 151 (by decide +kernel) rfl), cx_mo_airTo.1, cx_mo_airTo.2, ini_mo, cw_mo_airTo⟩, cy_mo_airTo.1, cy_mo_airTo.2⟩
theorem cvv_mo_397 : sm_CV "SmokeControlModel" 397 q_mo_drain 2 := ⟨⟨(sm_mq7 155 (by decide +kernel) rfl), cx_mo_drain.1, cx_mo_drain.2, ini_mo, cw_mo_drain⟩, cy_mo_drain.1, cy_mo_drain.2⟩
theorem cvv_mo_400 : sm_CV "SmokeControlModel" 400 q_mo_putZone 3 := ⟨⟨(sm_mq7 159 (by decide +kernel) rfl), cx_mo_putZone.1, cx_mo_putZone.2, ini_mo, cw_mo_putZone⟩, cy_mo_putZone.1, cy_mo_putZone.2⟩
theorem cvv_mo_403 : sm_CV "SmokeControlModel" 403 q_mo_leakSmoke 0 := ⟨⟨(sm_mq7 163 (by decide +kernel) rfl), cx_mo_leakSmoke.1, cx_mo_leakSmoke.2, ini_mo, cw_mo_leakSmoke⟩, cy_mo_leakSmoke.1, cy_mo_leakSmoke.2⟩
theorem cvv_mo_406 : sm_CV "SmokeControlModel" 406 q_mo_decide 0 := ⟨⟨(sm_mq7 28 (by decide +kernel) rfl), cx_mo_decide.1, cx_mo_decide.2, ini_mo, cw_mo_decide⟩, cy_mo_decide.1, cy_mo_decide.2⟩
theorem cvv_mo_409 : sm_CV "SmokeControlModel" 409 q_mo_moveDamper 1 := ⟨⟨(sm_mq7 82 (by decide +kernel) rfl), cx_mo_moveDamper.1, cx_mo_moveDamper.2, ini_mo, cw_mo_moveDamper⟩, cy_mo_moveDamper.1, cy_mo_moveDamper.2⟩
theorem cvv_mo_412 : sm_CV "SmokeControlModel" 412 q_mo_moveFan 1 := ⟨⟨(sm_mq7 90 (by decide +kernel) rfl), cx_mo_moveFan.1, cx_mo_moveFan.2, ini_mo, cw_mo_moveFan⟩, cy_mo_moveFan.1, cy_mo_moveFan.2⟩
theorem cvv_mo_415 : sm_CV "SmokeControlModel" 415 q_mo_pressStair 0 := ⟨⟨(sm_mq7 116 (by decide +kernel) rfl), cx_mo_pressStair.1, cx_mo_pressStair.2, ini_mo, cw_mo_pressStair⟩, cy_mo_pressStair.1, cy_mo_pressStair.2⟩
theorem cvv_mo_418 : sm_CV "SmokeControlModel" 418 q_mo_spreadSmoke 0 := ⟨⟨(sm_mq7 147 (by decide +kernel) rfl), cx_mo_spreadSmoke.1, cx_mo_spreadSmoke.2, ini_mo, cw_mo_spreadSmoke⟩, cy_mo_spreadSmoke.1, cy_mo_spreadSmoke.2⟩
theorem cvv_mo_421 : sm_CV "SmokeControlModel" 421 q_mo_raiseAlarms 0 := ⟨⟨(sm_mq7 167 (by decide +kernel) rfl), cx_mo_raiseAlarms.1, cx_mo_raiseAlarms.2, ini_mo, cw_mo_raiseAlarms⟩, cy_mo_raiseAlarms.1, cy_mo_raiseAlarms.2⟩
theorem cvv_mo_424 : sm_CV "SmokeControlModel" 424 q_mo_pass 0 := ⟨⟨(sm_mq7 24 (by decide +kernel) rfl), cx_mo_pass.1, cx_mo_pass.2, ini_mo, cw_mo_pass⟩, cy_mo_pass.1, cy_mo_pass.2⟩
theorem cvv_mo_427 : sm_CV "SmokeControlModel" 427 q_mo_passTicks 1 := ⟨⟨(sm_mq7 20 (by decide +kernel) rfl), cx_mo_passTicks.1, cx_mo_passTicks.2, ini_mo, cw_mo_passTicks⟩, cy_mo_passTicks.1, cy_mo_passTicks.2⟩
theorem cvv_mo_430 : sm_CV "SmokeControlModel" 430 q_mo_isZone 1 := ⟨⟨(sm_mq7 175 (by decide +kernel) rfl), cx_mo_isZone.1, cx_mo_isZone.2, ini_mo, cw_mo_isZone⟩, cy_mo_isZone.1, cy_mo_isZone.2⟩
theorem cvv_mo_433 : sm_CV "SmokeControlModel" 433 q_mo_flip 2 := ⟨⟨(sm_mq7 183 (by decide +kernel) rfl), cx_mo_flip.1, cx_mo_flip.2, ini_mo, cw_mo_flip⟩, cy_mo_flip.1, cy_mo_flip.2⟩
theorem cvv_mo_437 : sm_CV "SmokeControlModel" 437 q_mo_isDoor 1 := ⟨⟨(sm_mq7 191 (by decide +kernel) rfl), cx_mo_isDoor.1, cx_mo_isDoor.2, ini_mo, cw_mo_isDoor⟩, cy_mo_isDoor.1, cy_mo_isDoor.2⟩
theorem cvv_mo_440 : sm_CV "SmokeControlModel" 440 q_mo_isDamper 1 := ⟨⟨(sm_mq7 199 (by decide +kernel) rfl), cx_mo_isDamper.1, cx_mo_isDamper.2, ini_mo, cw_mo_isDamper⟩, cy_mo_isDamper.1, cy_mo_isDamper.2⟩
theorem cvv_mo_443 : sm_CV "SmokeControlModel" 443 q_mo_isFan 1 := ⟨⟨(sm_mq7 207 (by decide +kernel) rfl), cx_mo_isFan.1, cx_mo_isFan.2, ini_mo, cw_mo_isFan⟩, cy_mo_isFan.1, cy_mo_isFan.2⟩
theorem cvv_mo_446 : sm_CV "SmokeControlModel" 446 q_mo_set 3 := ⟨⟨(sm_mq7 219 (by decide +kernel) rfl), cx_mo_set.1, cx_mo_set.2, ini_mo, cw_mo_set⟩, cy_mo_set.1, cy_mo_set.2⟩
theorem cvv_mo_450 : sm_CV "SmokeControlModel" 450 q_mo_putAside 0 := ⟨⟨(sm_mq8 55 (by decide +kernel) rfl), cx_mo_putAside.1, cx_mo_putAside.2, ini_mo, cw_mo_putAside⟩, cy_mo_putAside.1, cy_mo_putAside.2⟩
theorem cvv_mo_453 : sm_CV "SmokeControlModel" 453 q_mo_putBack 0 := ⟨⟨(sm_mq8 59 (by decide +kernel) rfl), cx_mo_putBack.1, cx_mo_putBack.2, ini_mo, cw_mo_putBack⟩, cy_mo_putBack.1, cy_mo_putBack.2⟩
theorem cvv_mo_456 : sm_CV "SmokeControlModel" 456 q_mo_allSmoke 0 := ⟨⟨(sm_mq8 67 (by decide +kernel) rfl), cx_mo_allSmoke.1, cx_mo_allSmoke.2, ini_mo, cw_mo_allSmoke⟩, cy_mo_allSmoke.1, cy_mo_allSmoke.2⟩
theorem cvv_mo_459 : sm_CV "SmokeControlModel" 459 q_mo_isBelow 3 := ⟨⟨(sm_mq8 83 (by decide +kernel) rfl), cx_mo_isBelow.1, cx_mo_isBelow.2, ini_mo, cw_mo_isBelow⟩, cy_mo_isBelow.1, cy_mo_isBelow.2⟩
theorem cvv_mo_462 : sm_CV "SmokeControlModel" 462 q_mo_ticksUntil 3 := ⟨⟨(sm_mq8 79 (by decide +kernel) rfl), cx_mo_ticksUntil.1, cx_mo_ticksUntil.2, ini_mo, cw_mo_ticksUntil⟩, cy_mo_ticksUntil.1, cy_mo_ticksUntil.2⟩
theorem cvv_mo_465 : sm_CV "SmokeControlModel" 465 q_mo_smokeWith 3 := ⟨⟨(sm_mq8 91 (by decide +kernel) rfl), cx_mo_smokeWith.1, cx_mo_smokeWith.2, ini_mo, cw_mo_smokeWith⟩, cy_mo_smokeWith.1, cy_mo_smokeWith.2⟩
theorem cvv_mo_468 : sm_CV "SmokeControlModel" 468 q_mo_openAll 1 := ⟨⟨(sm_mq8 99 (by decide +kernel) rfl), cx_mo_openAll.1, cx_mo_openAll.2, ini_mo, cw_mo_openAll⟩, cy_mo_openAll.1, cy_mo_openAll.2⟩
theorem cvv_mo_471 : sm_CV "SmokeControlModel" 471 q_mo_fullFlow 0 := ⟨⟨(sm_mq8 111 (by decide +kernel) rfl), cx_mo_fullFlow.1, cx_mo_fullFlow.2, ini_mo, cw_mo_fullFlow⟩, cy_mo_fullFlow.1, cy_mo_fullFlow.2⟩
theorem cvv_mo_474 : sm_CV "SmokeControlModel" 474 q_mo_pressureOf 1 := ⟨⟨(sm_mq8 107 (by decide +kernel) rfl), cx_mo_pressureOf.1, cx_mo_pressureOf.2, ini_mo, cw_mo_pressureOf⟩, cy_mo_pressureOf.1, cy_mo_pressureOf.2⟩
theorem cvv_mo_70 : sm_CV "SmokeControlModel" 70 q_mo_begin 0 := ⟨⟨(sm_mq5 188 (by decide +kernel) rfl), cx_mo_begin.1, cx_mo_begin.2, ini_mo, cw_mo_begin⟩, cy_mo_begin.1, cy_mo_begin.2⟩
theorem cvv_mo_73 : sm_CV "SmokeControlModel" 73 q_mo_damperOf 2 := ⟨⟨(sm_mq5 192 (by decide +kernel) rfl), cx_mo_damperOf.1, cx_mo_damperOf.2, ini_mo, cw_mo_damperOf⟩, cy_mo_damperOf.1, cy_mo_damperOf.2⟩
theorem cvv_mo_77 : sm_CV "SmokeControlModel" 77 q_mo_put 3 := ⟨⟨(sm_mq5 196 (by decide +kernel) rfl), cx_mo_put.1, cx_mo_put.2, ini_mo, cw_mo_put⟩, cy_mo_put.1, cy_mo_put.2⟩
theorem cvv_mo_98 : sm_CV "SmokeControlModel" 98 q_mo_append 1 := ⟨⟨(sm_mq6 71 (by decide +kernel) rfl), cx_mo_append.1, cx_mo_append.2, ini_mo, cw_mo_append⟩, cy_mo_append.1, cy_mo_append.2⟩
theorem cvv_pl_68 : sm_CV "SmokeControl$Plant" 68 q_ru_begin 0 := ⟨⟨(sm_mq1 83 (by decide +kernel) rfl), cx_ru_begin.1, cx_ru_begin.2, ini_ru, cw_ru_begin⟩, cy_ru_begin.1, cy_ru_begin.2⟩
theorem cvv_pl_77 : sm_CV "SmokeControl$Plant" 77 q_pl_area 1 := ⟨⟨(sm_mq4 178 (by decide +kernel) rfl), cx_pl_area.1, cx_pl_area.2, ini_pl, cw_pl_area⟩, cy_pl_area.1, cy_pl_area.2⟩
theorem cvv_pl_87 : sm_CV "SmokeControl$Plant" 87 q_pl_isStairFan 1 := ⟨⟨(sm_mq5 157 (by decide +kernel) rfl), cx_pl_isStairFan.1, cx_pl_isStairFan.2, ini_pl, cw_pl_isStairFan⟩, cy_pl_isStairFan.1, cy_pl_isStairFan.2⟩
theorem cvv_pl_91 : sm_CV "SmokeControl$Plant" 91 q_pl_pressureOf 2 := ⟨⟨(sm_mq5 158 (by decide +kernel) rfl), cx_pl_pressureOf.1, cx_pl_pressureOf.2, ini_pl, cw_pl_pressureOf⟩, cy_pl_pressureOf.1, cy_pl_pressureOf.2⟩
theorem cvv_re_107 : sm_CV "SmokeControl$Reader" 107 q_re_fanItem 0 := ⟨⟨(sm_mq3 135 (by decide +kernel) rfl), cx_re_fanItem.1, cx_re_fanItem.2, ini_re, cw_re_fanItem⟩, cy_re_fanItem.1, cy_re_fanItem.2⟩
theorem cvv_re_115 : sm_CV "SmokeControl$Reader" 115 q_re_doorItem 0 := ⟨⟨(sm_mq3 150 (by decide +kernel) rfl), cx_re_doorItem.1, cx_re_doorItem.2, ini_re, cw_re_doorItem⟩, cy_re_doorItem.1, cy_re_doorItem.2⟩
theorem cvv_re_136 : sm_CV "SmokeControl$Reader" 136 q_re_ruleItem 0 := ⟨⟨(sm_mq3 161 (by decide +kernel) rfl), cx_re_ruleItem.1, cx_re_ruleItem.2, ini_re, cw_re_ruleItem⟩, cy_re_ruleItem.1, cy_re_ruleItem.2⟩
theorem cvv_re_139 : sm_CV "SmokeControl$Reader" 139 q_re_needSign 1 := ⟨⟨(sm_mq3 196 (by decide +kernel) rfl), cx_re_needSign.1, cx_re_needSign.2, ini_re, cw_re_needSign⟩, cy_re_needSign.1, cy_re_needSign.2⟩
theorem cvv_re_147 : sm_CV "SmokeControl$Reader" 147 q_re_airKind 0 := ⟨⟨(sm_mq3 120 (by decide +kernel) rfl), cx_re_airKind.1, cx_re_airKind.2, ini_re, cw_re_airKind⟩, cy_re_airKind.1, cy_re_airKind.2⟩
theorem cvv_re_153 : sm_CV "SmokeControl$Reader" 153 q_pl_addDamper 4 := ⟨⟨(sm_mq3 127 (by decide +kernel) rfl), cx_pl_addDamper.1, cx_pl_addDamper.2, ini_pl, cw_pl_addDamper⟩, cy_pl_addDamper.1, cy_pl_addDamper.2⟩
theorem cvv_re_159 : sm_CV "SmokeControl$Reader" 159 q_re_listedDamper 2 := ⟨⟨(sm_mq3 140 (by decide +kernel) rfl), cx_re_listedDamper.1, cx_re_listedDamper.2, ini_re, cw_re_listedDamper⟩, cy_re_listedDamper.1, cy_re_listedDamper.2⟩
theorem cvv_re_162 : sm_CV "SmokeControl$Reader" 162 q_pl_addFan 4 := ⟨⟨(sm_mq3 145 (by decide +kernel) rfl), cx_pl_addFan.1, cx_pl_addFan.2, ini_pl, cw_pl_addFan⟩, cy_pl_addFan.1, cy_pl_addFan.2⟩
theorem cvv_re_171 : sm_CV "SmokeControl$Reader" 171 q_pl_addDoor 3 := ⟨⟨(sm_mq3 154 (by decide +kernel) rfl), cx_pl_addDoor.1, cx_pl_addDoor.2, ini_pl, cw_pl_addDoor⟩, cy_pl_addDoor.1, cy_pl_addDoor.2⟩
theorem cvv_re_175 : sm_CV "SmokeControl$Reader" 175 q_re_condition 1 := ⟨⟨(sm_mq3 165 (by decide +kernel) rfl), cx_re_condition.1, cx_re_condition.2, ini_re, cw_re_condition⟩, cy_re_condition.1, cy_re_condition.2⟩
theorem cvv_re_180 : sm_CV "SmokeControl$Reader" 180 q_re_action 1 := ⟨⟨(sm_mq3 207 (by decide +kernel) rfl), cx_re_action.1, cx_re_action.2, ini_re, cw_re_action⟩, cy_re_action.1, cy_re_action.2⟩
theorem cvv_re_183 : sm_CV "SmokeControl$Reader" 183 q_ru_endRule 0 := ⟨⟨(sm_mq3 230 (by decide +kernel) rfl), cx_ru_endRule.1, cx_ru_endRule.2, ini_ru, cw_ru_endRule⟩, cy_ru_endRule.1, cy_ru_endRule.2⟩
theorem cvv_re_186 : sm_CV "SmokeControl$Reader" 186 q_re_test 1 := ⟨⟨(sm_mq3 169 (by decide +kernel) rfl), cx_re_test.1, cx_re_test.2, ini_re, cw_re_test⟩, cy_re_test.1, cy_re_test.2⟩
theorem cvv_re_191 : sm_CV "SmokeControl$Reader" 191 q_ru_addCode 2 := ⟨⟨(sm_mq3 188 (by decide +kernel) rfl), cx_ru_addCode.1, cx_ru_addCode.2, ini_ru, cw_ru_addCode⟩, cy_ru_addCode.1, cy_ru_addCode.2⟩
theorem cvv_re_199 : sm_CV "SmokeControl$Reader" 199 q_re_testHere 0 := ⟨⟨(sm_mq3 178 (by decide +kernel) rfl), cx_re_testHere.1, cx_re_testHere.2, ini_re, cw_re_testHere⟩, cy_re_testHere.1, cy_re_testHere.2⟩
theorem cvv_re_202 : sm_CV "SmokeControl$Reader" 202 q_re_lastFor 1 := ⟨⟨(sm_mq3 200 (by decide +kernel) rfl), cx_re_lastFor.1, cx_re_lastFor.2, ini_re, cw_re_lastFor⟩, cy_re_lastFor.1, cy_re_lastFor.2⟩
theorem cvv_re_218 : sm_CV "SmokeControl$Reader" 218 q_re_verbHere 0 := ⟨⟨(sm_mq3 211 (by decide +kernel) rfl), cx_re_verbHere.1, cx_re_verbHere.2, ini_re, cw_re_verbHere⟩, cy_re_verbHere.1, cy_re_verbHere.2⟩
theorem cvv_re_221 : sm_CV "SmokeControl$Reader" 221 q_re_objectsOf 1 := ⟨⟨(sm_mq3 222 (by decide +kernel) rfl), cx_re_objectsOf.1, cx_re_objectsOf.2, ini_re, cw_re_objectsOf⟩, cy_re_objectsOf.1, cy_re_objectsOf.2⟩
theorem cvv_re_224 : sm_CV "SmokeControl$Reader" 224 q_ru_addAction 2 := ⟨⟨(sm_mq3 226 (by decide +kernel) rfl), cx_ru_addAction.1, cx_ru_addAction.2, ini_ru, cw_ru_addAction⟩, cy_ru_addAction.1, cy_ru_addAction.2⟩
theorem cvv_re_29 : sm_CV "SmokeControl$Reader" 29 q_pl_begin 0 := ⟨⟨(sm_mq3 11 (by decide +kernel) rfl), cx_pl_begin.1, cx_pl_begin.2, ini_pl, cw_pl_begin⟩, cy_pl_begin.1, cy_pl_begin.2⟩
theorem cvv_re_32 : sm_CV "SmokeControl$Reader" 32 q_te_cut 1 := ⟨⟨(sm_mq3 12 (by decide +kernel) rfl), cx_te_cut.1, cx_te_cut.2, ini_te, cw_te_cut⟩, cy_te_cut.1, cy_te_cut.2⟩
theorem cvv_re_56 : sm_CV "SmokeControl$Reader" 56 q_te_stop 0 := ⟨⟨(sm_mq3 107 (by decide +kernel) rfl), cx_te_stop.1, cx_te_stop.2, ini_te, cw_te_stop⟩, cy_te_stop.1, cy_te_stop.2⟩
theorem cvv_re_59 : sm_CV "SmokeControl$Reader" 59 q_te_isWord 1 := ⟨⟨(sm_mq3 43 (by decide +kernel) rfl), cx_te_isWord.1, cx_te_isWord.2, ini_te, cw_te_isWord⟩, cy_te_isWord.1, cy_te_isWord.2⟩
theorem cvv_re_63 : sm_CV "SmokeControl$Reader" 63 q_te_advance 0 := ⟨⟨(sm_mq3 95 (by decide +kernel) rfl), cx_te_advance.1, cx_te_advance.2, ini_te, cw_te_advance⟩, cy_te_advance.1, cy_te_advance.2⟩
theorem cvv_re_66 : sm_CV "SmokeControl$Reader" 66 q_te_isSign 1 := ⟨⟨(sm_mq3 174 (by decide +kernel) rfl), cx_te_isSign.1, cx_te_isSign.2, ini_te, cw_te_isSign⟩, cy_te_isSign.1, cy_te_isSign.2⟩
theorem cvv_re_70 : sm_CV "SmokeControl$Reader" 70 q_re_takeSign 1 := ⟨⟨(sm_mq3 192 (by decide +kernel) rfl), cx_re_takeSign.1, cx_re_takeSign.2, ini_re, cw_re_takeSign⟩, cy_re_takeSign.1, cy_re_takeSign.2⟩
theorem cvv_re_73 : sm_CV "SmokeControl$Reader" 73 q_re_fail 1 := ⟨⟨(sm_mq3 103 (by decide +kernel) rfl), cx_re_fail.1, cx_re_fail.2, ini_re, cw_re_fail⟩, cy_re_fail.1, cy_re_fail.2⟩
theorem cvv_re_79 : sm_CV "SmokeControl$Reader" 79 q_re_takeWord 1 := ⟨⟨(sm_mq3 39 (by decide +kernel) rfl), cx_re_takeWord.1, cx_re_takeWord.2, ini_re, cw_re_takeWord⟩, cy_re_takeWord.1, cy_re_takeWord.2⟩
theorem cvv_re_84 : sm_CV "SmokeControl$Reader" 84 q_re_needNumber 2 := ⟨⟨(sm_mq3 99 (by decide +kernel) rfl), cx_re_needNumber.1, cx_re_needNumber.2, ini_re, cw_re_needNumber⟩, cy_re_needNumber.1, cy_re_needNumber.2⟩
theorem cvv_re_95 : sm_CV "SmokeControl$Reader" 95 q_re_takeItem 3 := ⟨⟨(sm_mq3 112 (by decide +kernel) rfl), cx_re_takeItem.1, cx_re_takeItem.2, ini_re, cw_re_takeItem⟩, cy_re_takeItem.1, cy_re_takeItem.2⟩
theorem cvv_re_99 : sm_CV "SmokeControl$Reader" 99 q_re_damperItem 0 := ⟨⟨(sm_mq3 116 (by decide +kernel) rfl), cx_re_damperItem.1, cx_re_damperItem.2, ini_re, cw_re_damperItem⟩, cy_re_damperItem.1, cy_re_damperItem.2⟩
theorem cvv_sc_112 : sm_CV "SmokeControl" 112 q_sc_lacksZone 1 := ⟨⟨(sm_mq4 11 (by decide +kernel) rfl), cx_sc_lacksZone.1, cx_sc_lacksZone.2, ini_sc, cw_sc_lacksZone⟩, cy_sc_lacksZone.1, cy_sc_lacksZone.2⟩
theorem cvv_sc_140 : sm_CV "SmokeControl" 140 q_sc_lacksDamper 1 := ⟨⟨(sm_mq4 31 (by decide +kernel) rfl), cx_sc_lacksDamper.1, cx_sc_lacksDamper.2, ini_sc, cw_sc_lacksDamper⟩, cy_sc_lacksDamper.1, cy_sc_lacksDamper.2⟩
theorem cvv_sc_143 : sm_CV "SmokeControl" 143 q_sc_setFaulty 2 := ⟨⟨(sm_mq4 35 (by decide +kernel) rfl), cx_sc_setFaulty.1, cx_sc_setFaulty.2, ini_sc, cw_sc_setFaulty⟩, cy_sc_setFaulty.1, cy_sc_setFaulty.2⟩
theorem cvv_sc_147 : sm_CV "SmokeControl" 147 q_sc_lacksFan 1 := ⟨⟨(sm_mq4 43 (by decide +kernel) rfl), cx_sc_lacksFan.1, cx_sc_lacksFan.2, ini_sc, cw_sc_lacksFan⟩, cy_sc_lacksFan.1, cy_sc_lacksFan.2⟩
theorem cvv_sc_164 : sm_CV "SmokeControl" 164 q_lo_add 3 := ⟨⟨(sm_mq4 51 (by decide +kernel) rfl), cx_lo_add.1, cx_lo_add.2, ini_lo, cw_lo_add⟩, cy_lo_add.1, cy_lo_add.2⟩
theorem cvv_sc_179 : sm_CV "SmokeControl" 179 q_en_pass 2 := ⟨⟨(sm_mq4 81 (by decide +kernel) rfl), cx_en_pass.1, cx_en_pass.2, ini_en, cw_en_pass⟩, cy_en_pass.1, cy_en_pass.2⟩
theorem cvv_sc_195 : sm_CV "SmokeControl" 195 q_al_silence 1 := ⟨⟨(sm_mq4 230 (by decide +kernel) rfl), cx_al_silence.1, cx_al_silence.2, ini_al, cw_al_silence⟩, cy_al_silence.1, cy_al_silence.2⟩
theorem cvv_sc_220 : sm_CV "SmokeControl" 220 q_pl_area 1 := ⟨⟨(sm_mq5 11 (by decide +kernel) rfl), cx_pl_area.1, cx_pl_area.2, ini_pl, cw_pl_area⟩, cy_pl_area.1, cy_pl_area.2⟩
theorem cvv_sc_223 : sm_CV "SmokeControl" 223 q_st_stairAir 0 := ⟨⟨(sm_mq5 12 (by decide +kernel) rfl), cx_st_stairAir.1, cx_st_stairAir.2, ini_st, cw_st_stairAir⟩, cy_st_stairAir.1, cy_st_stairAir.2⟩
theorem cvv_sc_234 : sm_CV "SmokeControl" 234 q_en_divideAir 1 := ⟨⟨(sm_mq5 26 (by decide +kernel) rfl), cx_en_divideAir.1, cx_en_divideAir.2, ini_en, cw_en_divideAir⟩, cy_en_divideAir.1, cy_en_divideAir.2⟩
theorem cvv_sc_249 : sm_CV "SmokeControl" 249 q_sc_unitAnswer 2 := ⟨⟨(sm_mq5 35 (by decide +kernel) rfl), cx_sc_unitAnswer.1, cx_sc_unitAnswer.2, ini_sc, cw_sc_unitAnswer⟩, cy_sc_unitAnswer.1, cy_sc_unitAnswer.2⟩
theorem cvv_sc_253 : sm_CV "SmokeControl" 253 q_st_fanAir 1 := ⟨⟨(sm_mq5 48 (by decide +kernel) rfl), cx_st_fanAir.1, cx_st_fanAir.2, ini_st, cw_st_fanAir⟩, cy_st_fanAir.1, cy_st_fanAir.2⟩
theorem cvv_sc_256 : sm_CV "SmokeControl" 256 q_sc_waitsForDamper 1 := ⟨⟨(sm_mq5 49 (by decide +kernel) rfl), cx_sc_waitsForDamper.1, cx_sc_waitsForDamper.2, ini_sc, cw_sc_waitsForDamper⟩, cy_sc_waitsForDamper.1, cy_sc_waitsForDamper.2⟩
theorem cvv_sc_262 : sm_CV "SmokeControl" 262 q_sc_presentCommands 0 := ⟨⟨(sm_mq5 39 (by decide +kernel) rfl), cx_sc_presentCommands.1, cx_sc_presentCommands.2, ini_sc, cw_sc_presentCommands⟩, cy_sc_presentCommands.1, cy_sc_presentCommands.2⟩
theorem cvv_sc_274 : sm_CV "SmokeControl" 274 q_st_provenOpen 0 := ⟨⟨(sm_mq5 53 (by decide +kernel) rfl), cx_st_provenOpen.1, cx_st_provenOpen.2, ini_st, cw_st_provenOpen⟩, cy_st_provenOpen.1, cy_st_provenOpen.2⟩
theorem cvv_sc_277 : sm_CV "SmokeControl" 277 q_st_hasWay 2 := ⟨⟨(sm_mq5 54 (by decide +kernel) rfl), cx_st_hasWay.1, cx_st_hasWay.2, ini_st, cw_st_hasWay⟩, cy_st_hasWay.1, cy_st_hasWay.2⟩
theorem cvv_sc_284 : sm_CV "SmokeControl" 284 q_co_determine 1 := ⟨⟨(sm_mq5 43 (by decide +kernel) rfl), cx_co_determine.1, cx_co_determine.2, ini_co, cw_co_determine⟩, cy_co_determine.1, cy_co_determine.2⟩
theorem cvv_sc_287 : sm_CV "SmokeControl" 287 q_co_holds 2 := ⟨⟨(sm_mq5 59 (by decide +kernel) rfl), cx_co_holds.1, cx_co_holds.2, ini_co, cw_co_holds⟩, cy_co_holds.1, cy_co_holds.2⟩
theorem cvv_sc_291 : sm_CV "SmokeControl" 291 q_lo_kept 0 := ⟨⟨(sm_mq5 68 (by decide +kernel) rfl), cx_lo_kept.1, cx_lo_kept.2, ini_lo, cw_lo_kept⟩, cy_lo_kept.1, cy_lo_kept.2⟩
theorem cvv_sc_294 : sm_CV "SmokeControl" 294 q_lo_place 1 := ⟨⟨(sm_mq5 77 (by decide +kernel) rfl), cx_lo_place.1, cx_lo_place.2, ini_lo, cw_lo_place⟩, cy_lo_place.1, cy_lo_place.2⟩
theorem cvv_sc_308 : sm_CV "SmokeControl" 308 q_sc_tryTicks 1 := ⟨⟨(sm_mq5 88 (by decide +kernel) rfl), cx_sc_tryTicks.1, cx_sc_tryTicks.2, ini_sc, cw_sc_tryTicks⟩, cy_sc_tryTicks.1, cy_sc_tryTicks.2⟩
theorem cvv_sc_311 : sm_CV "SmokeControl" 311 q_st_smokeSum 0 := ⟨⟨(sm_mq5 116 (by decide +kernel) rfl), cx_st_smokeSum.1, cx_st_smokeSum.2, ini_st, cw_st_smokeSum⟩, cy_st_smokeSum.1, cy_st_smokeSum.2⟩
theorem cvv_sc_314 : sm_CV "SmokeControl" 314 q_st_copyFrom 1 := ⟨⟨(sm_mq5 92 (by decide +kernel) rfl), cx_st_copyFrom.1, cx_st_copyFrom.2, ini_st, cw_st_copyFrom⟩, cy_st_copyFrom.1, cy_st_copyFrom.2⟩
theorem cvv_sc_317 : sm_CV "SmokeControl" 317 q_st_thickestSmoke 0 := ⟨⟨(sm_mq5 128 (by decide +kernel) rfl), cx_st_thickestSmoke.1, cx_st_thickestSmoke.2, ini_st, cw_st_thickestSmoke⟩, cy_st_thickestSmoke.1, cy_st_thickestSmoke.2⟩
theorem cvv_sc_320 : sm_CV "SmokeControl" 320 q_sc_smokeWithSwitch 3 := ⟨⟨(sm_mq5 137 (by decide +kernel) rfl), cx_sc_smokeWithSwitch.1, cx_sc_smokeWithSwitch.2, ini_sc, cw_sc_smokeWithSwitch⟩, cy_sc_smokeWithSwitch.1, cy_sc_smokeWithSwitch.2⟩
theorem cvv_sc_324 : sm_CV "SmokeControl" 324 q_sc_switchZoneOn 1 := ⟨⟨(sm_mq5 145 (by decide +kernel) rfl), cx_sc_switchZoneOn.1, cx_sc_switchZoneOn.2, ini_sc, cw_sc_switchZoneOn⟩, cy_sc_switchZoneOn.1, cy_sc_switchZoneOn.2⟩
theorem cvv_sc_330 : sm_CV "SmokeControl" 330 q_pl_fullPressure 1 := ⟨⟨(sm_mq5 153 (by decide +kernel) rfl), cx_pl_fullPressure.1, cx_pl_fullPressure.2, ini_pl, cw_pl_fullPressure⟩, cy_pl_fullPressure.1, cy_pl_fullPressure.2⟩
theorem cvv_sc_333 : sm_CV "SmokeControl" 333 q_pl_narrowestDoor 1 := ⟨⟨(sm_mq5 163 (by decide +kernel) rfl), cx_pl_narrowestDoor.1, cx_pl_narrowestDoor.2, ini_pl, cw_pl_narrowestDoor⟩, cy_pl_narrowestDoor.1, cy_pl_narrowestDoor.2⟩
theorem cvv_sc_52 : sm_CV "SmokeControl" 52 q_te_append 1 := ⟨⟨(sm_mq2 239 (by decide +kernel) rfl), cx_te_append.1, cx_te_append.2, ini_te, cw_te_append⟩, cy_te_append.1, cy_te_append.2⟩
theorem cvv_sc_56 : sm_CV "SmokeControl" 56 q_re_begin 1 := ⟨⟨(sm_mq3 7 (by decide +kernel) rfl), cx_re_begin.1, cx_re_begin.2, ini_re, cw_re_begin⟩, cy_re_begin.1, cy_re_begin.2⟩
theorem cvv_sc_59 : sm_CV "SmokeControl" 59 q_re_expectsItem 0 := ⟨⟨(sm_mq3 30 (by decide +kernel) rfl), cx_re_expectsItem.1, cx_re_expectsItem.2, ini_re, cw_re_expectsItem⟩, cy_re_expectsItem.1, cy_re_expectsItem.2⟩
theorem cvv_sc_63 : sm_CV "SmokeControl" 63 q_re_item 1 := ⟨⟨(sm_mq3 34 (by decide +kernel) rfl), cx_re_item.1, cx_re_item.2, ini_re, cw_re_item⟩, cy_re_item.1, cy_re_item.2⟩
theorem cvv_sc_75 : sm_CV "SmokeControl" 75 q_st_begin 1 := ⟨⟨(sm_mq3 234 (by decide +kernel) rfl), cx_st_begin.1, cx_st_begin.2, ini_st, cw_st_begin⟩, cy_st_begin.1, cy_st_begin.2⟩
theorem cvv_st_111 : sm_CV "SmokeControl$State" 111 q_al_copyFrom 1 := ⟨⟨(sm_mq5 103 (by decide +kernel) rfl), cx_al_copyFrom.1, cx_al_copyFrom.2, ini_al, cw_al_copyFrom⟩, cy_al_copyFrom.1, cy_al_copyFrom.2⟩
theorem cvv_st_115 : sm_CV "SmokeControl$State" 115 q_lo_copyFrom 1 := ⟨⟨(sm_mq5 107 (by decide +kernel) rfl), cx_lo_copyFrom.1, cx_lo_copyFrom.2, ini_lo, cw_lo_copyFrom⟩, cy_lo_copyFrom.1, cy_lo_copyFrom.2⟩
theorem cvv_st_131 : sm_CV "SmokeControl$State" 131 q_pl_isStairFan 1 := ⟨⟨(sm_mq4 154 (by decide +kernel) rfl), cx_pl_isStairFan.1, cx_pl_isStairFan.2, ini_pl, cw_pl_isStairFan⟩, cy_pl_isStairFan.1, cy_pl_isStairFan.2⟩
theorem cvv_st_144 : sm_CV "SmokeControl$State" 144 q_st_fanAir 1 := ⟨⟨(sm_mq4 166 (by decide +kernel) rfl), cx_st_fanAir.1, cx_st_fanAir.2, ini_st, cw_st_fanAir⟩, cy_st_fanAir.1, cy_st_fanAir.2⟩
theorem cvv_st_148 : sm_CV "SmokeControl$State" 148 q_lo_add 3 := ⟨⟨(sm_mq4 141 (by decide +kernel) rfl), cx_lo_add.1, cx_lo_add.2, ini_lo, cw_lo_add⟩, cy_lo_add.1, cy_lo_add.2⟩
theorem cvv_st_87 : sm_CV "SmokeControl$State" 87 q_al_begin 0 := ⟨⟨(sm_mq2 69 (by decide +kernel) rfl), cx_al_begin.1, cx_al_begin.2, ini_al, cw_al_begin⟩, cy_al_begin.1, cy_al_begin.2⟩
theorem cvv_te_46 : sm_CV "SmokeControl$Text" 46 q_te_lengthenToken 1 := ⟨⟨(sm_mq3 22 (by decide +kernel) rfl), cx_te_lengthenToken.1, cx_te_lengthenToken.2, ini_te, cw_te_lengthenToken⟩, cy_te_lengthenToken.1, cy_te_lengthenToken.2⟩
theorem cvv_te_50 : sm_CV "SmokeControl$Text" 50 q_te_startToken 2 := ⟨⟨(sm_mq3 26 (by decide +kernel) rfl), cx_te_startToken.1, cx_te_startToken.2, ini_te, cw_te_startToken⟩, cy_te_startToken.1, cy_te_startToken.2⟩
theorem cvv_te_54 : sm_CV "SmokeControl$Text" 54 q_js_length 0 := ⟨⟨(sm_mq3 47 (by decide +kernel) rfl), cx_js_length.1, cx_js_length.2, ini_js, cw_js_length⟩, cy_js_length.1, cy_js_length.2⟩
theorem cvv_te_60 : sm_CV "SmokeControl$Text" 60 q_js_charAt 1 := ⟨⟨(sm_mq3 57 (by decide +kernel) rfl), cx_js_charAt.1, cx_js_charAt.2, ini_js, cw_js_charAt⟩, cy_js_charAt.1, cy_js_charAt.2⟩
theorem cvy_sc_341 : sm_CY "SmokeControl" 341 := ⟨(sm_mq5 100 (by decide +kernel) rfl), (sm_mq5 102 (by decide +kernel) rfl), (sm_mq5 101 (by decide +kernel) rfl), (sm_mq1 19 (by decide +kernel) rfl)⟩
-- String's own methods, over the constants
section sm_rows4
variable {l : Launch} {lo hi d : Nat} {q : sm_M} {pc : Nat} {lv : List (Nat × Value)} {st : List Value} {h h' : sm_H} {r : Option Value}
theorem sm_sgetV {idx k : Nat} (hk : Nat.ble (k + 1) 28 = true) (hw : Cond.fieldLink q.1.cls idx "java/lang/String" "value" "[B" ∈ sm_LT) (hd : decode q.2.1 pc = .ok (.getfield idx, 3)) (K : sm_W l lo hi d q (pc + 3) lv (.ref (6000 + k) :: st) h r h') : sm_W l lo hi d q pc lv (.ref (5000 + k) :: st) h r h' := by
  intro E hI p e s m args below meth c0 C H locs ls hP hS hl
  have hV := (C.2.2.2.2.2.2.2.2.1.1 k (Nat.le_of_ble_eq_true hk)).2.2.1
  exact vk_getf C.1 C.2.1 hV hS C.2.2.2.2.2.1 (C.2.2.2.2.2.2.1 _ (List.mem_cons_of_mem _ hw)) (fun _ h9 => h9) hd (K E hI p e s m args below meth c0 C H locs ls hP hS hl)
theorem sm_sgetC {idx k : Nat} (hk : Nat.ble (k + 1) 28 = true) (hw : Cond.fieldLink q.1.cls idx "java/lang/String" "coder" "B" ∈ sm_LT) (hd : decode q.2.1 pc = .ok (.getfield idx, 3)) (K : sm_W l lo hi d q (pc + 3) lv (.int 0 :: st) h r h') : sm_W l lo hi d q pc lv (.ref (5000 + k) :: st) h r h' := by
  intro E hI p e s m args below meth c0 C H locs ls hP hS hl
  have hV := (C.2.2.2.2.2.2.2.2.1.1 k (Nat.le_of_ble_eq_true hk)).2.1
  exact vk_getf C.1 C.2.1 hV hS C.2.2.2.2.2.1 (C.2.2.2.2.2.2.1 _ (List.mem_cons_of_mem _ hw)) (fun _ h9 => h9) hd (K E hI p e s m args below meth c0 C H locs ls hP hS hl)
theorem sm_salen {k : Nat} (hk : Nat.ble (k + 1) 28 = true) (hd : decode q.2.1 pc = .ok (.arraylength, 1)) (K : sm_W l lo hi d q (pc + 1) lv (.int (nI (sm_sln k)) :: st) h r h') : sm_W l lo hi d q pc lv (.ref (6000 + k) :: st) h r h' := by
  intro E hI p e s m args below meth c0 C H locs ls hP hS hl
  obtain ⟨cell, h1, h2, h3, h4, h5, h6, h7⟩ := (C.2.2.2.2.2.2.2.2.1.1 k (Nat.le_of_ble_eq_true hk)).2.2.2
  exact W.alen (n := nI (sm_sln k)) C.1 C.2.1 (by rw [hS.2.1 _ (Array.getElem?_eq_some_iff.mp h1).1 h7]; exact h1) h2 h5 rfl rfl hd (K E hI p e s m args below meth c0 C H locs ls hP hS hl)
theorem sm_sbald {k : Nat} {i : Int32} (hk : Nat.ble (k + 1) 28 = true) (hi' : sm_inb i (sm_sln k) = true) (hd : decode q.2.1 pc = .ok (.baload, 1)) (K : sm_W l lo hi d q (pc + 1) lv (.int (sm_sch k i.toNatClampNeg) :: st) h r h') : sm_W l lo hi d q pc lv (.int i :: .ref (6000 + k) :: st) h r h' := by
  intro E hI p e s m args below meth c0 C H locs ls hP hS hl
  obtain ⟨cell, h1, h2, h3, h4, h5, h6, h7⟩ := (C.2.2.2.2.2.2.2.2.1.1 k (Nat.le_of_ble_eq_true hk)).2.2.2
  have hz := sm_inbE hi'
  have hlt : i.toNatClampNeg < sm_sl.getD k 0 := Nat.not_le.mp fun q => hz (Or.inr q)
  exact W.bald (v := .int (sm_sch k i.toNatClampNeg)) C.1 C.2.1 (by rw [hS.2.1 _ (Array.getElem?_eq_some_iff.mp h1).1 h7]; exact h1) h2 h3 (by
    rintro (a | b)
    · exact hz (Or.inl a)
    · omega) (h6 _ hlt) rfl rfl hd (K E hI p e s m args below meth c0 C H locs ls hP hS hl)
theorem sm_sgets {idx : Nat} (hw : Cond.fieldLink q.1.cls idx "java/lang/String" "COMPACT_STRINGS" "Z" ∈ sm_LT) (hd : decode q.2.1 pc = .ok (.getstatic idx, 3)) (K : sm_W l lo hi d q (pc + 3) lv (.int 1 :: st) h r h') : sm_W l lo hi d q pc lv st h r h' := by
  intro E hI p e s m args below meth c0 C H locs ls hP hS hl
  exact va_gets C.1 C.2.1 C.2.2.2.2.2.2.2.2.2.1 hS C.2.2.2.2.2.1 (C.2.2.2.2.2.2.1 _ (List.mem_cons_of_mem _ hw)) (fun _ h9 => h9) hd (K E hI p e s m args below meth c0 C H locs ls hP hS hl)
theorem sm_sgetF {idx : Nat} (hw : Cond.fieldLink q.1.cls idx "jdk/internal/util/Preconditions" "SIOOBE_FORMATTER" "Ljava/util/function/BiFunction;" ∈ sm_LT) (hd : decode q.2.1 pc = .ok (.getstatic idx, 3)) (K : ∀ v : Value, (v = .null ∨ v = .ref 7000) → sm_W l lo hi d q (pc + 3) lv (v :: st) h r h') : sm_W l lo hi d q pc lv st h r h' := by
  intro E hI p e s m args below meth c0 C H locs ls hP hS hl
  rcases C.2.2.2.2.2.2.2.2.2.2 with z | z
  · exact va_gets C.1 C.2.1 z hS C.2.2.2.2.2.1 (C.2.2.2.2.2.2.1 _ (List.mem_cons_of_mem _ hw)) (fun _ h9 => h9) hd (K .null (Or.inl rfl) E hI p e s m args below meth c0 C H locs ls hP hS hl)
  · exact va_gets C.1 C.2.1 z hS C.2.2.2.2.2.1 (C.2.2.2.2.2.2.1 _ (List.mem_cons_of_mem _ hw)) (fun _ h9 => h9) hd (K (.ref 7000) (Or.inr rfl) E hI p e s m args below meth c0 C H locs ls hP hS hl)
theorem sm_i2c {x : Int32} (hd : decode q.2.1 pc = .ok (.i2c, 1)) (K : sm_W l lo hi d q (pc + 1) lv (.int (x.toUInt32 % 65536).toInt32 :: st) h r h') : sm_W l lo hi d q pc lv (.int x :: st) h r h' := by
  intro E hI p e s m args below meth c0 C H locs ls hP hS hl
  exact lv_i2c C.1 C.2.1 hd rfl (K E hI p e s m args below meth c0 C H locs ls hP hS hl)
end sm_rows4
theorem sm_chOK : ∀ k, k < 28 → ∀ j, j < sm_sln k → (((sm_sch k j) &&& 255).toUInt32 % 65536).toInt32 = sm_sch k j ∧ narrow .char (.int (sm_sch k j)) = .int (sm_sch k j) ∧ sm_sln k < 100 := by decide +kernel
theorem m_js_coder (l : Launch) (lo hi d : Nat) {k : Nat} (hk : Nat.ble (k + 1) 28 = true) {h : sm_H} : sm_Met l lo hi d q_js_coder [.ref (5000 + k)] h (some (.int 0)) h := by
  refine sm_Met.of (by decide +kernel) rfl ?_
  show sm_W l lo hi d q_js_coder 0 [(0, .ref (5000 + k))] [] h _ h
  refine sm_sgets (sm_mq3 55 (by decide +kernel) rfl) (by decide +kernel : decode q_js_coder.2.1 0 = .ok (.getstatic 38, 3)) ?_
  refine sm_if_eq 13 (by decide +kernel : decode q_js_coder.2.1 3 = .ok (.ifCond .eq 10, 3)) rfl (fun z => absurd z (by decide)) (fun _ => ?_)
  refine sm_aload_n (k := 0) 0 rfl (by decide +kernel : decode q_js_coder.2.1 6 = .ok (.aload_n 0, 1)) ?_
  refine sm_sgetC hk (sm_mq8 135 (by decide +kernel) rfl) (by decide +kernel : decode q_js_coder.2.1 7 = .ok (.getfield 15, 3)) ?_
  refine sm_goto 14 (by decide +kernel : decode q_js_coder.2.1 10 = .ok (.goto 4, 3)) rfl ?_
  refine sm_sub [] rfl ?_
  exact sm_zret (by decide +kernel : decode q_js_coder.2.1 14 = .ok (.ireturn, 1)) rfl rfl
theorem m_js_isLatin1 (l : Launch) (lo hi d : Nat) {k : Nat} (hk : Nat.ble (k + 1) 28 = true) {h : sm_H} : sm_Met l lo hi d q_js_isLatin1 [.ref (5000 + k)] h (some (.int 1)) h := by
  refine sm_Met.of (by decide +kernel) rfl ?_
  show sm_W l lo hi d q_js_isLatin1 0 [(0, .ref (5000 + k))] [] h _ h
  refine sm_sgets (sm_mq3 55 (by decide +kernel) rfl) (by decide +kernel : decode q_js_isLatin1.2.1 0 = .ok (.getstatic 38, 3)) ?_
  refine sm_if_eq 17 (by decide +kernel : decode q_js_isLatin1.2.1 3 = .ok (.ifCond .eq 14, 3)) rfl (fun z => absurd z (by decide)) (fun _ => ?_)
  refine sm_aload_n (k := 0) 0 rfl (by decide +kernel : decode q_js_isLatin1.2.1 6 = .ok (.aload_n 0, 1)) ?_
  refine sm_sgetC hk (sm_mq8 135 (by decide +kernel) rfl) (by decide +kernel : decode q_js_isLatin1.2.1 7 = .ok (.getfield 15, 3)) ?_
  refine sm_if_ne 17 (by decide +kernel : decode q_js_isLatin1.2.1 10 = .ok (.ifCond .ne 7, 3)) rfl (fun z => absurd rfl z) (fun _ => ?_)
  refine sm_iconst (v := 1) (by decide) (by decide +kernel : decode q_js_isLatin1.2.1 13 = .ok (.iconst 1, 1)) ?_
  refine sm_goto 18 (by decide +kernel : decode q_js_isLatin1.2.1 14 = .ok (.goto 4, 3)) rfl ?_
  exact sm_bret rfl (by decide +kernel : decode q_js_isLatin1.2.1 18 = .ok (.ireturn, 1)) rfl
theorem m_js_length (l : Launch) (lo hi d : Nat) {k : Nat} (hk : Nat.ble (k + 1) 28 = true) {h : sm_H} : sm_Met l lo hi (d + 1) q_js_length [.ref (5000 + k)] h (some (.int (nI (sm_sln k)))) h := by
  refine sm_Met.of (by decide +kernel) rfl ?_
  show sm_W l lo hi (d + 1) q_js_length 0 [(0, .ref (5000 + k))] [] h _ h
  refine sm_aload_n (k := 0) 0 rfl (by decide +kernel : decode q_js_length.2.1 0 = .ok (.aload_n 0, 1)) ?_
  refine sm_sgetV hk (sm_mq8 134 (by decide +kernel) rfl) (by decide +kernel : decode q_js_length.2.1 1 = .ok (.getfield 9, 3)) ?_
  refine sm_salen hk (by decide +kernel : decode q_js_length.2.1 4 = .ok (.arraylength, 1)) ?_
  refine sm_aload_n (k := 0) 0 rfl (by decide +kernel : decode q_js_length.2.1 5 = .ok (.aload_n 0, 1)) ?_
  refine sm_callJ (As := []) (rv := some (.int 0)) (h1 := h) cvv_js_335 hk (m_js_coder l lo hi d hk) rfl rfl (by decide +kernel : decode q_js_length.2.1 6 = .ok (.invokevirtual 335, 3)) ?_
  refine sm_ishr (by decide +kernel : decode q_js_length.2.1 9 = .ok (.ishr, 1)) ?_
  have e : nI (sm_sln k) >>> ((0 : Int32) &&& 31) = nI (sm_sln k) := sb_shr0 _
  rw [e]
  exact sm_iret (by decide +kernel : decode q_js_length.2.1 10 = .ok (.ireturn, 1)) rfl
theorem m_jp_checkIndex (l : Launch) (lo hi d : Nat) {i : Int32} {n : Nat} {v : Value} (hn : n < 100) (hv : v = .null ∨ v = .ref 7000) (hg : sm_inb i n = true) {h : sm_H} : sm_Met l lo hi d q_jp_checkIndex [.int i, .int (nI n), v] h (some (.int i)) h := by
  have hz := sm_inbE hg
  have hp : plainFor q_jp_checkIndex.1 = true := by decide +kernel
  have key : sm_W l lo hi d q_jp_checkIndex 0 [(0, .int i), (1, .int (nI n)), (2, v)] [] h (some (.int i)) h := by
    refine sm_iload_n (k := 0) 0 rfl (by decide +kernel : decode q_jp_checkIndex.2.1 0 = .ok (.iload_n 0, 1)) ?_
    refine sm_if_lt 9 (by decide +kernel : decode q_jp_checkIndex.2.1 1 = .ok (.ifCond .lt 8, 3)) rfl (fun z => (hz (Or.inl z)).elim) (fun _ => ?_)
    refine sm_iload_n (k := 0) 0 rfl (by decide +kernel : decode q_jp_checkIndex.2.1 4 = .ok (.iload_n 0, 1)) ?_
    refine sm_iload_n (k := 1) 1 rfl (by decide +kernel : decode q_jp_checkIndex.2.1 5 = .ok (.iload_n 1, 1)) ?_
    refine sm_icmp_lt 16 (by decide +kernel : decode q_jp_checkIndex.2.1 6 = .ok (.if_icmp .lt 10, 3)) rfl (fun _ => ?_) (fun z => ?_)
    · refine sm_iload_n (k := 0) 0 rfl (by decide +kernel : decode q_jp_checkIndex.2.1 16 = .ok (.iload_n 0, 1)) ?_
      exact sm_iret (by decide +kernel : decode q_jp_checkIndex.2.1 17 = .ok (.ireturn, 1)) rfl
    · exfalso
      obtain ⟨j, hj, rfl⟩ := vp_in_of hz (by omega)
      exact z (nI_lt hj (by omega))
  rcases hv with rfl | rfl
  · exact sm_Met.of hp rfl key
  · exact sm_Met.of hp rfl key
theorem m_js_checkIndex (l : Launch) (lo hi d : Nat) {i : Int32} {n : Nat} (hn : n < 100) (hg : sm_inb i n = true) {h : sm_H} : sm_Met l lo hi (d + 1) q_js_checkIndex [.int i, .int (nI n)] h none h := by
  refine sm_Met.of (by decide +kernel) rfl ?_
  show sm_W l lo hi (d + 1) q_js_checkIndex 0 [(0, .int i), (1, .int (nI n))] [] h _ h
  refine sm_iload_n (k := 0) 0 rfl (by decide +kernel : decode q_js_checkIndex.2.1 0 = .ok (.iload_n 0, 1)) ?_
  refine sm_iload_n (k := 1) 1 rfl (by decide +kernel : decode q_js_checkIndex.2.1 1 = .ok (.iload_n 1, 1)) ?_
  refine sm_sgetF (sm_mq3 71 (by decide +kernel) rfl) (by decide +kernel : decode q_js_checkIndex.2.1 2 = .ok (.getstatic 1053, 3)) (fun v hv => ?_)
  refine sm_callS (As := [.int i, .int (nI n), v]) (rv := some (.int i)) (h1 := h) cvs_js_1059 (m_jp_checkIndex l lo hi d hn hv hg) rfl rfl (by decide +kernel : decode q_js_checkIndex.2.1 5 = .ok (.invokestatic 1059, 3)) ?_
  refine sm_pop rfl (by decide +kernel : decode q_js_checkIndex.2.1 8 = .ok (.pop, 1)) ?_
  exact sm_vret (by decide +kernel : decode q_js_checkIndex.2.1 9 = .ok (.return_, 1)) rfl
theorem m_jl_charAt (l : Launch) (lo hi d : Nat) {k : Nat} {i : Int32} (hk : Nat.ble (k + 1) 28 = true) (hg : sm_inb i (sm_sln k) = true) {h : sm_H} : sm_Met l lo hi (d + 2) q_jl_charAt [.ref (6000 + k), .int i] h (some (.int (sm_sch k i.toNatClampNeg))) h := by
  have hlt : i.toNatClampNeg < sm_sln k := Nat.not_le.mp fun q => (sm_inbE hg) (Or.inr q)
  obtain ⟨g1, g2, g3⟩ := sm_chOK k (Nat.le_of_ble_eq_true hk) _ hlt
  refine sm_Met.of (by decide +kernel) rfl ?_
  show sm_W l lo hi (d + 2) q_jl_charAt 0 [(0, .ref (6000 + k)), (1, .int i)] [] h _ h
  refine sm_iload_n (k := 1) 1 rfl (by decide +kernel : decode q_jl_charAt.2.1 0 = .ok (.iload_n 1, 1)) ?_
  refine sm_aload_n (k := 0) 0 rfl (by decide +kernel : decode q_jl_charAt.2.1 1 = .ok (.aload_n 0, 1)) ?_
  refine sm_salen hk (by decide +kernel : decode q_jl_charAt.2.1 2 = .ok (.arraylength, 1)) ?_
  refine sm_callS (As := [.int i, .int (nI (sm_sln k))]) (rv := none) (h1 := h) cvs_jl_9 (m_js_checkIndex l lo hi d g3 hg) rfl rfl (by decide +kernel : decode q_jl_charAt.2.1 3 = .ok (.invokestatic 9, 3)) ?_
  refine sm_aload_n (k := 0) 0 rfl (by decide +kernel : decode q_jl_charAt.2.1 6 = .ok (.aload_n 0, 1)) ?_
  refine sm_iload_n (k := 1) 1 rfl (by decide +kernel : decode q_jl_charAt.2.1 7 = .ok (.iload_n 1, 1)) ?_
  refine sm_sbald hk hg (by decide +kernel : decode q_jl_charAt.2.1 8 = .ok (.baload, 1)) ?_
  refine sm_sipush (v := 255) (by decide) (by decide +kernel : decode q_jl_charAt.2.1 9 = .ok (.sipush 255, 3)) ?_
  refine sm_iand (by decide +kernel : decode q_jl_charAt.2.1 12 = .ok (.iand, 1)) ?_
  refine sm_i2c (by decide +kernel : decode q_jl_charAt.2.1 13 = .ok (.i2c, 1)) ?_
  rw [g1]
  exact sm_zret (by decide +kernel : decode q_jl_charAt.2.1 14 = .ok (.ireturn, 1)) rfl g2
theorem m_js_charAt (l : Launch) (lo hi d : Nat) {k : Nat} {i : Int32} (hk : Nat.ble (k + 1) 28 = true) (hg : sm_inb i (sm_sln k) = true) {h : sm_H} : sm_Met l lo hi (d + 3) q_js_charAt [.ref (5000 + k), .int i] h (some (.int (sm_sch k i.toNatClampNeg))) h := by
  have hlt : i.toNatClampNeg < sm_sln k := Nat.not_le.mp fun q => (sm_inbE hg) (Or.inr q)
  obtain ⟨g1, g2, g3⟩ := sm_chOK k (Nat.le_of_ble_eq_true hk) _ hlt
  refine sm_Met.of (by decide +kernel) rfl ?_
  show sm_W l lo hi (d + 3) q_js_charAt 0 [(0, .ref (5000 + k)), (1, .int i)] [] h _ h
  refine sm_aload_n (k := 0) 0 rfl (by decide +kernel : decode q_js_charAt.2.1 0 = .ok (.aload_n 0, 1)) ?_
  refine sm_callJ (As := []) (rv := some (.int 1)) (h1 := h) cvv_js_492 hk (m_js_isLatin1 l lo hi (d + 2) hk) rfl rfl (by decide +kernel : decode q_js_charAt.2.1 1 = .ok (.invokevirtual 492, 3)) ?_
  refine sm_if_eq 16 (by decide +kernel : decode q_js_charAt.2.1 4 = .ok (.ifCond .eq 12, 3)) rfl (fun z => absurd z (by decide)) (fun _ => ?_)
  refine sm_aload_n (k := 0) 0 rfl (by decide +kernel : decode q_js_charAt.2.1 7 = .ok (.aload_n 0, 1)) ?_
  refine sm_sgetV hk (sm_mq8 134 (by decide +kernel) rfl) (by decide +kernel : decode q_js_charAt.2.1 8 = .ok (.getfield 9, 3)) ?_
  refine sm_iload_n (k := 1) 1 rfl (by decide +kernel : decode q_js_charAt.2.1 11 = .ok (.iload_n 1, 1)) ?_
  refine sm_callS (As := [.ref (6000 + k), .int i]) (rv := some (.int (sm_sch k i.toNatClampNeg))) (h1 := h) cvs_js_495 (m_jl_charAt l lo hi d hk hg) rfl rfl (by decide +kernel : decode q_js_charAt.2.1 12 = .ok (.invokestatic 495, 3)) ?_
  exact sm_zret (by decide +kernel : decode q_js_charAt.2.1 15 = .ok (.ireturn, 1)) rfl g2
