-- ROWS of the clean judgement (each out of one of the kit's)
def sm_at (lo hi : Nat) (K : Nat × Nat × Nat) (i : Nat) : Prop := lo ≤ i ∧ i + sm_sz K ≤ hi ∧ sm_Ly i = K
def sm_arr (lo hi t n a : Nat) : Prop := lo ≤ a ∧ a < hi ∧ sm_Ly a = (1, t, n)
def sm_len (a : Nat) : Nat := (sm_Ly a).2.2
def sm_inb (x : Int32) (n : Nat) : Bool := decide (¬ (x < 0 ∨ n ≤ x.toNatClampNeg))
def sm_nz (x : Int32) : Bool := decide (¬ x = 0)
def sm_bz (x : Int32) : Bool := decide (x = 0 ∨ x = 1)
def sm_p (x : Int32) : Nat := x.toNatClampNeg
def sm_isP (x : Int32) : Bool := decide (¬ x = 0 ∧ sm_Ly (sm_p x) = (0, 4, 0))
def sm_gd {α : Type} (b : Bool) (x : Option α) : Option α := if b = true then x else none
def sm_let {α β : Type} (e : α) (F : α → Option β) : Option β := F e
theorem sm_gdE {α : Type} {b : Bool} {x : Option α} {R : α} (h : sm_gd b x = some R) : b = true ∧ x = some R := by
  unfold sm_gd at h
  by_cases hb : b = true
  · rw [if_pos hb] at h
    exact ⟨hb, h⟩
  · rw [if_neg hb] at h
    cases h
theorem sm_letE {α β : Type} {e : α} {F : α → Option β} {R : β} (h : sm_let e F = some R) : ∃ v, v = e ∧ F v = some R := ⟨e, rfl, h⟩
theorem sm_ifT {c : Prop} [Decidable c] {α : Type} {a b : Option α} {R : α} (hc : c) (h : (if c then a else b) = some R) : a = some R := by rwa [if_pos hc] at h
theorem sm_ifF {c : Prop} [Decidable c] {α : Type} {a b : Option α} {R : α} (hc : ¬ c) (h : (if c then a else b) = some R) : b = some R := by rwa [if_neg hc] at h
theorem sm_bindE {α β : Type} {x : Option α} {F : α → Option β} {R : β} (h : x.bind F = some R) : ∃ v, x = some v ∧ F v = some R := by
  cases x with
  | none => cases h
  | some v => exact ⟨v, rfl, h⟩
def sm_set (lv : List (Nat × Value)) (i : Nat) (v : Value) : List (Nat × Value) := (i, v) :: lv.filter (fun q => !(q.1 == i) && !(q.1 + 1 == i && q.2.category == 2))
def sm_set2 (lv : List (Nat × Value)) (i : Nat) (v : Value) : List (Nat × Value) := (i, v) :: lv.filter (fun q => !(q.1 == i) && (!(q.1 == i + 1) && !(q.1 + 1 == i && q.2.category == 2)))
theorem sm_set_map (E : sm_E) (lv : List (Nat × Value)) (i : Nat) (v : Value) : (i, sm_cv E v) :: (lv.map (sm_c2 E)).filter (fun q => !(q.1 == i) && !(q.1 + 1 == i && q.2.category == 2)) = (sm_set lv i v).map (sm_c2 E) := by
  unfold sm_set
  rw [List.map_cons, List.filter_map]
  have e : (fun q : Nat × Value => !(q.1 == i) && !(q.1 + 1 == i && q.2.category == 2)) ∘ sm_c2 E = fun q => !(q.1 == i) && !(q.1 + 1 == i && q.2.category == 2) := by
    funext q
    simp only [Function.comp, sm_c2, sm_cv_cat]
  rw [e]
  rfl
theorem sm_set2_map (E : sm_E) (lv : List (Nat × Value)) (i : Nat) (v : Value) : (i, sm_cv E v) :: (lv.map (sm_c2 E)).filter (fun q => !(q.1 == i) && (!(q.1 == i + 1) && !(q.1 + 1 == i && q.2.category == 2))) = (sm_set2 lv i v).map (sm_c2 E) := by
  unfold sm_set2
  rw [List.map_cons, List.filter_map]
  have e : (fun q : Nat × Value => !(q.1 == i) && (!(q.1 == i + 1) && !(q.1 + 1 == i && q.2.category == 2))) ∘ sm_c2 E = fun q => !(q.1 == i) && (!(q.1 == i + 1) && !(q.1 + 1 == i && q.2.category == 2)) := by
    funext q
    simp only [Function.comp, sm_c2, sm_cv_cat]
  rw [e]
  rfl
theorem sm_pick (E : sm_E) (lv : List (Nat × Value)) (ks : List Nat) : lv_pick (lv.map (sm_c2 E)) ks = (lv_pick lv ks).map (sm_c2 E) := by
  unfold lv_pick
  rw [List.map_filterMap]
  simp only [List.getElem?_map]
theorem sm_lvat {E : sm_E} {ls : Array Slot} {nL : Nat} {lv : List (Nat × Value)} (hl : lv_has ls nL (lv.map (sm_c2 E))) (j : Nat) {i : Nat} {v : Value} (hj : lv[j]? = some (i, v)) : ls[i]? = some (.val (sm_cv E v)) :=
  lv_at hl j (by rw [List.getElem?_map, hj]; rfl)
theorem sm_mem {w : Cond} (i : Nat) (h : lw_tbl[i]? = some w) (g : goodWord w = true) : w ∈ sm_LT := List.mem_filter.mpr ⟨List.mem_of_getElem? h, g⟩
-- a field by its link: own class, place in the pool, class and place of the field
def sm_FL (own : String) (idx c k : Nat) : Prop := ∃ z : vw_C, sm_cl[c]? = some z ∧ k < z.2.2 ∧ Cond.fieldLink own idx (z.2.1 k).1 (z.2.1 k).2.1 (z.2.1 k).2.2.1 ∈ sm_LT
def sm_FP (own : String) (idx c k : Nat) (ty : FieldType) : Prop := ∃ z : vw_C, sm_cl[c]? = some z ∧ k < z.2.2 ∧ Cond.fieldLink own idx (z.2.1 k).1 (z.2.1 k).2.1 (z.2.1 k).2.2.1 ∈ sm_LT ∧ (z.2.1 k).2.2.2 = false ∧ parseFieldDescriptor (z.2.1 k).2.2.1 = some ty
theorem sm_nf_eq {c : Nat} {z : vw_C} (h : sm_cl[c]? = some z) : sm_nf c = z.2.2 := by unfold sm_nf; rw [h]
section sm_rows
variable {l : Launch} {lo hi d : Nat} {q : sm_M} {pc : Nat} {lv : List (Nat × Value)} {st : List Value} {h h' : sm_H} {r : Option Value}
theorem sm_iconst {n : Int} {v : Int32} (hv : Int32.ofInt n = v) (hd : decode q.2.1 pc = .ok (.iconst n, 1)) (K : sm_W l lo hi d q (pc + 1) lv (.int v :: st) h r h') : sm_W l lo hi d q pc lv st h r h' := by
  intro E hI p e s m args below meth c C H locs ls hP hS hl
  exact lv_iconst C.1 C.2.1 hd hv (K E hI p e s m args below meth c C H locs ls hP hS hl)
theorem sm_bipush {n : Int} {v : Int32} (hv : (Int8.ofInt n).toInt32 = v) (hd : decode q.2.1 pc = .ok (.bipush n, 2)) (K : sm_W l lo hi d q (pc + 2) lv (.int v :: st) h r h') : sm_W l lo hi d q pc lv st h r h' := by
  intro E hI p e s m args below meth c C H locs ls hP hS hl
  exact lv_bipush C.1 C.2.1 hd hv (K E hI p e s m args below meth c C H locs ls hP hS hl)
theorem sm_sipush {n : Int} {v : Int32} (hv : (Int16.ofInt n).toInt32 = v) (hd : decode q.2.1 pc = .ok (.sipush n, 3)) (K : sm_W l lo hi d q (pc + 3) lv (.int v :: st) h r h') : sm_W l lo hi d q pc lv st h r h' := by
  intro E hI p e s m args below meth c C H locs ls hP hS hl
  exact lv_sipush C.1 C.2.1 hd hv (K E hI p e s m args below meth c C H locs ls hP hS hl)
theorem sm_lconst {n : Fin 2} {v : Int64} (hv : Int64.ofNat (n : Nat) = v) (hd : decode q.2.1 pc = .ok (.lconst n, 1)) (K : sm_W l lo hi d q (pc + 1) lv (.long v :: st) h r h') : sm_W l lo hi d q pc lv st h r h' := by
  intro E hI p e s m args below meth c C H locs ls hP hS hl
  exact lv_lconst C.1 C.2.1 hd hv (K E hI p e s m args below meth c C H locs ls hP hS hl)
theorem sm_ldc {x : Nat} {v : Int32} (hw : Cond.constant q.1.cls x v ∈ sm_LT) (hd : decode q.2.1 pc = .ok (.ldc x, 2)) (K : sm_W l lo hi d q (pc + 2) lv (.int v :: st) h r h') : sm_W l lo hi d q pc lv st h r h' := by
  intro E hI p e s m args below meth c C H locs ls hP hS hl
  exact lv_ldc C.1 C.2.1 C.2.2.2.2.2.1 (C.2.2.2.2.2.2.1 _ (List.mem_cons_of_mem _ hw)) hd (K E hI p e s m args below meth c C H locs ls hP hS hl)
theorem sm_ldcw {x : Nat} {v : Int32} (hw : Cond.constant q.1.cls x v ∈ sm_LT) (hd : decode q.2.1 pc = .ok (.ldc_w x, 3)) (K : sm_W l lo hi d q (pc + 3) lv (.int v :: st) h r h') : sm_W l lo hi d q pc lv st h r h' := by
  intro E hI p e s m args below meth c C H locs ls hP hS hl
  exact lv_ldcw C.1 C.2.1 C.2.2.2.2.2.1 (C.2.2.2.2.2.2.1 _ (List.mem_cons_of_mem _ hw)) hd (K E hI p e s m args below meth c C H locs ls hP hS hl)
theorem sm_ldc2 {x : Nat} {v : Int64} (hw : Cond.constantLong q.1.cls x v ∈ sm_LT) (hd : decode q.2.1 pc = .ok (.ldc2_w x, 3)) (K : sm_W l lo hi d q (pc + 3) lv (.long v :: st) h r h') : sm_W l lo hi d q pc lv st h r h' := by
  intro E hI p e s m args below meth c C H locs ls hP hS hl
  exact lv_ldc2 C.1 C.2.1 C.2.2.2.2.2.1 (C.2.2.2.2.2.2.1 _ (List.mem_cons_of_mem _ hw)) hd (K E hI p e s m args below meth c C H locs ls hP hS hl)
theorem sm_ldcS (k : Nat) {z : Nat × String} (hz : sm_SL[k]? = some z) (hq : q.1.cls = "SmokeControl$Reader") (hd : decode q.2.1 pc = .ok (.ldc z.1, 2)) (K : sm_W l lo hi d q (pc + 2) lv (.ref (5000 + k) :: st) h r h') : sm_W l lo hi d q pc lv st h r h' := by
  intro E hI p e s m args below meth c C H locs ls hP hS hl
  exact va_ldcS C.1 C.2.1 C.2.2.2.2.2.1 (by rw [hq]; exact C.2.2.2.2.2.2.2.1.2.2 k z hz) hd (K E hI p e s m args below meth c C H locs ls hP hS hl)
theorem sm_iload_n {k : Fin 4} {x : Int32} (j : Nat) (hj : lv[j]? = some ((k : Nat), .int x)) (hd : decode q.2.1 pc = .ok (.iload_n k, 1)) (K : sm_W l lo hi d q (pc + 1) lv (.int x :: st) h r h') : sm_W l lo hi d q pc lv st h r h' := by
  intro E hI p e s m args below meth c C H locs ls hP hS hl
  exact lv_iload_n C.1 C.2.1 hd rfl (sm_lvat hl j hj) (K E hI p e s m args below meth c C H locs ls hP hS hl)
theorem sm_iload {i : Nat} {x : Int32} (j : Nat) (hj : lv[j]? = some (i, .int x)) (hd : decode q.2.1 pc = .ok (.iload i, 2)) (K : sm_W l lo hi d q (pc + 2) lv (.int x :: st) h r h') : sm_W l lo hi d q pc lv st h r h' := by
  intro E hI p e s m args below meth c C H locs ls hP hS hl
  exact lv_iload C.1 C.2.1 hd (sm_lvat hl j hj) (K E hI p e s m args below meth c C H locs ls hP hS hl)
theorem sm_lload_n {k : Fin 4} {x : Int64} (j : Nat) (hj : lv[j]? = some ((k : Nat), .long x)) (hd : decode q.2.1 pc = .ok (.lload_n k, 1)) (K : sm_W l lo hi d q (pc + 1) lv (.long x :: st) h r h') : sm_W l lo hi d q pc lv st h r h' := by
  intro E hI p e s m args below meth c C H locs ls hP hS hl
  exact lv_lload_n C.1 C.2.1 hd rfl (sm_lvat hl j hj) (K E hI p e s m args below meth c C H locs ls hP hS hl)
theorem sm_lload {i : Nat} {x : Int64} (j : Nat) (hj : lv[j]? = some (i, .long x)) (hd : decode q.2.1 pc = .ok (.lload i, 2)) (K : sm_W l lo hi d q (pc + 2) lv (.long x :: st) h r h') : sm_W l lo hi d q pc lv st h r h' := by
  intro E hI p e s m args below meth c C H locs ls hP hS hl
  exact lv_lload C.1 C.2.1 hd (sm_lvat hl j hj) (K E hI p e s m args below meth c C H locs ls hP hS hl)
theorem sm_aload_n {k : Fin 4} {x : Nat} (j : Nat) (hj : lv[j]? = some ((k : Nat), .ref x)) (hd : decode q.2.1 pc = .ok (.aload_n k, 1)) (K : sm_W l lo hi d q (pc + 1) lv (.ref x :: st) h r h') : sm_W l lo hi d q pc lv st h r h' := by
  intro E hI p e s m args below meth c C H locs ls hP hS hl
  exact lv_aload_n C.1 C.2.1 hd rfl (sm_lvat hl j hj) (K E hI p e s m args below meth c C H locs ls hP hS hl)
theorem sm_aload {i : Nat} {x : Nat} (j : Nat) (hj : lv[j]? = some (i, .ref x)) (hd : decode q.2.1 pc = .ok (.aload i, 2)) (K : sm_W l lo hi d q (pc + 2) lv (.ref x :: st) h r h') : sm_W l lo hi d q pc lv st h r h' := by
  intro E hI p e s m args below meth c C H locs ls hP hS hl
  exact lv_aload C.1 C.2.1 hd (sm_lvat hl j hj) (K E hI p e s m args below meth c C H locs ls hP hS hl)
theorem sm_istore_n {k : Fin 4} {x : Int32} {lv' : List (Nat × Value)} (hd : decode q.2.1 pc = .ok (.istore_n k, 1)) (hn : Nat.ble ((k : Nat) + 1) q.2.2.1 = true) (hs : sm_set lv (k : Nat) (.int x) = lv') (K : sm_W l lo hi d q (pc + 1) lv' st h r h') : sm_W l lo hi d q pc lv (.int x :: st) h r h' := by
  intro E hI p e s m args below meth c C H locs ls hP hS hl
  subst hs
  exact lv_istore_n C.1 C.2.1 hd rfl hl (Nat.le_of_ble_eq_true hn) (sm_set_map E lv _ (.int x)) (fun ls hl => K E hI p e s m args below meth c C H locs ls hP hS hl)
theorem sm_istore {i : Nat} {x : Int32} {lv' : List (Nat × Value)} (hd : decode q.2.1 pc = .ok (.istore i, 2)) (hn : Nat.ble (i + 1) q.2.2.1 = true) (hs : sm_set lv i (.int x) = lv') (K : sm_W l lo hi d q (pc + 2) lv' st h r h') : sm_W l lo hi d q pc lv (.int x :: st) h r h' := by
  intro E hI p e s m args below meth c C H locs ls hP hS hl
  subst hs
  exact lv_istore C.1 C.2.1 hd hl (Nat.le_of_ble_eq_true hn) (sm_set_map E lv _ (.int x)) (fun ls hl => K E hI p e s m args below meth c C H locs ls hP hS hl)
theorem sm_lstore_n {k : Fin 4} {x : Int64} {lv' : List (Nat × Value)} (hd : decode q.2.1 pc = .ok (.lstore_n k, 1)) (hn : Nat.ble ((k : Nat) + 2) q.2.2.1 = true) (hs : sm_set2 lv (k : Nat) (.long x) = lv') (K : sm_W l lo hi d q (pc + 1) lv' st h r h') : sm_W l lo hi d q pc lv (.long x :: st) h r h' := by
  intro E hI p e s m args below meth c C H locs ls hP hS hl
  subst hs
  exact lv_lstore_n C.1 C.2.1 hd rfl hl (Nat.le_of_ble_eq_true hn) (sm_set2_map E lv _ (.long x)) (fun ls hl => K E hI p e s m args below meth c C H locs ls hP hS hl)
theorem sm_lstore {i : Nat} {x : Int64} {lv' : List (Nat × Value)} (hd : decode q.2.1 pc = .ok (.lstore i, 2)) (hn : Nat.ble (i + 2) q.2.2.1 = true) (hs : sm_set2 lv i (.long x) = lv') (K : sm_W l lo hi d q (pc + 2) lv' st h r h') : sm_W l lo hi d q pc lv (.long x :: st) h r h' := by
  intro E hI p e s m args below meth c C H locs ls hP hS hl
  subst hs
  exact lv_lstore C.1 C.2.1 hd hl (Nat.le_of_ble_eq_true hn) (sm_set2_map E lv _ (.long x)) (fun ls hl => K E hI p e s m args below meth c C H locs ls hP hS hl)
theorem sm_astore_n {k : Fin 4} {x : Nat} {lv' : List (Nat × Value)} (hd : decode q.2.1 pc = .ok (.astore_n k, 1)) (hn : Nat.ble ((k : Nat) + 1) q.2.2.1 = true) (hs : sm_set lv (k : Nat) (.ref x) = lv') (K : sm_W l lo hi d q (pc + 1) lv' st h r h') : sm_W l lo hi d q pc lv (.ref x :: st) h r h' := by
  intro E hI p e s m args below meth c C H locs ls hP hS hl
  subst hs
  exact lv_astore_n C.1 C.2.1 hd rfl hl (Nat.le_of_ble_eq_true hn) (sm_set_map E lv _ (.ref x)) (fun ls hl => K E hI p e s m args below meth c C H locs ls hP hS hl)
theorem sm_astore {i : Nat} {x : Nat} {lv' : List (Nat × Value)} (hd : decode q.2.1 pc = .ok (.astore i, 2)) (hn : Nat.ble (i + 1) q.2.2.1 = true) (hs : sm_set lv i (.ref x) = lv') (K : sm_W l lo hi d q (pc + 2) lv' st h r h') : sm_W l lo hi d q pc lv (.ref x :: st) h r h' := by
  intro E hI p e s m args below meth c C H locs ls hP hS hl
  subst hs
  exact lv_astore C.1 C.2.1 hd hl (Nat.le_of_ble_eq_true hn) (sm_set_map E lv _ (.ref x)) (fun ls hl => K E hI p e s m args below meth c C H locs ls hP hS hl)
theorem sm_iinc {i : Nat} {n : Int} {x v : Int32} {lv' : List (Nat × Value)} (j : Nat) (hj : lv[j]? = some (i, .int x)) (hv : x + Int32.ofInt n = v) (hd : decode q.2.1 pc = .ok (.iinc i n, 3)) (hn : Nat.ble (i + 1) q.2.2.1 = true) (hs : sm_set lv i (.int v) = lv') (K : sm_W l lo hi d q (pc + 3) lv' st h r h') : sm_W l lo hi d q pc lv st h r h' := by
  intro E hI p e s m args below meth c C H locs ls hP hS hl
  subst hs
  exact lv_iinc C.1 C.2.1 hd hl (k := j) (by rw [List.getElem?_map, hj]; rfl) hv (Nat.le_of_ble_eq_true hn) (sm_set_map E lv i (.int v)) (fun ls hl => K E hI p e s m args below meth c C H locs ls hP hS hl)
theorem sm_iadd {x y : Int32} (hd : decode q.2.1 pc = .ok (.iadd, 1)) (K : sm_W l lo hi d q (pc + 1) lv (.int (x + y) :: st) h r h') : sm_W l lo hi d q pc lv (.int y :: .int x :: st) h r h' := by
  intro E hI p e s m args below meth c C H locs ls hP hS hl
  exact lv_iadd C.1 C.2.1 hd (K E hI p e s m args below meth c C H locs ls hP hS hl)
theorem sm_isub {x y : Int32} (hd : decode q.2.1 pc = .ok (.isub, 1)) (K : sm_W l lo hi d q (pc + 1) lv (.int (x - y) :: st) h r h') : sm_W l lo hi d q pc lv (.int y :: .int x :: st) h r h' := by
  intro E hI p e s m args below meth c C H locs ls hP hS hl
  exact lv_isub C.1 C.2.1 hd (K E hI p e s m args below meth c C H locs ls hP hS hl)
theorem sm_imul {x y : Int32} (hd : decode q.2.1 pc = .ok (.imul, 1)) (K : sm_W l lo hi d q (pc + 1) lv (.int (x * y) :: st) h r h') : sm_W l lo hi d q pc lv (.int y :: .int x :: st) h r h' := by
  intro E hI p e s m args below meth c C H locs ls hP hS hl
  exact lv_imul C.1 C.2.1 hd (K E hI p e s m args below meth c C H locs ls hP hS hl)
theorem sm_iand {x y : Int32} (hd : decode q.2.1 pc = .ok (.iand, 1)) (K : sm_W l lo hi d q (pc + 1) lv (.int (x &&& y) :: st) h r h') : sm_W l lo hi d q pc lv (.int y :: .int x :: st) h r h' := by
  intro E hI p e s m args below meth c C H locs ls hP hS hl
  exact lv_iand C.1 C.2.1 hd (K E hI p e s m args below meth c C H locs ls hP hS hl)
theorem sm_ior {x y : Int32} (hd : decode q.2.1 pc = .ok (.ior, 1)) (K : sm_W l lo hi d q (pc + 1) lv (.int (x ||| y) :: st) h r h') : sm_W l lo hi d q pc lv (.int y :: .int x :: st) h r h' := by
  intro E hI p e s m args below meth c C H locs ls hP hS hl
  exact lv_ior C.1 C.2.1 hd (K E hI p e s m args below meth c C H locs ls hP hS hl)
theorem sm_ixor {x y : Int32} (hd : decode q.2.1 pc = .ok (.ixor, 1)) (K : sm_W l lo hi d q (pc + 1) lv (.int (x ^^^ y) :: st) h r h') : sm_W l lo hi d q pc lv (.int y :: .int x :: st) h r h' := by
  intro E hI p e s m args below meth c C H locs ls hP hS hl
  exact lv_ixor C.1 C.2.1 hd (K E hI p e s m args below meth c C H locs ls hP hS hl)
theorem sm_ishl {x y : Int32} (hd : decode q.2.1 pc = .ok (.ishl, 1)) (K : sm_W l lo hi d q (pc + 1) lv (.int (x <<< (y &&& 31)) :: st) h r h') : sm_W l lo hi d q pc lv (.int y :: .int x :: st) h r h' := by
  intro E hI p e s m args below meth c C H locs ls hP hS hl
  exact lv_ishl C.1 C.2.1 hd (K E hI p e s m args below meth c C H locs ls hP hS hl)
theorem sm_ishr {x y : Int32} (hd : decode q.2.1 pc = .ok (.ishr, 1)) (K : sm_W l lo hi d q (pc + 1) lv (.int (x >>> (y &&& 31)) :: st) h r h') : sm_W l lo hi d q pc lv (.int y :: .int x :: st) h r h' := by
  intro E hI p e s m args below meth c C H locs ls hP hS hl
  exact lv_ishr C.1 C.2.1 hd (K E hI p e s m args below meth c C H locs ls hP hS hl)
theorem sm_idiv {x y : Int32} (hz : sm_nz y = true) (hd : decode q.2.1 pc = .ok (.idiv, 1)) (K : sm_W l lo hi d q (pc + 1) lv (.int (x / y) :: st) h r h') : sm_W l lo hi d q pc lv (.int y :: .int x :: st) h r h' := by
  intro E hI p e s m args below meth c C H locs ls hP hS hl
  exact lv_idiv C.1 C.2.1 hd (of_decide_eq_true hz) (K E hI p e s m args below meth c C H locs ls hP hS hl)
theorem sm_irem {x y : Int32} (hz : sm_nz y = true) (hd : decode q.2.1 pc = .ok (.irem, 1)) (K : sm_W l lo hi d q (pc + 1) lv (.int (x - x / y * y) :: st) h r h') : sm_W l lo hi d q pc lv (.int y :: .int x :: st) h r h' := by
  intro E hI p e s m args below meth c C H locs ls hP hS hl
  exact lv_irem C.1 C.2.1 hd (of_decide_eq_true hz) (K E hI p e s m args below meth c C H locs ls hP hS hl)
theorem sm_iushr {x y : Int32} (hd : decode q.2.1 pc = .ok (.iushr, 1)) (K : sm_W l lo hi d q (pc + 1) lv (.int ((x.toUInt32 >>> (y.toUInt32 &&& Int32.toUInt32 31)).toInt32) :: st) h r h') : sm_W l lo hi d q pc lv (.int y :: .int x :: st) h r h' := by
  intro E hI p e s m args below meth c C H locs ls hP hS hl
  exact lv_iushr C.1 C.2.1 hd rfl (K E hI p e s m args below meth c C H locs ls hP hS hl)
theorem sm_i2b {x : Int32} (hd : decode q.2.1 pc = .ok (.i2b, 1)) (K : sm_W l lo hi d q (pc + 1) lv (.int x.toInt8.toInt32 :: st) h r h') : sm_W l lo hi d q pc lv (.int x :: st) h r h' := by
  intro E hI p e s m args below meth c C H locs ls hP hS hl
  exact lv_i2b C.1 C.2.1 hd rfl (K E hI p e s m args below meth c C H locs ls hP hS hl)
theorem sm_i2l {x : Int32} (hd : decode q.2.1 pc = .ok (.i2l, 1)) (K : sm_W l lo hi d q (pc + 1) lv (.long x.toInt64 :: st) h r h') : sm_W l lo hi d q pc lv (.int x :: st) h r h' := by
  intro E hI p e s m args below meth c C H locs ls hP hS hl
  exact lv_i2l C.1 C.2.1 hd rfl (K E hI p e s m args below meth c C H locs ls hP hS hl)
theorem sm_ladd {x y : Int64} (hd : decode q.2.1 pc = .ok (.ladd, 1)) (K : sm_W l lo hi d q (pc + 1) lv (.long (x + y) :: st) h r h') : sm_W l lo hi d q pc lv (.long y :: .long x :: st) h r h' := by
  intro E hI p e s m args below meth c C H locs ls hP hS hl
  exact lv_ladd C.1 C.2.1 hd (K E hI p e s m args below meth c C H locs ls hP hS hl)
theorem sm_lsub {x y : Int64} (hd : decode q.2.1 pc = .ok (.lsub, 1)) (K : sm_W l lo hi d q (pc + 1) lv (.long (x - y) :: st) h r h') : sm_W l lo hi d q pc lv (.long y :: .long x :: st) h r h' := by
  intro E hI p e s m args below meth c C H locs ls hP hS hl
  exact lv_lsub C.1 C.2.1 hd (K E hI p e s m args below meth c C H locs ls hP hS hl)
theorem sm_lmul {x y : Int64} (hd : decode q.2.1 pc = .ok (.lmul, 1)) (K : sm_W l lo hi d q (pc + 1) lv (.long (x * y) :: st) h r h') : sm_W l lo hi d q pc lv (.long y :: .long x :: st) h r h' := by
  intro E hI p e s m args below meth c C H locs ls hP hS hl
  exact lv_lmul C.1 C.2.1 hd (K E hI p e s m args below meth c C H locs ls hP hS hl)
theorem sm_land {x y : Int64} (hd : decode q.2.1 pc = .ok (.land, 1)) (K : sm_W l lo hi d q (pc + 1) lv (.long (x &&& y) :: st) h r h') : sm_W l lo hi d q pc lv (.long y :: .long x :: st) h r h' := by
  intro E hI p e s m args below meth c C H locs ls hP hS hl
  exact lv_land C.1 C.2.1 hd (K E hI p e s m args below meth c C H locs ls hP hS hl)
theorem sm_lor {x y : Int64} (hd : decode q.2.1 pc = .ok (.lor, 1)) (K : sm_W l lo hi d q (pc + 1) lv (.long (x ||| y) :: st) h r h') : sm_W l lo hi d q pc lv (.long y :: .long x :: st) h r h' := by
  intro E hI p e s m args below meth c C H locs ls hP hS hl
  exact lv_lor C.1 C.2.1 hd (K E hI p e s m args below meth c C H locs ls hP hS hl)
theorem sm_lxor {x y : Int64} (hd : decode q.2.1 pc = .ok (.lxor, 1)) (K : sm_W l lo hi d q (pc + 1) lv (.long (x ^^^ y) :: st) h r h') : sm_W l lo hi d q pc lv (.long y :: .long x :: st) h r h' := by
  intro E hI p e s m args below meth c C H locs ls hP hS hl
  exact lv_lxor C.1 C.2.1 hd (K E hI p e s m args below meth c C H locs ls hP hS hl)
theorem sm_lshl {x : Int64} {y : Int32} (hd : decode q.2.1 pc = .ok (.lshl, 1)) (K : sm_W l lo hi d q (pc + 1) lv (.long (x <<< (y.toInt64 &&& 63)) :: st) h r h') : sm_W l lo hi d q pc lv (.int y :: .long x :: st) h r h' := by
  intro E hI p e s m args below meth c C H locs ls hP hS hl
  exact lv_lshl C.1 C.2.1 hd rfl (K E hI p e s m args below meth c C H locs ls hP hS hl)
theorem sm_lshr {x : Int64} {y : Int32} (hd : decode q.2.1 pc = .ok (.lshr, 1)) (K : sm_W l lo hi d q (pc + 1) lv (.long (x >>> (y.toInt64 &&& 63)) :: st) h r h') : sm_W l lo hi d q pc lv (.int y :: .long x :: st) h r h' := by
  intro E hI p e s m args below meth c C H locs ls hP hS hl
  exact lv_lshr C.1 C.2.1 hd rfl (K E hI p e s m args below meth c C H locs ls hP hS hl)
theorem sm_lcmp {x y : Int64} (hd : decode q.2.1 pc = .ok (.lcmp, 1)) (K : sm_W l lo hi d q (pc + 1) lv (.int (lg_cmp x y) :: st) h r h') : sm_W l lo hi d q pc lv (.long y :: .long x :: st) h r h' := by
  intro E hI p e s m args below meth c C H locs ls hP hS hl
  exact W.lcmp C.1 C.2.1 hd (K E hI p e s m args below meth c C H locs ls hP hS hl)
theorem sm_dup {v : Value} (hc : v.category = 1) (hd : decode q.2.1 pc = .ok (.dup, 1)) (K : sm_W l lo hi d q (pc + 1) lv (v :: v :: st) h r h') : sm_W l lo hi d q pc lv (v :: st) h r h' := by
  intro E hI p e s m args below meth c C H locs ls hP hS hl
  exact lv_dup C.1 C.2.1 hd (by rw [sm_cv_cat]; exact hc) (K E hI p e s m args below meth c C H locs ls hP hS hl)
theorem sm_pop {v : Value} (hc : v.category = 1) (hd : decode q.2.1 pc = .ok (.pop, 1)) (K : sm_W l lo hi d q (pc + 1) lv st h r h') : sm_W l lo hi d q pc lv (v :: st) h r h' := by
  intro E hI p e s m args below meth c C H locs ls hP hS hl
  exact lv_pop C.1 C.2.1 hd (by rw [sm_cv_cat]; exact hc) (K E hI p e s m args below meth c C H locs ls hP hS hl)
theorem sm_dup2 {v w : Value} (hc : v.category = 1) (hc2 : w.category = 1) (hd : decode q.2.1 pc = .ok (.dup2, 1)) (K : sm_W l lo hi d q (pc + 1) lv (v :: w :: v :: w :: st) h r h') : sm_W l lo hi d q pc lv (v :: w :: st) h r h' := by
  intro E hI p e s m args below meth c C H locs ls hP hS hl
  exact lv_dup2_11 C.1 C.2.1 hd (by rw [sm_cv_cat]; exact hc) (by rw [sm_cv_cat]; exact hc2) (K E hI p e s m args below meth c C H locs ls hP hS hl)
theorem sm_if_eq {x : Int32} {off : Int} (tgt : Nat) (hd : decode q.2.1 pc = .ok (.ifCond .eq off, 3)) (ht : decide ((pc : Int) + off = (tgt : Int)) = true) (K1 : x = 0 → sm_W l lo hi d q tgt lv st h r h') (K2 : ¬ x = 0 → sm_W l lo hi d q (pc + 3) lv st h r h') : sm_W l lo hi d q pc lv (.int x :: st) h r h' := by
  intro E hI p e s m args below meth c C H locs ls hP hS hl
  exact lv_if_eq C.1 C.2.1 hd (of_decide_eq_true ht) (fun z => K1 z E hI p e s m args below meth c C H locs ls hP hS hl) (fun z => K2 z E hI p e s m args below meth c C H locs ls hP hS hl)
theorem sm_icmp_eq {x y : Int32} {off : Int} (tgt : Nat) (hd : decode q.2.1 pc = .ok (.if_icmp .eq off, 3)) (ht : decide ((pc : Int) + off = (tgt : Int)) = true) (K1 : x = y → sm_W l lo hi d q tgt lv st h r h') (K2 : ¬ x = y → sm_W l lo hi d q (pc + 3) lv st h r h') : sm_W l lo hi d q pc lv (.int y :: .int x :: st) h r h' := by
  intro E hI p e s m args below meth c C H locs ls hP hS hl
  exact lv_icmp_eq C.1 C.2.1 hd (of_decide_eq_true ht) (fun z => K1 z E hI p e s m args below meth c C H locs ls hP hS hl) (fun z => K2 z E hI p e s m args below meth c C H locs ls hP hS hl)
theorem sm_if_ne {x : Int32} {off : Int} (tgt : Nat) (hd : decode q.2.1 pc = .ok (.ifCond .ne off, 3)) (ht : decide ((pc : Int) + off = (tgt : Int)) = true) (K1 : ¬ x = 0 → sm_W l lo hi d q tgt lv st h r h') (K2 : x = 0 → sm_W l lo hi d q (pc + 3) lv st h r h') : sm_W l lo hi d q pc lv (.int x :: st) h r h' := by
  intro E hI p e s m args below meth c C H locs ls hP hS hl
  exact lv_if_ne C.1 C.2.1 hd (of_decide_eq_true ht) (fun z => K1 z E hI p e s m args below meth c C H locs ls hP hS hl) (fun z => K2 z E hI p e s m args below meth c C H locs ls hP hS hl)
theorem sm_icmp_ne {x y : Int32} {off : Int} (tgt : Nat) (hd : decode q.2.1 pc = .ok (.if_icmp .ne off, 3)) (ht : decide ((pc : Int) + off = (tgt : Int)) = true) (K1 : ¬ x = y → sm_W l lo hi d q tgt lv st h r h') (K2 : x = y → sm_W l lo hi d q (pc + 3) lv st h r h') : sm_W l lo hi d q pc lv (.int y :: .int x :: st) h r h' := by
  intro E hI p e s m args below meth c C H locs ls hP hS hl
  exact lv_icmp_ne C.1 C.2.1 hd (of_decide_eq_true ht) (fun z => K1 z E hI p e s m args below meth c C H locs ls hP hS hl) (fun z => K2 z E hI p e s m args below meth c C H locs ls hP hS hl)
theorem sm_if_lt {x : Int32} {off : Int} (tgt : Nat) (hd : decode q.2.1 pc = .ok (.ifCond .lt off, 3)) (ht : decide ((pc : Int) + off = (tgt : Int)) = true) (K1 : x < 0 → sm_W l lo hi d q tgt lv st h r h') (K2 : ¬ x < 0 → sm_W l lo hi d q (pc + 3) lv st h r h') : sm_W l lo hi d q pc lv (.int x :: st) h r h' := by
  intro E hI p e s m args below meth c C H locs ls hP hS hl
  exact lv_if_lt C.1 C.2.1 hd (of_decide_eq_true ht) (fun z => K1 z E hI p e s m args below meth c C H locs ls hP hS hl) (fun z => K2 z E hI p e s m args below meth c C H locs ls hP hS hl)
theorem sm_icmp_lt {x y : Int32} {off : Int} (tgt : Nat) (hd : decode q.2.1 pc = .ok (.if_icmp .lt off, 3)) (ht : decide ((pc : Int) + off = (tgt : Int)) = true) (K1 : x < y → sm_W l lo hi d q tgt lv st h r h') (K2 : ¬ x < y → sm_W l lo hi d q (pc + 3) lv st h r h') : sm_W l lo hi d q pc lv (.int y :: .int x :: st) h r h' := by
  intro E hI p e s m args below meth c C H locs ls hP hS hl
  exact lv_icmp_lt C.1 C.2.1 hd (of_decide_eq_true ht) (fun z => K1 z E hI p e s m args below meth c C H locs ls hP hS hl) (fun z => K2 z E hI p e s m args below meth c C H locs ls hP hS hl)
theorem sm_if_ge {x : Int32} {off : Int} (tgt : Nat) (hd : decode q.2.1 pc = .ok (.ifCond .ge off, 3)) (ht : decide ((pc : Int) + off = (tgt : Int)) = true) (K1 : 0 ≤ x → sm_W l lo hi d q tgt lv st h r h') (K2 : ¬ 0 ≤ x → sm_W l lo hi d q (pc + 3) lv st h r h') : sm_W l lo hi d q pc lv (.int x :: st) h r h' := by
  intro E hI p e s m args below meth c C H locs ls hP hS hl
  exact lv_if_ge C.1 C.2.1 hd (of_decide_eq_true ht) (fun z => K1 z E hI p e s m args below meth c C H locs ls hP hS hl) (fun z => K2 z E hI p e s m args below meth c C H locs ls hP hS hl)
theorem sm_icmp_ge {x y : Int32} {off : Int} (tgt : Nat) (hd : decode q.2.1 pc = .ok (.if_icmp .ge off, 3)) (ht : decide ((pc : Int) + off = (tgt : Int)) = true) (K1 : y ≤ x → sm_W l lo hi d q tgt lv st h r h') (K2 : ¬ y ≤ x → sm_W l lo hi d q (pc + 3) lv st h r h') : sm_W l lo hi d q pc lv (.int y :: .int x :: st) h r h' := by
  intro E hI p e s m args below meth c C H locs ls hP hS hl
  exact lv_icmp_ge C.1 C.2.1 hd (of_decide_eq_true ht) (fun z => K1 z E hI p e s m args below meth c C H locs ls hP hS hl) (fun z => K2 z E hI p e s m args below meth c C H locs ls hP hS hl)
theorem sm_if_gt {x : Int32} {off : Int} (tgt : Nat) (hd : decode q.2.1 pc = .ok (.ifCond .gt off, 3)) (ht : decide ((pc : Int) + off = (tgt : Int)) = true) (K1 : 0 < x → sm_W l lo hi d q tgt lv st h r h') (K2 : ¬ 0 < x → sm_W l lo hi d q (pc + 3) lv st h r h') : sm_W l lo hi d q pc lv (.int x :: st) h r h' := by
  intro E hI p e s m args below meth c C H locs ls hP hS hl
  exact lv_if_gt C.1 C.2.1 hd (of_decide_eq_true ht) (fun z => K1 z E hI p e s m args below meth c C H locs ls hP hS hl) (fun z => K2 z E hI p e s m args below meth c C H locs ls hP hS hl)
theorem sm_icmp_gt {x y : Int32} {off : Int} (tgt : Nat) (hd : decode q.2.1 pc = .ok (.if_icmp .gt off, 3)) (ht : decide ((pc : Int) + off = (tgt : Int)) = true) (K1 : y < x → sm_W l lo hi d q tgt lv st h r h') (K2 : ¬ y < x → sm_W l lo hi d q (pc + 3) lv st h r h') : sm_W l lo hi d q pc lv (.int y :: .int x :: st) h r h' := by
  intro E hI p e s m args below meth c C H locs ls hP hS hl
  exact lv_icmp_gt C.1 C.2.1 hd (of_decide_eq_true ht) (fun z => K1 z E hI p e s m args below meth c C H locs ls hP hS hl) (fun z => K2 z E hI p e s m args below meth c C H locs ls hP hS hl)
theorem sm_if_le {x : Int32} {off : Int} (tgt : Nat) (hd : decode q.2.1 pc = .ok (.ifCond .le off, 3)) (ht : decide ((pc : Int) + off = (tgt : Int)) = true) (K1 : x ≤ 0 → sm_W l lo hi d q tgt lv st h r h') (K2 : ¬ x ≤ 0 → sm_W l lo hi d q (pc + 3) lv st h r h') : sm_W l lo hi d q pc lv (.int x :: st) h r h' := by
  intro E hI p e s m args below meth c C H locs ls hP hS hl
  exact lv_if_le C.1 C.2.1 hd (of_decide_eq_true ht) (fun z => K1 z E hI p e s m args below meth c C H locs ls hP hS hl) (fun z => K2 z E hI p e s m args below meth c C H locs ls hP hS hl)
theorem sm_icmp_le {x y : Int32} {off : Int} (tgt : Nat) (hd : decode q.2.1 pc = .ok (.if_icmp .le off, 3)) (ht : decide ((pc : Int) + off = (tgt : Int)) = true) (K1 : x ≤ y → sm_W l lo hi d q tgt lv st h r h') (K2 : ¬ x ≤ y → sm_W l lo hi d q (pc + 3) lv st h r h') : sm_W l lo hi d q pc lv (.int y :: .int x :: st) h r h' := by
  intro E hI p e s m args below meth c C H locs ls hP hS hl
  exact lv_icmp_le C.1 C.2.1 hd (of_decide_eq_true ht) (fun z => K1 z E hI p e s m args below meth c C H locs ls hP hS hl) (fun z => K2 z E hI p e s m args below meth c C H locs ls hP hS hl)
theorem sm_goto {off : Int} (tgt : Nat) (hd : decode q.2.1 pc = .ok (.goto off, 3)) (ht : decide ((pc : Int) + off = (tgt : Int)) = true) (K : sm_W l lo hi d q tgt lv st h r h') : sm_W l lo hi d q pc lv st h r h' := by
  intro E hI p e s m args below meth c C H locs ls hP hS hl
  exact lv_goto C.1 C.2.1 hd (of_decide_eq_true ht) (K E hI p e s m args below meth c C H locs ls hP hS hl)
theorem sm_lookup {dflt : Int} {ps : Array (Int × Int)} {len : Nat} {x : Int32} {off : Int} (tgt : Nat) (hd : decode q.2.1 pc = .ok (.lookupswitch dflt ps, len)) (hp : (ps.toList.zip (ps.toList.drop 1)).all (fun (a, next) => a.1 < next.1) = true) (ho : Op.lookupswitch.offset ps.toList dflt x.toInt = off) (ht : decide ((pc : Int) + off = (tgt : Int)) = true) (K : sm_W l lo hi d q tgt lv st h r h') : sm_W l lo hi d q pc lv (.int x :: st) h r h' := by
  intro E hI p e s m args below meth c C H locs ls hP hS hl
  exact lv_lookup C.1 C.2.1 hd hp ho (of_decide_eq_true ht) (K E hI p e s m args below meth c C H locs ls hP hS hl)
theorem sm_tableOut {dflt a b : Int} {offs : Array Int} {len : Nat} {x : Int32} (tgt : Nat) (hd : decode q.2.1 pc = .ok (.tableswitch dflt a b offs, len)) (hx : x.toInt < a ∨ b < x.toInt) (ht : decide ((pc : Int) + dflt = (tgt : Int)) = true) (K : sm_W l lo hi d q tgt lv st h r h') : sm_W l lo hi d q pc lv (.int x :: st) h r h' := by
  intro E hI p e s m args below meth c C H locs ls hP hS hl
  exact lv_tableOut C.1 C.2.1 hd hx (of_decide_eq_true ht) (K E hI p e s m args below meth c C H locs ls hP hS hl)
theorem sm_tableIn {dflt a b : Int} {offs : Array Int} {len : Nat} {x : Int32} {off : Int} (tgt : Nat) (hd : decode q.2.1 pc = .ok (.tableswitch dflt a b offs, len)) (h1 : ¬ x.toInt < a) (h2 : ¬ b < x.toInt) (ho : offs[(x.toInt - a).toNat]? = some off) (ht : decide ((pc : Int) + off = (tgt : Int)) = true) (K : sm_W l lo hi d q tgt lv st h r h') : sm_W l lo hi d q pc lv (.int x :: st) h r h' := by
  intro E hI p e s m args below meth c C H locs ls hP hS hl
  exact lv_tableIn C.1 C.2.1 hd h1 h2 ho (of_decide_eq_true ht) (K E hI p e s m args below meth c C H locs ls hP hS hl)
theorem sm_sub (ks : List Nat) {lv' : List (Nat × Value)} (hs : lv_pick lv ks = lv') (K : sm_W l lo hi d q pc lv' st h r h') : sm_W l lo hi d q pc lv st h r h' := by
  intro E hI p e s m args below meth c C H locs ls hP hS hl
  subst hs
  exact K E hI p e s m args below meth c C H locs ls hP hS (lv_sub hl ks (sm_pick E lv ks))
theorem sm_zret {ty : FieldType} {v : Int32} (hd : decode q.2.1 pc = .ok (.ireturn, 1)) (hr : q.2.2.2 = some ty) (hn : narrow ty (.int v) = .int v) : sm_W l lo hi d q pc lv [.int v] h (some (.int v)) h := by
  intro E hI p e s m args below meth c C H locs ls hP hS hl
  exact W.zret C.1 C.2.1 (C.2.2.2.1.trans hr) hn (fun t ht hW => ⟨rfl, by rw [ht]; exact hP, hS.F ht⟩) hS.2.2 hd C.2.2.2.2.1
theorem sm_iret {v : Int32} (hd : decode q.2.1 pc = .ok (.ireturn, 1)) (hr : q.2.2.2 = some .int) : sm_W l lo hi d q pc lv [.int v] h (some (.int v)) h := sm_zret hd hr rfl
theorem sm_bz_nar {v : Int32} (hv : sm_bz v = true) : narrow .boolean (.int v) = .int v ∧ fits .boolean (.int v) = true := by
  rcases of_decide_eq_true hv with rfl | rfl <;> exact ⟨rfl, rfl⟩
theorem sm_bret {v : Int32} (hv : sm_bz v = true) (hd : decode q.2.1 pc = .ok (.ireturn, 1)) (hr : q.2.2.2 = some .boolean) : sm_W l lo hi d q pc lv [.int v] h (some (.int v)) h := sm_zret hd hr (sm_bz_nar hv).1
theorem sm_vret (hd : decode q.2.1 pc = .ok (.return_, 1)) (hr : q.2.2.2 = none) : sm_W l lo hi d q pc lv [] h none h := by
  intro E hI p e s m args below meth c C H locs ls hP hS hl
  exact W.vret C.1 C.2.1 (C.2.2.2.1.trans hr) (fun t ht hW => ⟨rfl, by rw [ht]; exact hP, hS.F ht⟩) hS.2.2 hd C.2.2.2.2.1
theorem sm_aret {a : Nat} {n : String} (hd : decode q.2.1 pc = .ok (.areturn, 1)) (hr : q.2.2.2 = some (.object n)) : sm_W l lo hi d q pc lv [.ref a] h (some (.ref a)) h := by
  intro E hI p e s m args below meth c C H locs ls hP hS hl
  exact W.aret C.1 C.2.1 (C.2.2.2.1.trans hr) (Or.inl ⟨n, rfl⟩) (Or.inr ⟨_, rfl⟩) (fun t ht hW => ⟨rfl, by rw [ht]; exact hP, hS.F ht⟩) hS.2.2 hd C.2.2.2.2.1
end sm_rows
