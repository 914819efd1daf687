-- WORLDS THAT GROW: final references are null until they are set (rd: which are)
def sm_fvR (rd : Nat → Nat → Bool) (ad : Nat → Nat) (c k i : Nat) (h : sm_H) : Value := match sm_fk c k with
  | 0 => .int (h i k)
  | 1 => if h i k = 0 then .null else .ref (ad (h i k).toNatClampNeg)
  | 2 => .long (sm_jn (h i k) (h i (k + 1000)))
  | n + 3 => if rd i k = true then .ref (ad (i + n)) else .null
def sm_entR (rd : Nat → Nat → Bool) (E : sm_E) (h : sm_H) (i : Nat) : va_E := match sm_Ly i with
  | (0, c, _) => .inr (c, (List.range (sm_nf c)).map (fun k => sm_fvR rd E.2.2 c k i h))
  | (1, t, n) => .inl (E.2.1 t, n, .inl (h i))
  | (_, _, _) => .inl (E.2.1 3, 3, .inr (.inr (.inr (.inr (fun j => if h i j = 0 then none else some (E.2.2 (h i j).toNatClampNeg))))))
def sm_wsR (lo hi : Nat) (rd : Nat → Nat → Bool) (E : sm_E) (h : sm_H) : va_W := (List.range' lo (hi - lo)).map fun i => (E.2.2 i, sm_entR rd E h i)
theorem sm_entR0 {rd : Nat → Nat → Bool} {E : sm_E} {h : sm_H} {i c : Nat} (e : sm_Ly i = (0, c, 0)) : sm_entR rd E h i = .inr (c, (List.range (sm_nf c)).map (fun k => sm_fvR rd E.2.2 c k i h)) := by unfold sm_entR; rw [e]; rfl
theorem sm_entR1 {rd : Nat → Nat → Bool} {E : sm_E} {h : sm_H} {i t n : Nat} (e : sm_Ly i = (1, t, n)) : sm_entR rd E h i = .inl (E.2.1 t, n, .inl (h i)) := by unfold sm_entR; rw [e]; rfl
theorem sm_entR2 {rd : Nat → Nat → Bool} {E : sm_E} {h : sm_H} {i b s : Nat} (e : sm_Ly i = (2, b, s)) : sm_entR rd E h i = .inl (E.2.1 3, 3, .inr (.inr (.inr (.inr (fun j => if h i j = 0 then none else some (E.2.2 (h i j).toNatClampNeg)))))) := by unfold sm_entR; rw [e]; rfl
theorem sm_wsR_get {lo hi : Nat} {rd : Nat → Nat → Bool} {E : sm_E} {h : sm_H} {i : Nat} (h1 : lo ≤ i) (h2 : i < hi) : (sm_wsR lo hi rd E h)[i - lo]? = some (E.2.2 i, sm_entR rd E h i) := by
  unfold sm_wsR
  rw [List.getElem?_map, List.getElem?_range' (by omega)]
  simp only [Option.map_some, Nat.one_mul]
  rw [show lo + (i - lo) = i by omega]
theorem sm_wsR_at {lo hi : Nat} {rd : Nat → Nat → Bool} {E : sm_E} {h : sm_H} {k : Nat} {q : Nat × va_E} (hk : (sm_wsR lo hi rd E h)[k]? = some q) : lo ≤ lo + k ∧ lo + k < hi ∧ q = (E.2.2 (lo + k), sm_entR rd E h (lo + k)) := by
  unfold sm_wsR at hk
  rw [List.getElem?_map] at hk
  by_cases hl : k < hi - lo
  · rw [List.getElem?_range' hl] at hk
    simp only [Option.map_some, Nat.one_mul] at hk
    exact ⟨by omega, by omega, (Option.some.inj hk).symm⟩
  · rw [List.getElem?_eq_none (by simp; omega)] at hk
    cases hk
theorem sm_wsR_set {lo hi : Nat} {rd rd' : Nat → Nat → Bool} {E : sm_E} {h h' : sm_H} {i : Nat} (h1 : lo ≤ i) (h2 : i < hi) (he : ∀ j, j ≠ i → sm_entR rd' E h' j = sm_entR rd E h j) : (sm_wsR lo hi rd E h).set (i - lo) (E.2.2 i, sm_entR rd' E h' i) = sm_wsR lo hi rd' E h' := by
  apply List.ext_getElem?
  intro k
  by_cases hk : k = i - lo
  · subst hk
    rw [sm_wsR_get h1 h2, List.getElem?_set_self (by unfold sm_wsR; simp; omega)]
  · rw [List.getElem?_set_ne (Ne.symm hk)]
    by_cases hl : k < hi - lo
    · have g1 := sm_wsR_get (rd := rd) (E := E) (h := h) (show lo ≤ lo + k by omega) (show lo + k < hi by omega)
      have g2 := sm_wsR_get (rd := rd') (E := E) (h := h') (show lo ≤ lo + k by omega) (show lo + k < hi by omega)
      rw [show lo + k - lo = k by omega] at g1 g2
      rw [g1, g2, he (lo + k) (by omega)]
    · rw [List.getElem?_eq_none (by unfold sm_wsR; simp; omega), List.getElem?_eq_none (by unfold sm_wsR; simp; omega)]
theorem sm_wsR_cong {lo hi : Nat} {rd rd' : Nat → Nat → Bool} {E E' : sm_E} {h h' : sm_H} (he : ∀ i, lo ≤ i → i < hi → E'.2.2 i = E.2.2 i ∧ sm_entR rd' E' h' i = sm_entR rd E h i) : sm_wsR lo hi rd' E' h' = sm_wsR lo hi rd E h := by
  unfold sm_wsR
  apply List.map_congr_left
  intro i hi'
  obtain ⟨k, hk, e⟩ := List.mem_range'.mp hi'
  have := he i (by omega) (by omega)
  rw [this.1, this.2]
theorem sm_wsR_push {lo hi : Nat} (hlo : lo ≤ hi) {rd : Nat → Nat → Bool} {E E' : sm_E} {h : sm_H} (he : ∀ i, lo ≤ i → i < hi → E'.2.2 i = E.2.2 i ∧ sm_entR rd E' h i = sm_entR rd E h i) : sm_wsR lo (hi + 1) rd E' h = sm_wsR lo hi rd E h ++ [(E'.2.2 hi, sm_entR rd E' h hi)] := by
  rw [← sm_wsR_cong he]
  unfold sm_wsR
  rw [show hi + 1 - lo = (hi - lo) + 1 by omega, List.range'_concat]
  rw [List.map_append]
  simp only [List.map_cons, List.map_nil, Nat.one_mul]
  rw [show lo + (hi - lo) = hi by omega]
-- where the final references are all set
def sm_allR (rd : Nat → Nat → Bool) (i : Nat) : Bool := match sm_Ly i with
  | (0, c, _) => (List.range (sm_nf c)).all fun k => Nat.ble (sm_fk c k) 2 || rd i k
  | _ => true
def sm_full (lo hi : Nat) (rd : Nat → Nat → Bool) : Bool := (List.range' lo (hi - lo)).all fun i => sm_allR rd i
def sm_rd (a c : Nat) (ps : List (Nat × Nat)) : Nat → Nat → Bool := fun i k => (Nat.ble a i && Nat.ble (i + 1) c) || ps.any (fun z => Nat.beq z.1 i && Nat.beq z.2 k)
def sm_sameAt (rd rd' : Nat → Nat → Bool) (i : Nat) : Bool := match sm_Ly i with
  | (0, c, _) => (List.range (sm_nf c)).all fun k => Nat.ble (sm_fk c k) 2 || (rd i k == rd' i k)
  | (1, _, _) => true
  | (2, _, _) => true
  | _ => false
def sm_same (lo hi : Nat) (rd rd' : Nat → Nat → Bool) : Bool := (List.range' lo (hi - lo)).all fun i => sm_sameAt rd rd' i
theorem sm_fvR_cong {rd rd' : Nat → Nat → Bool} {ad : Nat → Nat} {c k i : Nat} {h : sm_H} (e : Nat.ble (sm_fk c k) 2 = true ∨ rd i k = rd' i k) : sm_fvR rd ad c k i h = sm_fvR rd' ad c k i h := by
  unfold sm_fvR
  rcases e with e | e
  · have := Nat.le_of_ble_eq_true e
    match hq : sm_fk c k, this with
    | 0, _ => rfl
    | 1, _ => rfl
    | 2, _ => rfl
    | n + 3, z => omega
  · rw [e]
theorem sm_redo {lo hi : Nat} {rd rd' : Nat → Nat → Bool} {E : sm_E} {h : sm_H} {H : Heap} {A : Nat → Prop} (hs : sm_same lo hi rd rd' = true) (hP : va_P E.1 sm_cl (sm_wsR lo hi rd E h) H) (hD : va_D A (sm_wsR lo hi rd E h)) : va_P E.1 sm_cl (sm_wsR lo hi rd' E h) H ∧ va_D A (sm_wsR lo hi rd' E h) := by
  refine ⟨fun k q hk => ?_, ?_, ?_⟩
  · obtain ⟨a1, a2, rfl⟩ := sm_wsR_at hk
    have h0 := hP _ _ (sm_wsR_get (rd := rd) (E := E) (h := h) a1 a2)
    have g := List.all_eq_true.mp hs (lo + k) (List.mem_range'.mpr ⟨k, by omega, by omega⟩)
    unfold sm_sameAt at g
    match hL : sm_Ly (lo + k) with
    | (0, c, x) =>
      rw [hL] at g
      have e : sm_entR rd' E h (lo + k) = sm_entR rd E h (lo + k) := by
        unfold sm_entR
        rw [hL]
        simp only
        congr 2
        apply List.map_congr_left
        intro j hj
        have g2 := List.all_eq_true.mp g j hj
        simp only [Bool.or_eq_true, beq_iff_eq] at g2
        exact (sm_fvR_cong g2).symm
      rw [e]; exact h0
    | (1, t, n) =>
      rw [sm_entR1 hL] at h0 ⊢
      exact h0
    | (2, b, s) =>
      rw [sm_entR2 hL] at h0 ⊢
      exact h0
    | (x + 3, b, s) =>
      rw [hL] at g
      cases g
  · intro i j p q hp hq hpq
    obtain ⟨a1, a2, rfl⟩ := sm_wsR_at hp
    obtain ⟨b1, b2, rfl⟩ := sm_wsR_at hq
    have g1 := sm_wsR_get (rd := rd) (E := E) (h := h) a1 a2
    have g2 := sm_wsR_get (rd := rd) (E := E) (h := h) b1 b2
    rw [show lo + i - lo = i by omega] at g1
    rw [show lo + j - lo = j by omega] at g2
    exact hD.1 i j _ _ g1 g2 hpq
  · intro k q hk
    obtain ⟨a1, a2, rfl⟩ := sm_wsR_at hk
    have z := hD.2 _ _ (sm_wsR_get (rd := rd) (E := E) (h := h) a1 a2)
    exact z
theorem sm_wsR_true {lo hi : Nat} {E : sm_E} {h : sm_H} : sm_wsR lo hi (fun _ _ => true) E h = sm_ws lo hi E h := by
  have e1 : ∀ c k i, sm_fvR (fun _ _ => true) E.2.2 c k i h = sm_fv E.2.2 c k i h := by
    intro c k i
    unfold sm_fvR sm_fv
    generalize sm_fk c k = z
    match z with
    | 0 => rfl
    | 1 => rfl
    | 2 => rfl
    | n + 3 => rfl
  unfold sm_wsR sm_ws
  apply List.map_congr_left
  intro i _
  have e2 : sm_entR (fun _ _ => true) E h i = sm_ent E h i := by
    unfold sm_entR sm_ent
    simp only [e1]
    generalize sm_Ly i = z
    match z with
    | (0, _, _) => rfl
    | (1, _, _) => rfl
    | (x + 2, _, _) => rfl
  rw [e2]
-- THE JUDGEMENT OVER A GROWING WORLD
def sm_P (E0 : sm_E) (hi0 : Nat) (E : sm_E) : Prop := E.1 = E0.1 ∧ E.2.1 = E0.2.1 ∧ ∀ i, (i < hi0 ∨ 5000 ≤ i) → E.2.2 i = E0.2.2 i
def sm_STb (base : Nat) (E : sm_E) (U : State) (H : Heap) : Prop := vk_S 28 sm_sl sm_sb (fun k => E.2.2 (5000 + k)) (fun k => E.2.2 (6000 + k)) (fun q => base ≤ q) U H ∧ va_Z "java/lang/String" "COMPACT_STRINGS" "Z" (.int 1) (fun q => base ≤ q) U H ∧ (va_Z "jdk/internal/util/Preconditions" "SIOOBE_FORMATTER" "Ljava/util/function/BiFunction;" .null (fun q => base ≤ q) U H ∨ va_Z "jdk/internal/util/Preconditions" "SIOOBE_FORMATTER" "Ljava/util/function/BiFunction;" (.ref (E.2.2 7000)) (fun q => base ≤ q) U H)
def sm_G (base : Nat) (E0 : sm_E) (Aq : Nat → Prop) (p : Program) (s : State) (m : MethodId) (args : Array Value) (c : Code) (cc : ByteArray) (nL : Nat) (own : String) : Prop :=
  p.tables.exec = Jvm.exec ∧ c.code = cc ∧ c.maxLocals = nL ∧ s.vm.findClass own = some m.cls ∧ (∀ w ∈ sm_LT, w.before args s = true) ∧ sm_KK E0 s ∧ sm_STb base E0 s s.heap ∧ va_AO "SmokeControl$State" s ∧ (∀ q, s.heap.size ≤ q → Aq q) ∧ (∀ q, Aq q → base ≤ q)
def sm_C (p : Program) (l : Launch) (e : Env) (R : Room) (s : State) (m : MethodId) (args : Array Value) (below : List Frame) (meth : Method) (c : Code) (Q : State → Prop) (Aq : Nat → Prop) (E0 : sm_E) (hi0 nL lo hi : Nat) (rd : Nat → Nat → Bool) (k n pc : Nat) (lv : List (Nat × Value)) (st : List Value) (h : sm_H) : Prop :=
  ∀ E, sm_P E0 hi0 E → ∀ (H : Heap) (locs : List Loc) (ls : Array Slot), va_P E.1 sm_cl (sm_wsR lo hi rd E h) H → va_D Aq (sm_wsR lo hi rd E h) → va_S Aq s.heap H locs → lv_has ls nL (lv.map (sm_c2 E)) →
    W p l e R s m args below meth c H locs k n Q (F0 m pc ls (st.map (sm_cv E)))
theorem sm_P.kk {E0 E : sm_E} {hi0 : Nat} {U : State} (h : sm_P E0 hi0 E) (hk : sm_KK E0 U) : sm_KK E U := by
  obtain ⟨h1, h2, h3⟩ := h
  unfold sm_KK sm_tys at hk ⊢
  rw [h1, h2]
  exact ⟨hk.1, hk.2.1, fun k q hq => by rw [h3 _ (Or.inr (by omega))]; exact hk.2.2 k q hq⟩
theorem sm_P.stb {E0 E : sm_E} {hi0 base : Nat} {U : State} {H : Heap} (h : sm_P E0 hi0 E) (hk : sm_STb base E0 U H) : sm_STb base E U H := by
  obtain ⟨h1, h2, h3⟩ := h
  have e1 : (fun k => E.2.2 (5000 + k)) = fun k => E0.2.2 (5000 + k) := funext fun k => h3 _ (Or.inr (by omega))
  have e2 : (fun k => E.2.2 (6000 + k)) = fun k => E0.2.2 (6000 + k) := funext fun k => h3 _ (Or.inr (by omega))
  unfold sm_STb at hk ⊢
  rw [e1, e2, h3 7000 (Or.inr (by omega))]
  exact hk
theorem sm_STb.moved {base : Nat} {E : sm_E} {u U : State} {H : Heap} (hvm : u.vm.Alike U.vm) (h : sm_STb base E u H) : sm_STb base E U H := ⟨vk_S.moved hvm h.1, va_Z.moved hvm h.2.1, h.2.2.imp (va_Z.moved hvm) (va_Z.moved hvm)⟩
theorem sm_STb.kept {base : Nat} {E : sm_E} {U : State} {H H1 : Heap} (h : sm_STb base E U H) (hq : ∀ a : Nat, a < H.size → ¬ base ≤ a → H1[a]? = H[a]?) : sm_STb base E U H1 := ⟨vk_S.kept h.1 hq, va_Z.kept h.2.1 hq, h.2.2.imp (fun z => va_Z.kept z hq) (fun z => va_Z.kept z hq)⟩
theorem sm_STb.st {base lo hi : Nat} {E : sm_E} {U : State} {H : Heap} (h : sm_STb base E U H) (hb : ∀ q, sm_A lo hi E q → base ≤ q) : sm_ST lo hi E U H := ⟨vk_S.narrow h.1 hb, va_Z.narrow h.2.1 hb, h.2.2.imp (fun z => va_Z.narrow z hb) (fun z => va_Z.narrow z hb)⟩
section sm_rows5
variable {p : Program} {l : Launch} {e : Env} {R : Room} {s : State} {m : MethodId} {args : Array Value} {below : List Frame} {meth : Method} {c : Code} {Q : State → Prop} {Aq : Nat → Prop} {E0 : sm_E} {hi0 nL lo hi : Nat} {rd : Nat → Nat → Bool} {k n pc : Nat} {lv : List (Nat × Value)} {st : List Value} {h : sm_H} {base : Nat} {cc : ByteArray} {own : String}
theorem c_iconst (G : sm_G base E0 Aq p s m args c cc nL own) {z : Int} {v : Int32} (hv : Int32.ofInt z = v) (hd : decode cc pc = .ok (.iconst z, 1)) (K : sm_C p l e R s m args below meth c Q Aq E0 hi0 nL lo hi rd k n (pc + 1) lv (.int v :: st) h) : sm_C p l e R s m args below meth c Q Aq E0 hi0 nL lo hi rd k n pc lv st h := by
  intro E hE H locs ls hP hD hS hl
  exact lv_iconst G.1 G.2.1 hd hv (K E hE H locs ls hP hD hS hl)
theorem c_bipush (G : sm_G base E0 Aq p s m args c cc nL own) {z : Int} {v : Int32} (hv : (Int8.ofInt z).toInt32 = v) (hd : decode cc pc = .ok (.bipush z, 2)) (K : sm_C p l e R s m args below meth c Q Aq E0 hi0 nL lo hi rd k n (pc + 2) lv (.int v :: st) h) : sm_C p l e R s m args below meth c Q Aq E0 hi0 nL lo hi rd k n pc lv st h := by
  intro E hE H locs ls hP hD hS hl
  exact lv_bipush G.1 G.2.1 hd hv (K E hE H locs ls hP hD hS hl)
theorem c_sipush (G : sm_G base E0 Aq p s m args c cc nL own) {z : Int} {v : Int32} (hv : (Int16.ofInt z).toInt32 = v) (hd : decode cc pc = .ok (.sipush z, 3)) (K : sm_C p l e R s m args below meth c Q Aq E0 hi0 nL lo hi rd k n (pc + 3) lv (.int v :: st) h) : sm_C p l e R s m args below meth c Q Aq E0 hi0 nL lo hi rd k n pc lv st h := by
  intro E hE H locs ls hP hD hS hl
  exact lv_sipush G.1 G.2.1 hd hv (K E hE H locs ls hP hD hS hl)
theorem c_aload_n (G : sm_G base E0 Aq p s m args c cc nL own) {f : Fin 4} {x : Nat} (j : Nat) (hj : lv[j]? = some ((f : Nat), .ref x)) (hd : decode cc pc = .ok (.aload_n f, 1)) (K : sm_C p l e R s m args below meth c Q Aq E0 hi0 nL lo hi rd k n (pc + 1) lv (.ref x :: st) h) : sm_C p l e R s m args below meth c Q Aq E0 hi0 nL lo hi rd k n pc lv st h := by
  intro E hE H locs ls hP hD hS hl
  exact lv_aload_n G.1 G.2.1 hd rfl (sm_lvat hl j hj) (K E hE H locs ls hP hD hS hl)
theorem c_iload_n (G : sm_G base E0 Aq p s m args c cc nL own) {f : Fin 4} {x : Int32} (j : Nat) (hj : lv[j]? = some ((f : Nat), .int x)) (hd : decode cc pc = .ok (.iload_n f, 1)) (K : sm_C p l e R s m args below meth c Q Aq E0 hi0 nL lo hi rd k n (pc + 1) lv (.int x :: st) h) : sm_C p l e R s m args below meth c Q Aq E0 hi0 nL lo hi rd k n pc lv st h := by
  intro E hE H locs ls hP hD hS hl
  exact lv_iload_n G.1 G.2.1 hd rfl (sm_lvat hl j hj) (K E hE H locs ls hP hD hS hl)
theorem c_dup (G : sm_G base E0 Aq p s m args c cc nL own) {v : Value} (hc : v.category = 1) (hd : decode cc pc = .ok (.dup, 1)) (K : sm_C p l e R s m args below meth c Q Aq E0 hi0 nL lo hi rd k n (pc + 1) lv (v :: v :: st) h) : sm_C p l e R s m args below meth c Q Aq E0 hi0 nL lo hi rd k n pc lv (v :: st) h := by
  intro E hE H locs ls hP hD hS hl
  exact lv_dup G.1 G.2.1 hd (by rw [sm_cv_cat]; exact hc) (K E hE H locs ls hP hD hS hl)
theorem c_iadd (G : sm_G base E0 Aq p s m args c cc nL own) {x y : Int32} (hd : decode cc pc = .ok (.iadd, 1)) (K : sm_C p l e R s m args below meth c Q Aq E0 hi0 nL lo hi rd k n (pc + 1) lv (.int (x + y) :: st) h) : sm_C p l e R s m args below meth c Q Aq E0 hi0 nL lo hi rd k n pc lv (.int y :: .int x :: st) h := by
  intro E hE H locs ls hP hD hS hl
  exact lv_iadd G.1 G.2.1 hd (K E hE H locs ls hP hD hS hl)
theorem c_isub (G : sm_G base E0 Aq p s m args c cc nL own) {x y : Int32} (hd : decode cc pc = .ok (.isub, 1)) (K : sm_C p l e R s m args below meth c Q Aq E0 hi0 nL lo hi rd k n (pc + 1) lv (.int (x - y) :: st) h) : sm_C p l e R s m args below meth c Q Aq E0 hi0 nL lo hi rd k n pc lv (.int y :: .int x :: st) h := by
  intro E hE H locs ls hP hD hS hl
  exact lv_isub G.1 G.2.1 hd (K E hE H locs ls hP hD hS hl)
theorem c_iand (G : sm_G base E0 Aq p s m args c cc nL own) {x y : Int32} (hd : decode cc pc = .ok (.iand, 1)) (K : sm_C p l e R s m args below meth c Q Aq E0 hi0 nL lo hi rd k n (pc + 1) lv (.int (x &&& y) :: st) h) : sm_C p l e R s m args below meth c Q Aq E0 hi0 nL lo hi rd k n pc lv (.int y :: .int x :: st) h := by
  intro E hE H locs ls hP hD hS hl
  exact lv_iand G.1 G.2.1 hd (K E hE H locs ls hP hD hS hl)
theorem c_istore_n (G : sm_G base E0 Aq p s m args c cc nL own) {f : Fin 4} {x : Int32} {lv' : List (Nat × Value)} (hd : decode cc pc = .ok (.istore_n f, 1)) (hn : Nat.ble ((f : Nat) + 1) nL = true) (hs : sm_set lv f (.int x) = lv') (K : sm_C p l e R s m args below meth c Q Aq E0 hi0 nL lo hi rd k n (pc + 1) lv' st h) : sm_C p l e R s m args below meth c Q Aq E0 hi0 nL lo hi rd k n pc lv (.int x :: st) h := by
  intro E hE H locs ls hP hD hS hl
  subst hs
  exact lv_istore_n G.1 G.2.1 hd rfl hl (Nat.le_of_ble_eq_true hn) (sm_set_map E lv _ (.int x)) (fun ls hl => K E hE H locs ls hP hD hS hl)
theorem c_astore_n (G : sm_G base E0 Aq p s m args c cc nL own) {f : Fin 4} {x : Nat} {lv' : List (Nat × Value)} (hd : decode cc pc = .ok (.astore_n f, 1)) (hn : Nat.ble ((f : Nat) + 1) nL = true) (hs : sm_set lv f (.ref x) = lv') (K : sm_C p l e R s m args below meth c Q Aq E0 hi0 nL lo hi rd k n (pc + 1) lv' st h) : sm_C p l e R s m args below meth c Q Aq E0 hi0 nL lo hi rd k n pc lv (.ref x :: st) h := by
  intro E hE H locs ls hP hD hS hl
  subst hs
  exact lv_astore_n G.1 G.2.1 hd rfl hl (Nat.le_of_ble_eq_true hn) (sm_set_map E lv _ (.ref x)) (fun ls hl => K E hE H locs ls hP hD hS hl)
theorem c_iinc (G : sm_G base E0 Aq p s m args c cc nL own) {i : Nat} {z : Int} {x v : Int32} {lv' : List (Nat × Value)} (j : Nat) (hj : lv[j]? = some (i, .int x)) (hv : x + Int32.ofInt z = v) (hd : decode cc pc = .ok (.iinc i z, 3)) (hn : Nat.ble (i + 1) nL = true) (hs : sm_set lv i (.int v) = lv') (K : sm_C p l e R s m args below meth c Q Aq E0 hi0 nL lo hi rd k n (pc + 3) lv' st h) : sm_C p l e R s m args below meth c Q Aq E0 hi0 nL lo hi rd k n pc lv st h := by
  intro E hE H locs ls hP hD hS hl
  subst hs
  exact lv_iinc G.1 G.2.1 hd hl (k := j) (by rw [List.getElem?_map, hj]; rfl) hv (Nat.le_of_ble_eq_true hn) (sm_set_map E lv i (.int v)) (fun ls hl => K E hE H locs ls hP hD hS hl)
theorem c_icmp_eq (G : sm_G base E0 Aq p s m args c cc nL own) {x y : Int32} {off : Int} (tgt : Nat) (hd : decode cc pc = .ok (.if_icmp .eq off, 3)) (ht : decide ((pc : Int) + off = (tgt : Int)) = true) (K1 : x = y → sm_C p l e R s m args below meth c Q Aq E0 hi0 nL lo hi rd k n tgt lv st h) (K2 : ¬ x = y → sm_C p l e R s m args below meth c Q Aq E0 hi0 nL lo hi rd k n (pc + 3) lv st h) : sm_C p l e R s m args below meth c Q Aq E0 hi0 nL lo hi rd k n pc lv (.int y :: .int x :: st) h := by
  intro E hE H locs ls hP hD hS hl
  exact lv_icmp_eq G.1 G.2.1 hd (of_decide_eq_true ht) (fun z => K1 z E hE H locs ls hP hD hS hl) (fun z => K2 z E hE H locs ls hP hD hS hl)
theorem c_icmp_gt (G : sm_G base E0 Aq p s m args c cc nL own) {x y : Int32} {off : Int} (tgt : Nat) (hd : decode cc pc = .ok (.if_icmp .gt off, 3)) (ht : decide ((pc : Int) + off = (tgt : Int)) = true) (K1 : y < x → sm_C p l e R s m args below meth c Q Aq E0 hi0 nL lo hi rd k n tgt lv st h) (K2 : ¬ y < x → sm_C p l e R s m args below meth c Q Aq E0 hi0 nL lo hi rd k n (pc + 3) lv st h) : sm_C p l e R s m args below meth c Q Aq E0 hi0 nL lo hi rd k n pc lv (.int y :: .int x :: st) h := by
  intro E hE H locs ls hP hD hS hl
  exact lv_icmp_gt G.1 G.2.1 hd (of_decide_eq_true ht) (fun z => K1 z E hE H locs ls hP hD hS hl) (fun z => K2 z E hE H locs ls hP hD hS hl)
theorem c_if_eq (G : sm_G base E0 Aq p s m args c cc nL own) {x : Int32} {off : Int} (tgt : Nat) (hd : decode cc pc = .ok (.ifCond .eq off, 3)) (ht : decide ((pc : Int) + off = (tgt : Int)) = true) (K1 : x = 0 → sm_C p l e R s m args below meth c Q Aq E0 hi0 nL lo hi rd k n tgt lv st h) (K2 : ¬ x = 0 → sm_C p l e R s m args below meth c Q Aq E0 hi0 nL lo hi rd k n (pc + 3) lv st h) : sm_C p l e R s m args below meth c Q Aq E0 hi0 nL lo hi rd k n pc lv (.int x :: st) h := by
  intro E hE H locs ls hP hD hS hl
  exact lv_if_eq G.1 G.2.1 hd (of_decide_eq_true ht) (fun z => K1 z E hE H locs ls hP hD hS hl) (fun z => K2 z E hE H locs ls hP hD hS hl)
theorem c_goto (G : sm_G base E0 Aq p s m args c cc nL own) {off : Int} (tgt : Nat) (hd : decode cc pc = .ok (.goto off, 3)) (ht : decide ((pc : Int) + off = (tgt : Int)) = true) (K : sm_C p l e R s m args below meth c Q Aq E0 hi0 nL lo hi rd k n tgt lv st h) : sm_C p l e R s m args below meth c Q Aq E0 hi0 nL lo hi rd k n pc lv st h := by
  intro E hE H locs ls hP hD hS hl
  exact lv_goto G.1 G.2.1 hd (of_decide_eq_true ht) (K E hE H locs ls hP hD hS hl)
theorem c_tableOut (G : sm_G base E0 Aq p s m args c cc nL own) {dflt a b : Int} {offs : Array Int} {len : Nat} {x : Int32} (tgt : Nat) (hd : decode cc pc = .ok (.tableswitch dflt a b offs, len)) (hx : x.toInt < a ∨ b < x.toInt) (ht : decide ((pc : Int) + dflt = (tgt : Int)) = true) (K : sm_C p l e R s m args below meth c Q Aq E0 hi0 nL lo hi rd k n tgt lv st h) : sm_C p l e R s m args below meth c Q Aq E0 hi0 nL lo hi rd k n pc lv (.int x :: st) h := by
  intro E hE H locs ls hP hD hS hl
  exact lv_tableOut G.1 G.2.1 hd hx (of_decide_eq_true ht) (K E hE H locs ls hP hD hS hl)
theorem c_tableIn (G : sm_G base E0 Aq p s m args c cc nL own) {dflt a b : Int} {offs : Array Int} {len : Nat} {x : Int32} {off : Int} (tgt : Nat) (hd : decode cc pc = .ok (.tableswitch dflt a b offs, len)) (h1 : ¬ x.toInt < a) (h2 : ¬ b < x.toInt) (ho : offs[(x.toInt - a).toNat]? = some off) (ht : decide ((pc : Int) + off = (tgt : Int)) = true) (K : sm_C p l e R s m args below meth c Q Aq E0 hi0 nL lo hi rd k n tgt lv st h) : sm_C p l e R s m args below meth c Q Aq E0 hi0 nL lo hi rd k n pc lv (.int x :: st) h := by
  intro E hE H locs ls hP hD hS hl
  exact lv_tableIn G.1 G.2.1 hd h1 h2 ho (of_decide_eq_true ht) (K E hE H locs ls hP hD hS hl)
theorem c_sub (ks : List Nat) {lv' : List (Nat × Value)} (hs : lv_pick lv ks = lv') (K : sm_C p l e R s m args below meth c Q Aq E0 hi0 nL lo hi rd k n pc lv' st h) : sm_C p l e R s m args below meth c Q Aq E0 hi0 nL lo hi rd k n pc lv st h := by
  intro E hE H locs ls hP hD hS hl
  subst hs
  exact K E hE H locs _ hP hD hS (lv_sub hl ks (sm_pick E lv ks))
theorem c_obj (G : sm_G base E0 Aq p s m args c cc nL own) {idx a : Nat} (hlink : Cond.methodLink own idx Lib.objectInit ∈ sm_LT) (hR : 1 ≤ R.frames ∧ (st.map fun v => v.category).sum + 12 ≤ R.locals) (hd : decode cc pc = .ok (.invokespecial idx, 3)) (K : sm_C p l e R s m args below meth c Q Aq E0 hi0 nL lo hi rd k n (pc + 3) lv st h) (w1 : Cond.instanceMethod Lib.objectInit ∈ sm_LT := by exact sm_mq1 26 (by decide +kernel) rfl) (w2 : Cond.code Lib.objectInit ⟨#[0xb1]⟩ 1 none ∈ sm_LT := by exact sm_mq1 27 rfl rfl) : sm_C p l e R s m args below meth c Q Aq E0 hi0 nL lo hi rd k n pc lv (.ref a :: st) h := by
  intro E hE H locs ls hP hD hS hl
  exact W.objInit G.1 G.2.1 G.2.2.2.1 (G.2.2.2.2.1 _ hlink) (G.2.2.2.2.1 _ w1) (G.2.2.2.2.1 _ w2) rfl (by rw [G.2.2.1]; exact hl.1) rfl hd hR.1 (by show 2 * 0 + _ + 12 ≤ _; rw [sm_cat]; omega) (K E hE H locs ls hP hD hS hl)
-- what was there before stays, when the next cell is made
def sm_old (hi : Nat) (st : List Value) : Bool := st.all fun v => match v with
  | .ref i => !Nat.beq i hi
  | _ => true
def sm_oldL (hi : Nat) (lv : List (Nat × Value)) : Bool := sm_old hi (lv.map (fun q => q.2))
def sm_nx (E : sm_E) (hi q : Nat) : sm_E := (E.1, E.2.1, fun i => if i = hi then q else E.2.2 i)
theorem sm_old_eq {E : sm_E} {hi q : Nat} {st : List Value} (h : sm_old hi st = true) : st.map (sm_cv (sm_nx E hi q)) = st.map (sm_cv E) := by
  apply List.map_congr_left
  intro v hv
  have g := List.all_eq_true.mp h v hv
  cases v with
  | ref i =>
    have hne : ¬ i = hi := fun z => by subst z; simp at g
    unfold sm_cv sm_nx
    simp only [if_neg hne]
  | _ => rfl
theorem sm_oldL_eq {E : sm_E} {hi q : Nat} {lv : List (Nat × Value)} (h : sm_oldL hi lv = true) : lv.map (sm_c2 (sm_nx E hi q)) = lv.map (sm_c2 E) := by
  apply List.map_congr_left
  intro v hv
  have g := List.all_eq_true.mp h v.2 (List.mem_map.mpr ⟨v, hv, rfl⟩)
  have e : sm_cv (sm_nx E hi q) v.2 = sm_cv E v.2 := by
    cases hz : v.2 with
    | ref i =>
      rw [hz] at g
      have hne : ¬ i = hi := fun z => by subst z; simp at g
      unfold sm_cv sm_nx
      simp only [if_neg hne]
    | _ => rfl
  unfold sm_c2
  rw [e]
def sm_cls (lo hi : Nat) (rd : Nat → Nat → Bool) : Bool := (List.range' lo (hi - lo)).all fun i => match sm_Ly i with
  | (0, c, _) => (List.range (sm_nf c)).all fun k => match sm_fk c k with
    | n + 3 => !rd i k || !Nat.beq (i + n) hi
    | _ => true
  | (1, _, _) => true
  | (2, _, _) => true
  | _ => false
def sm_dy (lo hi : Nat) (h : sm_H) : Prop := (∀ i c k, lo ≤ i → i < hi → sm_Ly i = (0, c, 0) → sm_fk c k = 1 → h i k = 0 ∨ (h i k).toNatClampNeg ≠ hi) ∧ ∀ i b k j, lo ≤ i → i < hi → sm_Ly i = (2, b, k) → j < 3 → h i j = 0 ∨ (h i j).toNatClampNeg ≠ hi
theorem sm_wP_of {lo hi : Nat} {rd : Nat → Nat → Bool} {E : sm_E} {h : sm_H} {H : Heap} (hP : va_P E.1 sm_cl (sm_wsR lo hi rd E h) H) : ∀ i, lo ≤ i → i < hi → va_at E.1 sm_cl (E.2.2 i, sm_entR rd E h i) H := fun i a b => hP _ _ (sm_wsR_get a b)
theorem sm_wP_to {lo hi : Nat} {rd : Nat → Nat → Bool} {E : sm_E} {h : sm_H} {H : Heap} (hP : ∀ i, lo ≤ i → i < hi → va_at E.1 sm_cl (E.2.2 i, sm_entR rd E h i) H) : va_P E.1 sm_cl (sm_wsR lo hi rd E h) H := fun k q hk => by
  obtain ⟨a1, a2, rfl⟩ := sm_wsR_at hk
  exact hP _ a1 a2
theorem sm_wD_of {lo hi : Nat} {rd : Nat → Nat → Bool} {E : sm_E} {h : sm_H} {A : Nat → Prop} (hD : va_D A (sm_wsR lo hi rd E h)) : (∀ i j, lo ≤ i → i < hi → lo ≤ j → j < hi → E.2.2 i = E.2.2 j → i = j) ∧ ∀ i, lo ≤ i → i < hi → A (E.2.2 i) := by
  refine ⟨fun i j a b c d e => ?_, fun i a b => hD.2 _ _ (sm_wsR_get (rd := rd) (E := E) (h := h) a b)⟩
  have := hD.1 _ _ _ _ (sm_wsR_get (rd := rd) (E := E) (h := h) a b) (sm_wsR_get (rd := rd) (E := E) (h := h) c d) e
  omega
theorem sm_wD_to {lo hi : Nat} {rd : Nat → Nat → Bool} {E : sm_E} {h : sm_H} {A : Nat → Prop} (hD : (∀ i j, lo ≤ i → i < hi → lo ≤ j → j < hi → E.2.2 i = E.2.2 j → i = j) ∧ ∀ i, lo ≤ i → i < hi → A (E.2.2 i)) : va_D A (sm_wsR lo hi rd E h) := by
  refine ⟨fun i j p q hp hq hpq => ?_, fun k q hk => ?_⟩
  · obtain ⟨a1, a2, rfl⟩ := sm_wsR_at hp
    obtain ⟨b1, b2, rfl⟩ := sm_wsR_at hq
    have := hD.1 _ _ a1 a2 b1 b2 hpq
    omega
  · obtain ⟨a1, a2, rfl⟩ := sm_wsR_at hk
    exact hD.2 _ a1 a2
theorem sm_nx_at {lo hi i q : Nat} {rd : Nat → Nat → Bool} {E : sm_E} {h : sm_H} {H : Heap} (hc : sm_cls lo hi rd = true) (hy : sm_dy lo hi h) (h1 : lo ≤ i) (h2 : i < hi) (h0 : va_at E.1 sm_cl (E.2.2 i, sm_entR rd E h i) H) : va_at (sm_nx E hi q).1 sm_cl ((sm_nx E hi q).2.2 i, sm_entR rd (sm_nx E hi q) h i) H := by
  have ei : (sm_nx E hi q).2.2 i = E.2.2 i := by
    show (if i = hi then q else E.2.2 i) = E.2.2 i
    rw [if_neg (by omega)]
  rw [ei]
  show va_at E.1 sm_cl _ H
  have g := List.all_eq_true.mp hc i (List.mem_range'.mpr ⟨i - lo, by omega, by omega⟩)
  match hL : sm_Ly i with
  | (0, c, x) =>
    have hx : x = 0 := by
      have hi2 : i < 132 := by
        by_cases z : i < 132
        · exact z
        · rw [sm_Ly_out (by omega)] at hL
          cases hL
      have g3 : ((List.range 132).all fun i => !decide ((sm_Ly i).1 = 0) || decide ((sm_Ly i).2.2 = 0)) = true := by decide +kernel
      have g4 := List.all_eq_true.mp g3 i (List.mem_range.mpr hi2)
      rw [hL] at g4
      simpa using g4
    subst hx
    rw [hL] at g
    rw [sm_entR0 hL] at h0 ⊢
    have e : (List.range (sm_nf c)).map (fun k => sm_fvR rd (sm_nx E hi q).2.2 c k i h) = (List.range (sm_nf c)).map (fun k => sm_fvR rd E.2.2 c k i h) := by
      apply List.map_congr_left
      intro j hj
      have g2 := List.all_eq_true.mp g j hj
      unfold sm_fvR
      match hq : sm_fk c j with
      | 0 => rfl
      | 1 =>
        simp only
        by_cases z : h i j = 0
        · rw [if_pos z, if_pos z]
        · rw [if_neg z, if_neg z]
          rcases hy.1 i c j h1 h2 hL hq with y | y
          · exact absurd y z
          · show Value.ref (if _ = hi then q else _) = _
            rw [if_neg y]
      | 2 => rfl
      | n + 3 =>
        rw [hq] at g2
        simp only
        by_cases z : rd i j = true
        · rw [if_pos z, if_pos z]
          have g3 : (!rd i j || !Nat.beq (i + n) hi) = true := g2
          have hne : ¬ i + n = hi := fun y => by
            rw [z, y] at g3
            simp at g3
          show Value.ref (if _ = hi then q else _) = _
          rw [if_neg hne]
        · rw [if_neg z, if_neg z]
    rw [e]
    exact h0
  | (1, t, n) =>
    rw [sm_entR1 hL] at h0 ⊢
    exact h0
  | (2, b, s) =>
    rw [sm_entR2 hL] at h0 ⊢
    have e : vp_cell (E.2.1 3) (3, .inr (.inr (.inr (.inr (fun j => if h i j = 0 then none else some ((sm_nx E hi q).2.2 (h i j).toNatClampNeg)))))) = vp_cell (E.2.1 3) (3, .inr (.inr (.inr (.inr (fun j => if h i j = 0 then none else some (E.2.2 (h i j).toNatClampNeg)))))) := by
      rw [vp_cell_q, vp_cell_q]
      unfold arrV
      congr 1
      apply congrArg
      funext j
      show va_rf (if h i j.val = 0 then none else some ((sm_nx E hi q).2.2 (h i j.val).toNatClampNeg)) = va_rf (if h i j.val = 0 then none else some (E.2.2 (h i j.val).toNatClampNeg))
      by_cases z : h i j.val = 0
      · rw [if_pos z, if_pos z]
      · rw [if_neg z, if_neg z]
        rcases hy.2 i b s j.val h1 h2 hL j.isLt with y | y
        · exact absurd y z
        · show va_rf (some (if _ = hi then q else _)) = _
          rw [if_neg y]
    exact h0.trans (congrArg some e.symm)
  | (x + 3, b, s) =>
    rw [hL] at g
    cases g
theorem sm_push {lo hi q : Nat} {rd : Nat → Nat → Bool} {E : sm_E} {h : sm_H} {H : Heap} {A : Nat → Prop} (hlo : lo ≤ hi) (hc : sm_cls lo hi rd = true) (hy : sm_dy lo hi h) (hP : va_P E.1 sm_cl (sm_wsR lo hi rd E h ++ [(q, sm_entR rd (sm_nx E hi q) h hi)]) H) (hD : va_D A (sm_wsR lo hi rd E h ++ [(q, sm_entR rd (sm_nx E hi q) h hi)])) :
    va_P (sm_nx E hi q).1 sm_cl (sm_wsR lo (hi + 1) rd (sm_nx E hi q) h) H ∧ va_D A (sm_wsR lo (hi + 1) rd (sm_nx E hi q) h) := by
  have hlen : (sm_wsR lo hi rd E h).length = hi - lo := by unfold sm_wsR; simp
  have hl : (sm_wsR lo hi rd E h ++ [(q, sm_entR rd (sm_nx E hi q) h hi)])[hi - lo]? = some (q, sm_entR rd (sm_nx E hi q) h hi) := by
    rw [List.getElem?_append_right (by omega), hlen, Nat.sub_self]
    rfl
  have ho : ∀ i, lo ≤ i → i < hi → (sm_wsR lo hi rd E h ++ [(q, sm_entR rd (sm_nx E hi q) h hi)])[i - lo]? = some (E.2.2 i, sm_entR rd E h i) := fun i a b => by
    rw [List.getElem?_append_left (by omega)]
    exact sm_wsR_get a b
  have eq_ : (sm_nx E hi q).2.2 hi = q := by
    show (if hi = hi then q else _) = q
    rw [if_pos rfl]
  have en : ∀ i, i ≠ hi → (sm_nx E hi q).2.2 i = E.2.2 i := fun i z => by
    show (if i = hi then q else _) = _
    rw [if_neg z]
  refine ⟨sm_wP_to fun i a b => ?_, sm_wD_to ⟨fun i j a b c d e => ?_, fun i a b => ?_⟩⟩
  · by_cases z : i = hi
    · subst z
      rw [eq_]
      exact hP _ _ hl
    · exact sm_nx_at hc hy a (by omega) (hP _ _ (ho i a (by omega)))
  · by_cases zi : i = hi
    · by_cases zj : j = hi
      · omega
      · subst zi
        rw [eq_, en j zj] at e
        have := hD.1 _ _ _ _ hl (ho j c (by omega)) e
        omega
    · by_cases zj : j = hi
      · subst zj
        rw [eq_, en i zi] at e
        have := hD.1 _ _ _ _ (ho i a (by omega)) hl e
        omega
      · rw [en i zi, en j zj] at e
        have := hD.1 _ _ _ _ (ho i a (by omega)) (ho j c (by omega)) e
        omega
  · by_cases z : i = hi
    · subst z
      rw [eq_]
      exact hD.2 _ _ hl
    · rw [en i z]
      exact hD.2 _ _ (ho i a (by omega))
theorem sm_df0 : ∀ j, j < 4 → defaultValue (sm_t0 j) = (match sm_fk 0 j with | 0 => Value.int 0 | 2 => Value.long 0 | _ => Value.null) := by decide +kernel
theorem sm_df1 : ∀ j, j < 3 → defaultValue (sm_t1 j) = (match sm_fk 1 j with | 0 => Value.int 0 | 2 => Value.long 0 | _ => Value.null) := by decide +kernel
theorem sm_df2 : ∀ j, j < 4 → defaultValue (sm_t2 j) = (match sm_fk 2 j with | 0 => Value.int 0 | 2 => Value.long 0 | _ => Value.null) := by decide +kernel
theorem sm_df3 : ∀ j, j < 4 → defaultValue (sm_t3 j) = (match sm_fk 3 j with | 0 => Value.int 0 | 2 => Value.long 0 | _ => Value.null) := by decide +kernel
theorem sm_df4 : ∀ j, j < 16 → defaultValue (sm_t4 j) = (match sm_fk 4 j with | 0 => Value.int 0 | 2 => Value.long 0 | _ => Value.null) := by decide +kernel
theorem sm_df5 : ∀ j, j < 6 → defaultValue (sm_t5 j) = (match sm_fk 5 j with | 0 => Value.int 0 | 2 => Value.long 0 | _ => Value.null) := by decide +kernel
theorem sm_df6 : ∀ j, j < 9 → defaultValue (sm_t6 j) = (match sm_fk 6 j with | 0 => Value.int 0 | 2 => Value.long 0 | _ => Value.null) := by decide +kernel
theorem sm_df7 : ∀ j, j < 18 → defaultValue (sm_t7 j) = (match sm_fk 7 j with | 0 => Value.int 0 | 2 => Value.long 0 | _ => Value.null) := by decide +kernel
theorem sm_df8 : ∀ j, j < 8 → defaultValue (sm_t8 j) = (match sm_fk 8 j with | 0 => Value.int 0 | 2 => Value.long 0 | _ => Value.null) := by decide +kernel
theorem sm_df9 : ∀ j, j < 6 → defaultValue (sm_t9 j) = (match sm_fk 9 j with | 0 => Value.int 0 | 2 => Value.long 0 | _ => Value.null) := by decide +kernel
theorem sm_df10 : ∀ j, j < 35 → defaultValue (sm_t10 j) = (match sm_fk 10 j with | 0 => Value.int 0 | 2 => Value.long 0 | _ => Value.null) := by decide +kernel
theorem sm_dft : ∀ (c : Nat) (z : vw_C), sm_cl[c]? = some z → ∃ ty : Nat → FieldType, (∀ k, k < z.2.2 → parseFieldDescriptor (z.2.1 k).2.2.1 = some (ty k)) ∧ ∀ j, j < z.2.2 → defaultValue (ty j) = (match sm_fk c j with | 0 => Value.int 0 | 2 => Value.long 0 | _ => Value.null) := by
  intro c z hz
  match c, hz with
  | 0, hz => cases hz; exact ⟨sm_t0, sm_t0_ok, sm_df0⟩
  | 1, hz => cases hz; exact ⟨sm_t1, sm_t1_ok, sm_df1⟩
  | 2, hz => cases hz; exact ⟨sm_t2, sm_t2_ok, sm_df2⟩
  | 3, hz => cases hz; exact ⟨sm_t3, sm_t3_ok, sm_df3⟩
  | 4, hz => cases hz; exact ⟨sm_t4, sm_t4_ok, sm_df4⟩
  | 5, hz => cases hz; exact ⟨sm_t5, sm_t5_ok, sm_df5⟩
  | 6, hz => cases hz; exact ⟨sm_t6, sm_t6_ok, sm_df6⟩
  | 7, hz => cases hz; exact ⟨sm_t7, sm_t7_ok, sm_df7⟩
  | 8, hz => cases hz; exact ⟨sm_t8, sm_t8_ok, sm_df8⟩
  | 9, hz => cases hz; exact ⟨sm_t9, sm_t9_ok, sm_df9⟩
  | 10, hz => cases hz; exact ⟨sm_t10, sm_t10_ok, sm_df10⟩
  | k + 11, hz => simp [sm_cl] at hz
theorem sm_jn0 : sm_jn 0 0 = 0 := by decide +kernel
theorem c_new (G : sm_G base E0 Aq p s m args c cc nL own) {idx cl N : Nat} {C : String} {z : vw_C} (hz : sm_cl[cl]? = some z) (hzC : z.1 = C) (hzN : z.2.2 = N) (hLy : sm_Ly hi = (0, cl, 0)) (hrow : ∀ k, h hi k = 0) (hrd : ∀ k, rd hi k = false) (hlo : Nat.ble lo hi = true) (hh : Nat.ble hi0 hi = true) (h5 : Nat.ble (hi + 1) 5000 = true) (hcl : sm_cls lo hi rd = true) (hy : sm_dy lo hi h) (w1 : Cond.classLink own idx C ∈ sm_LT) (w2 : Cond.instantiable C N ∈ sm_LT) (w3 : Cond.initialized C ∈ sm_LT) (hk : Nat.ble (k + 1) R.cells = true) (hn : Nat.ble (n + N) R.slots = true) (ho : sm_old hi st = true) (hoL : sm_oldL hi lv = true) (hd : decode cc pc = .ok (.new idx, 3))
    (K : sm_C p l e R s m args below meth c Q Aq E0 hi0 nL lo (hi + 1) rd (k + 1) (n + N) (pc + 3) lv (.ref hi :: st) h) : sm_C p l e R s m args below meth c Q Aq E0 hi0 nL lo hi rd k n pc lv st h := by
  intro E hE H locs ls hP hD hS hl
  subst hzC; subst hzN
  obtain ⟨ty, hty, hdf⟩ := sm_dft cl z hz
  have hk1 := (hE.kk G.2.2.2.2.2.1).1
  refine va_new (D := E.1) (ci := cl) (C := z.1) (T := z.2.1) (N := z.2.2) (Ts := sm_LT) (fs := (List.range (sm_nf cl)).map (fun k => sm_fvR rd (fun _ => 0) cl k hi h)) G.1 G.2.1 G.2.2.2.2.1 (sm_clW cl z hz) ty hty G.2.2.2.1 (G.2.2.2.2.1 _ w1) (G.2.2.2.2.1 _ w2) (G.2.2.2.2.1 _ w3) hk1 hP hD hS G.2.2.2.2.2.2.2.2.1 hz (fun j hj => ?_) (Nat.le_of_ble_eq_true hk) (Nat.le_of_ble_eq_true hn) hd (fun q H1 hP1 hD1 hS1 => ?_)
  · rw [hdf j hj]
    unfold vp_V
    rw [List.getD_eq_getElem?_getD, List.getElem?_map, List.getElem?_range (by rw [sm_nf_eq hz]; exact hj)]
    simp only [Option.map_some, Option.getD_some]
    unfold sm_fvR
    rw [hrow, hrow, hrd]
    match sm_fk cl j with
    | 0 => rfl
    | 1 => rfl
    | 2 => show Value.long 0 = Value.long (sm_jn 0 0); rw [sm_jn0]
    | n + 3 => rfl
  · have e : sm_entR rd (sm_nx E hi q) h hi = .inr (cl, (List.range (sm_nf cl)).map (fun k => sm_fvR rd (fun _ => 0) cl k hi h)) := by
      rw [sm_entR0 hLy]
      congr 2
      apply List.map_congr_left
      intro j _
      unfold sm_fvR
      rw [hrow, hrow, hrd]
      match sm_fk cl j with
      | 0 => rfl
      | 1 => rfl
      | 2 => rfl
      | n + 3 => rfl
    rw [← e] at hP1 hD1
    obtain ⟨hP2, hD2⟩ := sm_push (Nat.le_of_ble_eq_true hlo) hcl hy hP1 hD1
    have hE2 : sm_P E0 hi0 (sm_nx E hi q) := ⟨hE.1, hE.2.1, fun i hi' => by
      have a1 := Nat.le_of_ble_eq_true hh
      have a2 := Nat.le_of_ble_eq_true h5
      show (if i = hi then q else E.2.2 i) = _
      rw [if_neg (by omega)]
      exact hE.2.2 i hi'⟩
    have g := K (sm_nx E hi q) hE2 H1 locs ls hP2 hD2 hS1 (by rw [sm_oldL_eq hoL]; exact hl)
    have e2 : (Value.ref hi :: st).map (sm_cv (sm_nx E hi q)) = .ref q :: st.map (sm_cv E) := by
      rw [List.map_cons, sm_old_eq ho]
      show Value.ref (if hi = hi then q else _) :: _ = _
      rw [if_pos rfl]
    rw [e2] at g
    exact g
theorem c_newa (G : sm_G base E0 Aq p s m args c cc nL own) {atype : ArrayType} {v : Int32} {t N : Nat} {ty : FieldType} (hty : newarray.typeOf atype = ty) (htt : (sm_tys E0)[t]? = some (E0.2.1 t, ty)) (hdv : defaultValue ty = .int 0) (hnm : ∀ (U : State) (cA : ClassId), va_RA U cA ty → U.vm.findClass ("[" ++ ty.toString) = some cA) (hLy : sm_Ly hi = (1, t, N)) (hrow : ∀ k, h hi k = 0) (hlo : Nat.ble lo hi = true) (hh : Nat.ble hi0 hi = true) (h5 : Nat.ble (hi + 1) 5000 = true) (hcl : sm_cls lo hi rd = true) (hy : sm_dy lo hi h) (w1 : Cond.arrayClass (newarray.typeOf atype) ∈ sm_LT) (hv : ¬ v < 0) (hN : v.toNatClampNeg = N) (hby : Nat.ble (N * componentBytes ty) 536870912 = true) (hk : Nat.ble (k + 1) R.cells = true) (hn : Nat.ble (n + N) R.slots = true) (ho : sm_old hi st = true) (hoL : sm_oldL hi lv = true) (hd : decode cc pc = .ok (.newarray atype, 2))
    (K : sm_C p l e R s m args below meth c Q Aq E0 hi0 nL lo (hi + 1) rd (k + 1) (n + N) (pc + 2) lv (.ref hi :: st) h) : sm_C p l e R s m args below meth c Q Aq E0 hi0 nL lo hi rd k n pc lv (.int v :: st) h := by
  intro E hE H locs ls hP hD hS hl
  have hk1 := (hE.kk G.2.2.2.2.2.1).1
  refine va_newa (D := E.1) (a0 := (N, .inl (h hi))) G.1 G.2.1 (G.2.2.2.2.1 _ w1) hty hk1 hP hD hS G.2.2.2.2.2.2.2.2.1 (fun cA => ?_) hv hN (Nat.le_of_ble_eq_true hby) (Nat.le_of_ble_eq_true hk) (Nat.le_of_ble_eq_true hn) hd (fun q cA H1 hK1 hP1 hD1 hS1 => ?_)
  · rw [vp_cell_i, hdv]
    congr 1
    funext j
    rw [hrow]
  · have hcA : cA = E.2.1 t := by
      have a1 := (hK1.2 ((sm_tys E).length) (cA, ty) (by rw [List.getElem?_append_right (Nat.le_refl _), Nat.sub_self]; rfl)).2
      have htt2 : (sm_tys E)[t]? = some (E.2.1 t, ty) := by
        have e : sm_tys E = sm_tys E0 := by unfold sm_tys; rw [hE.2.1]
        rw [e, hE.2.1]; exact htt
      have a2 := (hk1.2 t _ htt2).2
      have b1 := hnm s cA a1
      have b2 := hnm s _ a2
      exact Option.some.inj (b1.symm.trans b2)
    subst hcA
    have e : sm_entR rd (sm_nx E hi q) h hi = .inl (E.2.1 t, N, .inl (h hi)) := by
      rw [sm_entR1 hLy]
      rfl
    rw [← e] at hP1 hD1
    obtain ⟨hP2, hD2⟩ := sm_push (Nat.le_of_ble_eq_true hlo) hcl hy hP1 hD1
    have hE2 : sm_P E0 hi0 (sm_nx E hi q) := ⟨hE.1, hE.2.1, fun i hi' => by
      have a1 := Nat.le_of_ble_eq_true hh
      have a2 := Nat.le_of_ble_eq_true h5
      show (if i = hi then q else E.2.2 i) = _
      rw [if_neg (by omega)]
      exact hE.2.2 i hi'⟩
    have g := K (sm_nx E hi q) hE2 H1 locs ls hP2 hD2 hS1 (by rw [sm_oldL_eq hoL]; exact hl)
    have e2 : (Value.ref hi :: st).map (sm_cv (sm_nx E hi q)) = .ref q :: st.map (sm_cv E) := by
      rw [List.map_cons, sm_old_eq ho]
      show Value.ref (if hi = hi then q else _) :: _ = _
      rw [if_pos rfl]
    rw [e2] at g
    exact g
theorem c_newq (G : sm_G base E0 Aq p s m args c cc nL own) {idx b k0 : Nat} (hLy : sm_Ly hi = (2, b, k0)) (hrow : ∀ k, h hi k = 0) (hlo : Nat.ble lo hi = true) (hh : Nat.ble hi0 hi = true) (h5 : Nat.ble (hi + 1) 5000 = true) (hcl : sm_cls lo hi rd = true) (hy : sm_dy lo hi h) (w1 : Cond.classLink own idx "SmokeControl$State" ∈ sm_LT) (hk : Nat.ble (k + 1) R.cells = true) (hn : Nat.ble (n + 3) R.slots = true) (ho : sm_old hi st = true) (hoL : sm_oldL hi lv = true) (hd : decode cc pc = .ok (.anewarray idx, 3))
    (K : sm_C p l e R s m args below meth c Q Aq E0 hi0 nL lo (hi + 1) rd (k + 1) (n + 3) (pc + 3) lv (.ref hi :: st) h) : sm_C p l e R s m args below meth c Q Aq E0 hi0 nL lo hi rd k n pc lv (.int 3 :: st) h := by
  intro E hE H locs ls hP hD hS hl
  have hk1 := (hE.kk G.2.2.2.2.2.1).1
  refine va_newq (D := E.1) (n := 3) (N' := 3) G.1 G.2.1 G.2.2.2.1 (G.2.2.2.2.1 _ w1) G.2.2.2.2.2.2.2.1 hk1 hP hD hS G.2.2.2.2.2.2.2.2.1 (by decide) (by decide) (by decide) (Nat.le_of_ble_eq_true hk) (Nat.le_of_ble_eq_true hn) hd (fun q cA H1 hK1 hP1 hD1 hS1 => ?_)
  · have hcA : cA = E.2.1 3 := by
      have a1 := (hK1.2 ((sm_tys E).length) (cA, .object "SmokeControl$State") (by rw [List.getElem?_append_right (Nat.le_refl _), Nat.sub_self]; rfl)).2
      have a2 := (hk1.2 3 _ (rfl : (sm_tys E)[3]? = some (E.2.1 3, .object "SmokeControl$State"))).2
      obtain ⟨_, _, _, _, _, b1⟩ := a1
      obtain ⟨_, _, _, _, _, b2⟩ := a2
      exact Option.some.inj (b1.symm.trans b2)
    subst hcA
    have e : sm_entR rd (sm_nx E hi q) h hi = .inl (E.2.1 3, 3, .inr (.inr (.inr (.inr (fun _ => none))))) := by
      rw [sm_entR2 hLy]
      simp only [hrow]
      rfl
    rw [← e] at hP1 hD1
    obtain ⟨hP2, hD2⟩ := sm_push (Nat.le_of_ble_eq_true hlo) hcl hy hP1 hD1
    have hE2 : sm_P E0 hi0 (sm_nx E hi q) := ⟨hE.1, hE.2.1, fun i hi' => by
      have a1 := Nat.le_of_ble_eq_true hh
      have a2 := Nat.le_of_ble_eq_true h5
      show (if i = hi then q else E.2.2 i) = _
      rw [if_neg (by omega)]
      exact hE.2.2 i hi'⟩
    have g := K (sm_nx E hi q) hE2 H1 locs ls hP2 hD2 hS1 (by rw [sm_oldL_eq hoL]; exact hl)
    have e2 : (Value.ref hi :: st).map (sm_cv (sm_nx E hi q)) = .ref q :: st.map (sm_cv E) := by
      rw [List.map_cons, sm_old_eq ho]
      show Value.ref (if hi = hi then q else _) :: _ = _
      rw [if_pos rfl]
    rw [e2] at g
    exact g
theorem sm_rd_cons (a c i k : Nat) (ps : List (Nat × Nat)) (j q : Nat) : sm_rd a c ((i, k) :: ps) j q = if j = i ∧ q = k then true else sm_rd a c ps j q := by
  unfold sm_rd
  rw [List.any_cons]
  by_cases z : j = i ∧ q = k
  · rw [if_pos z, z.1, z.2]
    simp
  · rw [if_neg z]
    have e : (Nat.beq i j && Nat.beq k q) = false := by
      by_cases y : i = j
      · subst y
        have : ¬ k = q := fun w => z ⟨rfl, w.symm⟩
        simp [Nat.beq_eq_true_eq, this]
        cases hb : Nat.beq k q with
        | false => rfl
        | true => exact absurd (Nat.eq_of_beq_eq_true hb) this
      · cases hb : Nat.beq i j with
        | false => rfl
        | true => exact absurd (Nat.eq_of_beq_eq_true hb) y
    show (_ || ((Nat.beq i j && Nat.beq k q) || _)) = _
    rw [e, Bool.false_or]
def sm_FF (own : String) (idx c k : Nat) (ty : FieldType) : Prop := ∃ z : vw_C, sm_cl[c]? = some z ∧ k < z.2.2 ∧ Cond.fieldLink own idx (z.2.1 k).1 (z.2.1 k).2.1 (z.2.1 k).2.2.1 ∈ sm_LT ∧ (z.2.1 k).2.2.2 = true ∧ (z.2.1 k).1 = own ∧ parseFieldDescriptor (z.2.1 k).2.2.1 = some ty
theorem sm_setR {rd rd' : Nat → Nat → Bool} {E : sm_E} {h h' : sm_H} {i c x : Nat} {v : Value} (hLy : sm_Ly i = (0, c, 0)) (hx : x < sm_nf c) (hf : ∀ k', k' < sm_nf c → sm_fvR rd' E.2.2 c k' i h' = if k' = x then v else sm_fvR rd E.2.2 c k' i h) : sm_entR rd' E h' i = .inr (c, ((List.range (sm_nf c)).map (fun k => sm_fvR rd E.2.2 c k i h)).set x v) := by
  rw [sm_entR0 hLy]
  congr 2
  apply List.ext_getElem?
  intro j
  by_cases hj : j = x
  · subst hj
    rw [List.getElem?_set_self (by simp; exact hx), List.getElem?_map, List.getElem?_range hx]
    simp only [Option.map_some]
    rw [hf j hx, if_pos rfl]
  · rw [List.getElem?_set_ne (Ne.symm hj), List.getElem?_map, List.getElem?_map]
    by_cases hjl : j < sm_nf c
    · rw [List.getElem?_range hjl]
      simp only [Option.map_some]
      rw [hf j hjl, if_neg hj]
    · rw [List.getElem?_eq_none (by simp; omega)]
      rfl
theorem c_putR (G : sm_G base E0 Aq p s m args c cc nL own) {idx cl x i nn : Nat} {ty : FieldType} {rd' : Nat → Nat → Bool} (hin : meth.name = "<init>") (ff : sm_FF own idx cl x ty) (hLy : sm_Ly i = (0, cl, 0)) (h1 : Nat.ble lo i = true) (h2 : Nat.ble (i + 1) hi = true) (hfk : sm_fk cl x = nn + 3) (hnf : ∀ a, narrow ty (.ref a) = .ref a ∧ fits ty (.ref a) = true) (hr : ∀ j q, rd' j q = if j = i ∧ q = x then true else rd j q) (hd : decode cc pc = .ok (.putfield idx, 3))
    (K : sm_C p l e R s m args below meth c Q Aq E0 hi0 nL lo hi rd' k n (pc + 3) lv st h) : sm_C p l e R s m args below meth c Q Aq E0 hi0 nL lo hi rd k n pc lv (.ref (i + nn) :: .ref i :: st) h := by
  intro E hE H locs ls hP hD hS hl
  obtain ⟨z, hz, hk, hlink, hfin, hdecl, hpd⟩ := ff
  obtain ⟨ty0, hty, hnm⟩ := sm_clT cl z hz
  have hk1 := (hE.kk G.2.2.2.2.2.1).1
  have g1 := Nat.le_of_ble_eq_true h1
  have g2 := Nat.le_of_ble_eq_true h2
  have hw := sm_wsR_get (rd := rd) (E := E) (h := h) g1 g2
  rw [sm_entR0 hLy] at hw
  have hset := sm_wsR_set (E := E) (h := h) (h' := h) (rd := rd) (rd' := rd') g1 g2 (fun j hj => by
    have e : ∀ q, rd' j q = rd j q := fun q => by rw [hr, if_neg (fun w => hj w.1)]
    unfold sm_entR sm_fvR
    simp only [e])
  rw [sm_setR (rd := rd) (h := h) (x := x) (v := .ref (E.2.2 (i + nn))) hLy (by rw [sm_nf_eq hz]; exact hk) (fun k' hk' => by
    by_cases w : k' = x
    · subst w
      rw [if_pos rfl]
      unfold sm_fvR
      rw [hfk]
      simp only [hr]
      simp
    · rw [if_neg w]
      exact sm_fvR_cong (Or.inr (by rw [hr, if_neg (fun y => w y.2)])))] at hset
  exact va_putF (D := E.1) (ci := cl) (C := z.1) (T := z.2.1) (N := z.2.2) (Ts := sm_LT) (v := .ref (E.2.2 (i + nn))) (ty := ty) G.1 G.2.1 G.2.2.2.2.1 (sm_clW cl z hz) ty0 hty hnm G.2.2.2.1 hk1 hP hD hS (i - lo) hw hz x hk (G.2.2.2.2.1 _ hlink) (fun _ h9 => h9) hfin hin hdecl hpd (hnf _).1 (hnf _).2 (by simp [sm_nf_eq hz]; exact hk) hd (fun H1 locs1 hP1 hD1 hS1 => K E hE H1 locs1 ls (by rw [hset] at hP1; exact hP1) (by rw [hset] at hD1; exact hD1) hS1 hl)
theorem c_put (G : sm_G base E0 Aq p s m args c cc nL own) {idx cl x i : Nat} {v : Value} {ty : FieldType} {h2 : sm_H} (fp : sm_FP own idx cl x ty) (hLy : sm_Ly i = (0, cl, 0)) (h1 : Nat.ble lo i = true) (h3 : Nat.ble (i + 1) hi = true) (hn : ∀ E : sm_E, narrow ty (sm_cv E v) = sm_cv E v ∧ fits ty (sm_cv E v) = true) (hh : ∀ j, j ≠ i → h2 j = h j) (hf : ∀ (E : sm_E) (k' : Nat), k' < sm_nf cl → sm_fvR rd E.2.2 cl k' i h2 = if k' = x then sm_cv E v else sm_fvR rd E.2.2 cl k' i h) (hd : decode cc pc = .ok (.putfield idx, 3))
    (K : sm_C p l e R s m args below meth c Q Aq E0 hi0 nL lo hi rd k n (pc + 3) lv st h2) : sm_C p l e R s m args below meth c Q Aq E0 hi0 nL lo hi rd k n pc lv (v :: .ref i :: st) h := by
  intro E hE H locs ls hP hD hS hl
  obtain ⟨z, hz, hk, hlink, hfin, hpd⟩ := fp
  obtain ⟨ty0, hty, hnm⟩ := sm_clT cl z hz
  have hk1 := (hE.kk G.2.2.2.2.2.1).1
  have g1 := Nat.le_of_ble_eq_true h1
  have g2 := Nat.le_of_ble_eq_true h3
  have hw := sm_wsR_get (rd := rd) (E := E) (h := h) g1 g2
  rw [sm_entR0 hLy] at hw
  have hset := sm_wsR_set (E := E) (h := h) (h' := h2) (rd := rd) (rd' := rd) g1 g2 (fun j hj => by
    unfold sm_entR sm_fvR
    simp only [hh j hj])
  rw [sm_setR (rd := rd) (h := h) (x := x) (v := sm_cv E v) hLy (by rw [sm_nf_eq hz]; exact hk) (hf E)] at hset
  exact va_put (D := E.1) (ci := cl) (C := z.1) (T := z.2.1) (N := z.2.2) (Ts := sm_LT) (v := sm_cv E v) (ty := ty) G.1 G.2.1 G.2.2.2.2.1 (sm_clW cl z hz) ty0 hty hnm G.2.2.2.1 hk1 hP hD hS (i - lo) hw hz x hk (G.2.2.2.2.1 _ hlink) (fun _ h9 => h9) hfin hpd (hn E).1 (hn E).2 (by simp [sm_nf_eq hz]; exact hk) hd (fun H1 locs1 hP1 hD1 hS1 => K E hE H1 locs1 ls (by rw [hset] at hP1; exact hP1) (by rw [hset] at hD1; exact hD1) hS1 hl)
theorem sm_upd_fvR {c k i : Nat} {x : Int32} (hk : Nat.ble (k + 1) 1000 = true) (rd : Nat → Nat → Bool) (h : sm_H) (E : sm_E) {k' : Nat} (hne : ¬ k' = k) : sm_fvR rd E.2.2 c k' i (sm_up h i k x) = sm_fvR rd E.2.2 c k' i h := by
  have e1 : sm_up h i k x i k' = h i k' := by unfold sm_up; rw [if_neg (fun z => hne z.2)]
  have e2 : sm_up h i k x i (k' + 1000) = h i (k' + 1000) := by
    unfold sm_up
    rw [if_neg (fun z => by have := Nat.le_of_ble_eq_true hk; omega)]
  unfold sm_fvR
  rw [e1, e2]
theorem c_putI (G : sm_G base E0 Aq p s m args c cc nL own) {idx cl x i : Nat} {v : Int32} (fp : sm_FP own idx cl x .int) (hLy : sm_Ly i = (0, cl, 0)) (h1 : Nat.ble lo i = true) (h3 : Nat.ble (i + 1) hi = true) (hfk : sm_fk cl x = 0) (hx : Nat.ble (x + 1) 1000 = true) (hd : decode cc pc = .ok (.putfield idx, 3))
    (K : sm_C p l e R s m args below meth c Q Aq E0 hi0 nL lo hi rd k n (pc + 3) lv st (sm_up h i x v)) : sm_C p l e R s m args below meth c Q Aq E0 hi0 nL lo hi rd k n pc lv (.int v :: .ref i :: st) h :=
  c_put G fp hLy h1 h3 (fun _ => ⟨rfl, rfl⟩) (fun j hj => sm_up_ne h i x v j hj) (fun E k' hk' => by
    by_cases w : k' = x
    · subst w
      rw [if_pos rfl]
      unfold sm_fvR
      rw [hfk]
      simp only [sm_up_at]
      rfl
    · rw [if_neg w, sm_upd_fvR hx rd h E w]) hd K
theorem c_putD (G : sm_G base E0 Aq p s m args c cc nL own) {idx cl x i a : Nat} {cn : String} (fp : sm_FP own idx cl x (.object cn)) (hLy : sm_Ly i = (0, cl, 0)) (h1 : Nat.ble lo i = true) (h3 : Nat.ble (i + 1) hi = true) (hfk : sm_fk cl x = 1) (hx : Nat.ble (x + 1) 1000 = true) (ha : Nat.ble 1 a = true) (ha2 : Nat.ble a 1000 = true) (hd : decode cc pc = .ok (.putfield idx, 3))
    (K : sm_C p l e R s m args below meth c Q Aq E0 hi0 nL lo hi rd k n (pc + 3) lv st (sm_up h i x (nI a))) : sm_C p l e R s m args below meth c Q Aq E0 hi0 nL lo hi rd k n pc lv (.ref a :: .ref i :: st) h :=
  c_put G fp hLy h1 h3 (fun _ => ⟨rfl, rfl⟩) (fun j hj => sm_up_ne h i x (nI a) j hj) (fun E k' hk' => by
    have b1 := Nat.le_of_ble_eq_true ha
    have b2 := Nat.le_of_ble_eq_true ha2
    by_cases w : k' = x
    · subst w
      rw [if_pos rfl]
      unfold sm_fvR
      rw [hfk]
      simp only [sm_up_at]
      rw [if_neg (nI_ne0 (by omega) (by omega)), nI_clamp (by omega)]
      rfl
    · rw [if_neg w, sm_upd_fvR hx rd h E w]) hd K
theorem c_aast (G : sm_G base E0 Aq p s m args c cc nL own) {a b k0 v j : Nat} (hLa : sm_Ly a = (2, b, k0)) (h1 : Nat.ble lo a = true) (h2 : Nat.ble (a + 1) hi = true) (hLv : sm_Ly v = (0, 7, 0)) (h3 : Nat.ble lo v = true) (h4 : Nat.ble (v + 1) hi = true) (hj : Nat.ble (j + 1) 3 = true) (hv : decide (1 ≤ v ∧ v < 1000) = true) (hd : decode cc pc = .ok (.aastore, 1))
    (K : sm_C p l e R s m args below meth c Q Aq E0 hi0 nL lo hi rd k n (pc + 1) lv st (sm_up h a j (nI v))) : sm_C p l e R s m args below meth c Q Aq E0 hi0 nL lo hi rd k n pc lv (.ref v :: .int (nI j) :: .ref a :: st) h := by
  intro E hE H locs ls hP hD hS hl
  have hk1 := (hE.kk G.2.2.2.2.2.1).1
  have g1 := Nat.le_of_ble_eq_true h1
  have g2 := Nat.le_of_ble_eq_true h2
  have g3 := Nat.le_of_ble_eq_true h3
  have g4 := Nat.le_of_ble_eq_true h4
  have gj := Nat.le_of_ble_eq_true hj
  obtain ⟨v1, v2⟩ := of_decide_eq_true hv
  have hwa := sm_wsR_get (rd := rd) (E := E) (h := h) g1 g2
  rw [sm_entR2 hLa] at hwa
  have hwv := sm_wsR_get (rd := rd) (E := E) (h := h) g3 g4
  rw [sm_entR0 hLv] at hwv
  have hcl : (nI j).toNatClampNeg = j := nI_clamp (by omega)
  have hset := sm_wsR_set (E := E) (h := h) (h' := sm_up h a j (nI v)) (rd := rd) (rd' := rd) g1 g2 (fun i hi' => by
    unfold sm_entR sm_fvR
    simp only [sm_up_ne h a j (nI v) i hi'])
  have he : sm_entR rd E (sm_up h a j (nI v)) a = .inl (E.2.1 3, 3, .inr (.inr (.inr (.inr (va_up (fun q => if h a q = 0 then none else some (E.2.2 (h a q).toNatClampNeg)) (nI j).toNatClampNeg (some (E.2.2 v))))))) := by
    rw [sm_entR2 hLa, hcl]
    congr 7
    funext q
    by_cases w : q = j
    · subst w
      show (if sm_up h a q (nI v) a q = 0 then none else some (E.2.2 (sm_up h a q (nI v) a q).toNatClampNeg)) = (if q = q then some (E.2.2 v) else _)
      rw [sm_up_at, if_neg (nI_ne0 (by omega) (by omega)), nI_clamp (by omega), if_pos rfl]
    · have e9 : sm_up h a j (nI v) a q = h a q := by unfold sm_up; rw [if_neg (fun y => w y.2)]
      show (if sm_up h a j (nI v) a q = 0 then none else some (E.2.2 (sm_up h a j (nI v) a q).toNatClampNeg)) = (if q = j then some (E.2.2 v) else (if h a q = 0 then none else some (E.2.2 (h a q).toNatClampNeg)))
      rw [e9, if_neg w]
  rw [he] at hset
  exact va_astq (D := E.1) (r := (sm_R7, sm_F7, 18)) G.1 G.2.1 hk1 hP hD hS (a - lo) 3 (v - lo) 7 hwa rfl hwv rfl (vp_in_nI (by omega) (by omega)) hd (fun H1 locs1 hP1 hD1 hS1 => K E hE H1 locs1 ls (by rw [hset] at hP1; exact hP1) (by rw [hset] at hD1; exact hD1) hS1 hl)
-- a constructor's contract
def sm_Fr (lo hi : Nat) (E : sm_E) (sz : Nat) : Nat → Prop := fun q => sm_A lo hi E q ∨ sz ≤ q
def sm_rmC (d mc ms : Nat) : Room := { frames := d, cells := mc, slots := ms, locals := 64 * d }
def sm_PcC (base lo hi sz : Nat) (rd : Nat → Nat → Bool) (E : sm_E) (av : List Value) (h : sm_H) : Array Value → State → Prop := fun a U => a = (av.map (sm_cv E)).toArray ∧ U.heap.size = sz ∧ va_P E.1 sm_cl (sm_wsR lo hi rd E h) U.heap ∧ sm_KK E U ∧ sm_STb base E U U.heap ∧ va_AO "SmokeControl$State" U
def sm_QcC (lo hi sz : Nat) (E : sm_E) (hi' : Nat) (rd' : Nat → Nat → Bool) (h' : sm_H) : Array Value → State → Outcome → State → Prop := fun _ st oc t => oc = .returned none ∧ (∃ E', sm_P E hi E' ∧ va_P E'.1 sm_cl (sm_wsR lo hi' rd' E' h') t.heap ∧ va_D (sm_Fr lo hi E sz) (sm_wsR lo hi' rd' E' h')) ∧ va_F (sm_Fr lo hi E sz) st t
def sm_MetC (l : Launch) (lo hi : Nat) (rd : Nat → Nat → Bool) (d mc ms : Nat) (q : sm_M) (av : List Value) (h : sm_H) (hi' : Nat) (rd' : Nat → Nat → Bool) (h' : sm_H) : Prop :=
  ∀ (base sz : Nat) (E : sm_E), sm_Inj lo hi E → (∀ i, lo ≤ i → i < hi → base ≤ E.2.2 i) → base ≤ sz → Met l q.1 (sm_w q) (sm_rmC d mc ms) (sm_PcC base lo hi sz rd E av h) (sm_QcC lo hi sz E hi' rd' h') mc ms (sm_Fr lo hi E sz)
theorem sm_MetC.of {hi' d mc ms : Nat} {rd' : Nat → Nat → Bool} {q : sm_M} {av : List Value} {h' : sm_H} (hy : plainFor q.1 = true) (hnm : q.1.name = "<init>") (hrt : q.2.2.2 = none) (hn : Nat.ble (lg_sl av).length q.2.2.1 = true)
    (K : ∀ (base sz : Nat) (E : sm_E) (p : Program) (e : Env) (s : State) (m : MethodId) (args : Array Value) (below : List Frame) (meth : Method) (c : Code), sm_G base E (sm_Fr lo hi E sz) p s m args c q.2.1 q.2.2.1 q.1.cls → meth.name = "<init>" → meth.sig.returnType = none → meth.locks = false →
      sm_C p l e (sm_rmC d mc ms) s m args below meth c (MQ below (sm_QcC lo hi sz E hi' rd' h') args s mc ms (sm_Fr lo hi E sz)) (sm_Fr lo hi E sz) E hi q.2.2.1 lo hi rd 0 0 0 (lv_args 0 av) [] h) : sm_MetC l lo hi rd d mc ms q av h hi' rd' h' := by
  intro base sz E hI hb hbs
  refine va_MetF (cc := q.2.1) (maxL := q.2.2.1) (ret := q.2.2.2) hy rfl ?_
  intro p e s m args below meth c s₁ B hml hv
  obtain ⟨rfl, hsz, hP, hK, hT, hO⟩ := hv
  subst hsz
  have hts := atoms_spec (ws := sm_w q) B.pre
  have hl := lv_entry (av.map (sm_cv E)) (n := q.2.2.1) (by rw [sm_slots]; exact Nat.le_of_ble_eq_true hn)
  rw [sm_args] at hl
  rw [lg_entry_eq]
  have hin : meth.name = "<init>" := by rw [← hnm]; exact (name_of_methodNamed B.named B.method).1
  have G : sm_G base E (sm_Fr lo hi E s.heap.size) p s m _ c q.2.1 q.2.2.1 q.1.cls := ⟨B.exec, B.bytes, hml, findClass_of_methodNamed B.named, fun w hw => hts w (List.mem_cons_of_mem _ hw), hK, hT, hO, fun q hq => Or.inr hq, fun q hq => by
    rcases hq with ⟨i, a, b, rfl⟩ | hq
    · exact hb i a b
    · exact Nat.le_trans hbs hq⟩
  exact K base s.heap.size E p e s m _ below meth c G hin (B.returns.trans hrt) B.notSynchronized E ⟨rfl, rfl, fun _ _ => rfl⟩ s.heap [] _ hP (sm_wD_to ⟨hI, fun i a b => Or.inl ⟨i, a, b, rfl⟩⟩) va_S.rf hl
theorem c_vret {sz : Nat} {rd' : Nat → Nat → Bool} (G : sm_G base E0 (sm_Fr lo hi0 E0 sz) p s m args c cc nL own) (hr : meth.sig.returnType = none) (hlk : meth.locks = false) (hs : sm_same lo hi rd rd' = true) (hd : decode cc pc = .ok (.return_, 1)) : sm_C p l e R s m args below meth c (MQ below (sm_QcC lo hi0 sz E0 hi rd' h) args s k n (sm_Fr lo hi0 E0 sz)) (sm_Fr lo hi0 E0 sz) E0 hi0 nL lo hi rd k n pc lv [] h := by
  intro E hE H locs ls hP hD hS hl
  obtain ⟨hP2, hD2⟩ := sm_redo hs hP hD
  exact W.vret G.1 G.2.1 hr (fun t ht hW => ⟨rfl, ⟨E, hE, by rw [ht]; exact hP2, hD2⟩, hS.F ht⟩) hS.2.2 hd hlk
def sm_ltV (hi : Nat) (st : List Value) : Bool := st.all fun v => match v with
  | .ref i => Nat.ble (i + 1) hi || Nat.ble 5000 i
  | _ => true
theorem sm_ltV_eq {E E' : sm_E} {hi : Nat} {st : List Value} (h : sm_ltV hi st = true) (he : sm_P E hi E') : st.map (sm_cv E') = st.map (sm_cv E) := by
  apply List.map_congr_left
  intro v hv
  have g := List.all_eq_true.mp h v hv
  cases v with
  | ref i =>
    have hh : i < hi ∨ 5000 ≤ i := by
      rcases Bool.or_eq_true _ _ |>.mp g with z | z
      · exact Or.inl (Nat.le_of_ble_eq_true z)
      · exact Or.inr (Nat.le_of_ble_eq_true z)
    show Value.ref _ = Value.ref _
    rw [he.2.2 i hh]
  | _ => rfl
theorem sm_ltL_eq {E E' : sm_E} {hi : Nat} {lv : List (Nat × Value)} (h : sm_ltV hi (lv.map (fun q => q.2)) = true) (he : sm_P E hi E') : lv.map (sm_c2 E') = lv.map (sm_c2 E) := by
  apply List.map_congr_left
  intro v hv
  have g := List.all_eq_true.mp h v.2 (List.mem_map.mpr ⟨v, hv, rfl⟩)
  unfold sm_c2
  congr 1
  cases hz : v.2 with
  | ref i =>
    rw [hz] at g
    have hh : i < hi ∨ 5000 ≤ i := by
      rcases Bool.or_eq_true _ _ |>.mp g with z | z
      · exact Or.inl (Nat.le_of_ble_eq_true z)
      · exact Or.inr (Nat.le_of_ble_eq_true z)
    show Value.ref _ = Value.ref _
    rw [he.2.2 i hh]
  | _ => rfl
-- all that the cells of [lo, lo') name lies below hi
def sm_clsB (lo lo' hi : Nat) (rd : Nat → Nat → Bool) : Bool := (List.range' lo (lo' - lo)).all fun i => match sm_Ly i with
  | (0, c, _) => (List.range (sm_nf c)).all fun k => match sm_fk c k with
    | n + 3 => !rd i k || Nat.ble (i + n + 1) hi
    | _ => true
  | (1, _, _) => true
  | (2, _, _) => true
  | _ => false
def sm_dyB (lo lo' hi : Nat) (h : sm_H) : Prop := (∀ i c k, lo ≤ i → i < lo' → sm_Ly i = (0, c, 0) → sm_fk c k = 1 → h i k = 0 ∨ (h i k).toNatClampNeg < hi) ∧ ∀ i b k j, lo ≤ i → i < lo' → sm_Ly i = (2, b, k) → j < 3 → h i j = 0 ∨ (h i j).toNatClampNeg < hi
theorem sm_Ly_0 {i c x : Nat} (hL : sm_Ly i = (0, c, x)) : x = 0 := by
  have hi2 : i < 132 := by
    by_cases z : i < 132
    · exact z
    · rw [sm_Ly_out (by omega)] at hL
      cases hL
  have g3 : ((List.range 132).all fun i => !decide ((sm_Ly i).1 = 0) || decide ((sm_Ly i).2.2 = 0)) = true := by decide +kernel
  have g4 := List.all_eq_true.mp g3 i (List.mem_range.mpr hi2)
  rw [hL] at g4
  simpa using g4
theorem sm_ext_at {lo lo' hi i : Nat} {rd : Nat → Nat → Bool} {E E' : sm_E} {h h' : sm_H} {H : Heap} (he : sm_P E hi E') (hc : sm_clsB lo lo' hi rd = true) (hy : sm_dyB lo lo' hi h) (h1 : lo ≤ i) (h2 : i < lo') (hh : h' i = h i) (h0 : va_at E.1 sm_cl (E.2.2 i, sm_entR rd E h i) H) (hi2 : i < hi) : va_at E'.1 sm_cl (E'.2.2 i, sm_entR rd E' h' i) H := by
  rw [he.1, he.2.2 i (Or.inl hi2)]
  have g := List.all_eq_true.mp hc i (List.mem_range'.mpr ⟨i - lo, by omega, by omega⟩)
  match hL : sm_Ly i with
  | (0, c, x) =>
    have hx := sm_Ly_0 hL
    subst hx
    rw [hL] at g
    rw [sm_entR0 hL] at h0 ⊢
    have e : (List.range (sm_nf c)).map (fun k => sm_fvR rd E'.2.2 c k i h') = (List.range (sm_nf c)).map (fun k => sm_fvR rd E.2.2 c k i h) := by
      apply List.map_congr_left
      intro j hj
      have g2 := List.all_eq_true.mp g j hj
      unfold sm_fvR
      rw [hh]
      match hq : sm_fk c j with
      | 0 => rfl
      | 1 =>
        simp only
        by_cases z : h i j = 0
        · rw [if_pos z, if_pos z]
        · rw [if_neg z, if_neg z]
          rcases hy.1 i c j h1 h2 hL hq with y | y
          · exact absurd y z
          · rw [he.2.2 _ (Or.inl y)]
      | 2 => rfl
      | n + 3 =>
        rw [hq] at g2
        have g3 : (!rd i j || Nat.ble (i + n + 1) hi) = true := g2
        simp only
        by_cases z : rd i j = true
        · rw [if_pos z, if_pos z]
          rw [z] at g3
          have g4 : Nat.ble (i + n + 1) hi = true := by simpa using g3
          rw [he.2.2 _ (Or.inl (Nat.le_of_ble_eq_true g4))]
        · rw [if_neg z, if_neg z]
    rw [e]
    exact h0
  | (1, t, n) =>
    rw [sm_entR1 hL] at h0 ⊢
    rw [he.2.1, hh]
    exact h0
  | (2, b, s) =>
    rw [sm_entR2 hL] at h0 ⊢
    rw [he.2.1]
    have e : vp_cell (E.2.1 3) (3, .inr (.inr (.inr (.inr (fun j => if h' i j = 0 then none else some (E'.2.2 (h' i j).toNatClampNeg)))))) = vp_cell (E.2.1 3) (3, .inr (.inr (.inr (.inr (fun j => if h i j = 0 then none else some (E.2.2 (h i j).toNatClampNeg)))))) := by
      rw [vp_cell_q, vp_cell_q]
      unfold arrV
      congr 1
      apply congrArg
      funext j
      show va_rf (if h' i j.val = 0 then none else some (E'.2.2 (h' i j.val).toNatClampNeg)) = va_rf (if h i j.val = 0 then none else some (E.2.2 (h i j.val).toNatClampNeg))
      rw [hh]
      by_cases z : h i j.val = 0
      · rw [if_pos z, if_pos z]
      · rw [if_neg z, if_neg z]
        rcases hy.2 i b s j.val h1 h2 hL j.isLt with y | y
        · exact absurd y z
        · rw [he.2.2 _ (Or.inl y)]
    exact h0.trans (congrArg some e.symm)
  | (x + 3, b, s) =>
    rw [hL] at g
    cases g
-- a constructor is called: what it makes comes beside the rest
theorem sm_backC {lo' hi2 mc ms : Nat} {rd2 rd' : Nat → Nat → Bool} {h2 : sm_H} {E : sm_E} {H : Heap} {locs : List Loc} {ls : Array Slot} {st0 : List Value} {a : Array Value}
    (G : sm_G base E0 Aq p s m args c cc nL own) (hE : sm_P E0 hi0 E) (hP : va_P E.1 sm_cl (sm_wsR lo hi rd E h) H) (hD : va_D Aq (sm_wsR lo hi rd E h)) (hS : va_S Aq s.heap H locs) (hl : lv_has ls nL (lv.map (sm_c2 E)))
    (hr : va_Run p l e R s m args below meth c H locs k n mc ms (F0 m pc ls st0) (st.map (sm_cv E)) (sm_QcC lo' hi H.size E hi2 rd2 h2 a) (sm_Fr lo' hi E H.size))
    (hlo : lo ≤ lo') (hlo' : lo' ≤ hi) (h12 : hi ≤ hi2) (hh : hi0 ≤ hi) (hcl : sm_clsB lo lo' hi rd = true) (hy : sm_dyB lo lo' hi h) (hs1 : sm_same lo lo' rd rd' = true) (hs2 : sm_same lo' hi2 rd2 rd' = true) (hh2 : ∀ i, lo ≤ i → i < lo' → h2 i = h i) (hst : sm_ltV hi st = true) (hlv : sm_ltV hi (lv.map (fun q => q.2)) = true)
    (K : sm_C p l e R s m args below meth c Q Aq E0 hi0 nL lo hi2 rd' (k + mc) (n + ms) (pc + 3) lv st h2) : W p l e R s m args below meth c H locs k n Q (F0 m pc ls st0) := by
  intro T hT X
  obtain ⟨v, st₀, t, T', L, h0, X', hL, e1, e2, ⟨hv, ⟨E', hE', hP1, hD1⟩, hz, hk⟩, go⟩ := hr T hT X
  have hv2 : v = none := by injection hv
  subst hv2
  rw [h0] at hz hk
  have hw := sm_wP_of hP
  have hwD := sm_wD_of hD
  have hw1 := sm_wP_of hP1
  have hwD1 := sm_wD_of hD1
  have hltH : ∀ i, lo ≤ i → i < hi → E.2.2 i < H.size := fun i a b => (hw i a b).lt
  have hnew : ∀ i, hi ≤ i → i < hi2 → lo' ≤ i → H.size ≤ E'.2.2 i := by
    intro i a b b2
    rcases hwD1.2 i b2 b with ⟨j, c1, c2, c3⟩ | z
    · rw [← hE'.2.2 j (Or.inl c2)] at c3
      have := hwD1.1 i j b2 b c1 (by omega) c3
      omega
    · exact z
  have hkeep : ∀ i, lo ≤ i → i < lo' → t.heap[E.2.2 i]? = H[E.2.2 i]? := fun i a b => hk _ (hltH i a (by omega)) (fun z => by
    rcases z with ⟨j, c1, c2, c3⟩ | z
    · have := hwD.1 i j a (by omega) (by omega) c2 c3
      omega
    · have := hltH i a (by omega)
      omega)
  have hE2 : sm_P E0 hi0 E' := ⟨hE'.1.trans hE.1, hE'.2.1.trans hE.2.1, fun i hi' => (hE'.2.2 i (by omega)).trans (hE.2.2 i hi')⟩
  have hP3 : va_P E'.1 sm_cl (sm_wsR lo hi2 rd' E' h2) t.heap := by
    have hl1 : va_P E'.1 sm_cl (sm_wsR lo lo' rd E' h2) t.heap := sm_wP_to fun i a b => sm_ext_at hE' hcl hy a b (hh2 i a b) ((hw i a (by omega)).kept (hkeep i a b)) (by omega)
    have hl1D : va_D (fun _ => True) (sm_wsR lo lo' rd E' h2) := sm_wD_to ⟨fun i j a b c d e => by
      rw [hE'.2.2 i (Or.inl (by omega)), hE'.2.2 j (Or.inl (by omega))] at e
      exact hwD.1 i j a (by omega) c (by omega) e, fun _ _ _ => trivial⟩
    have r1 := sm_wP_of (sm_redo hs1 hl1 hl1D).1
    have r2 := sm_wP_of (sm_redo hs2 hP1 hD1).1
    exact sm_wP_to fun i a b => by
      by_cases z : i < lo'
      · exact r1 i a z
      · exact r2 i (by omega) b
  have hD3 : va_D Aq (sm_wsR lo hi2 rd' E' h2) := sm_wD_to ⟨fun i j a b c d e => by
      by_cases zi : i < hi
      · by_cases zj : j < hi
        · rw [hE'.2.2 i (Or.inl zi), hE'.2.2 j (Or.inl zj)] at e
          exact hwD.1 i j a zi c zj e
        · rw [hE'.2.2 i (Or.inl zi)] at e
          have g1 := hnew j (by omega) d (by omega)
          have g2 := hltH i a zi
          omega
      · by_cases zj : j < hi
        · rw [hE'.2.2 j (Or.inl zj)] at e
          have g1 := hnew i (by omega) b (by omega)
          have g2 := hltH j c zj
          omega
        · exact hwD1.1 i j (by omega) b (by omega) d e, fun i a b => by
      by_cases zi : i < hi
      · rw [hE'.2.2 i (Or.inl zi)]
        exact hwD.2 i a zi
      · exact G.2.2.2.2.2.2.2.2.1 _ (Nat.le_trans hS.1 (hnew i (by omega) b (by omega)))⟩
  have hfr : ∀ q, sm_Fr lo' hi E H.size q → Aq q := fun q z => by
    rcases z with ⟨j, c1, c2, rfl⟩ | z
    · exact hwD.2 j (by omega) c2
    · exact G.2.2.2.2.2.2.2.2.1 _ (Nat.le_trans hS.1 z)
  have K2 := K E' hE2 T'.heap (locs ++ L) ls (by rw [e1]; exact hP3) hD3 ⟨Nat.le_trans hS.1 (by rw [e1]; exact hz), fun q h1 h2 => by
      rw [e1, hk q (Nat.lt_of_lt_of_le h1 hS.1) (fun z => h2 (hfr q z))]
      exact hS.2.1 q h1 h2, fun q hq => by
      rcases List.mem_append.mp hq with g | g
      · exact hS.2.2 q g
      · exact hfr _ (hL q g)⟩ (by rw [sm_ltL_eq hlv hE']; exact hl)
  rw [sm_ltV_eq hst hE'] at K2
  obtain ⟨t2, a1, b1⟩ := K2 T' rfl X'
  exact ⟨t2, go _ a1, b1⟩
theorem sm_blindC (base lo hi sz : Nat) (rd : Nat → Nat → Bool) (E : sm_E) (av : List Value) (h : sm_H) : FrameBlind (sm_PcC base lo hi sz rd E av h) := fun a U g mk z => ⟨z.1, z.2.1, z.2.2.1, sm_KK.same (s := U) (U := U.calling g mk a) rfl z.2.2.2.1, sm_STb.moved (u := U) (U := U.calling g mk a) (Vm.Alike.refl U.vm) z.2.2.2.2.1, va_AO.moved (u := U) (U := U.calling g mk a) (Vm.Alike.refl U.vm) z.2.2.2.2.2⟩
theorem sm_Gst {E : sm_E} {H : Heap} {locs : List Loc} (G : sm_G base E0 Aq p s m args c cc nL own) (hE : sm_P E0 hi0 E) (hS : va_S Aq s.heap H locs) : sm_STb base E s H := sm_STb.kept (hE.stb G.2.2.2.2.2.2.1) (fun a h1 h2 => hS.2.1 a h1 (fun z => h2 (G.2.2.2.2.2.2.2.2.2 a z)))
theorem sm_preC {lo' : Nat} {rdc : Nat → Nat → Bool} {E : sm_E} {U : State} {H : Heap} {locs : List Loc} {av : List Value} (G : sm_G base E0 Aq p s m args c cc nL own) (hE : sm_P E0 hi0 E) (hP : va_P E.1 sm_cl (sm_wsR lo' hi rdc E h) H) (hS : va_S Aq s.heap H locs) (hU : U.heap = H) (hW : s.WarmedH U.vm) : sm_PcC base lo' hi H.size rdc E av h (av.map (sm_cv E)).toArray U :=
  ⟨rfl, by rw [hU], by rw [hU]; exact hP, sm_KK.warm hW (hE.kk G.2.2.2.2.2.1), by rw [hU]; exact (sm_Gst G hE hS).moved hW.alike, va_AO.moved hW.alike G.2.2.2.2.2.2.2.1⟩
theorem sm_subP {lo' hi' : Nat} {E : sm_E} {H : Heap} (h1 : lo ≤ lo') (h2 : hi' ≤ hi) (hP : va_P E.1 sm_cl (sm_wsR lo hi rd E h) H) (hD : va_D Aq (sm_wsR lo hi rd E h)) : va_P E.1 sm_cl (sm_wsR lo' hi' rd E h) H ∧ va_D Aq (sm_wsR lo' hi' rd E h) :=
  ⟨sm_wP_to fun i a b => sm_wP_of hP i (by omega) (by omega), sm_wD_to ⟨fun i j a b c d e => (sm_wD_of hD).1 i j (by omega) (by omega) (by omega) (by omega) e, fun i a b => (sm_wD_of hD).2 i (by omega) (by omega)⟩⟩
def sm_CI (own : String) (idx : Nat) (q' : sm_M) (n : Nat) : Prop := (Cond.methodLink own idx q'.1 ∈ sm_LT ∧ Cond.instanceMethod q'.1 ∈ sm_LT ∧ Cond.initialized q'.1.cls ∈ sm_LT ∧ Cond.code q'.1 q'.2.1 q'.2.2.1 none ∈ sm_LT) ∧ (q'.1.cls ≠ "java/lang/invoke/MethodHandle" ∧ q'.1.cls ≠ "java/lang/invoke/VarHandle" ∧ (parseMethodDescriptor q'.1.desc).map (fun d => d.parameters.length) = some n) ∧ q'.1.name = "<init>" ∧ q'.2.2.2 = none
def sm_CJ (own : String) (idx : Nat) (q' : sm_M) (n : Nat) : Prop := (Cond.methodLinkNest own idx q'.1 "SmokeControl" ∈ sm_NL ∧ Cond.instanceMethod q'.1 ∈ sm_LT ∧ Cond.initialized q'.1.cls ∈ sm_LT ∧ Cond.code q'.1 q'.2.1 q'.2.2.1 none ∈ sm_LT) ∧ (q'.1.cls ≠ "java/lang/invoke/MethodHandle" ∧ q'.1.cls ≠ "java/lang/invoke/VarHandle" ∧ (parseMethodDescriptor q'.1.desc).map (fun d => d.parameters.length) = some n) ∧ q'.1.name = "<init>" ∧ q'.2.2.2 = none
theorem sm_goodL {q' : sm_M} (hc : Cond.code q'.1 q'.2.1 q'.2.2.1 q'.2.2.2 ∈ sm_LT) : GoodIn sm_LT (sm_w q') := by
  intro w hw
  rcases List.mem_cons.mp hw with rfl | hw
  · exact ⟨hc, sm_good hc⟩
  · exact ⟨hw, sm_good hw⟩
theorem c_ctor (G : sm_G base E0 Aq p s m args c cc nL own) {idx n0 lo' hi2 mc ms b d : Nat} {q' : sm_M} {As : List Value} {rdc rd2 rd' : Nat → Nat → Bool} {h2 : sm_H} (cv : sm_CI own idx q' n0) (hM : sm_MetC l lo' hi rdc d mc ms q' (.ref b :: As) h hi2 rd2 h2) (hn0 : As.length = n0) (hsc : sm_same lo' hi rd rdc = true) (hR : decide (d + 1 ≤ R.frames ∧ 8 + (q'.2.2.1 + 11) + 64 * d ≤ R.locals ∧ k + mc ≤ R.cells ∧ n + ms ≤ R.slots) = true) (hcat : Nat.ble ((st.map fun v => v.category).sum) 8 = true)
    (hq : decide (lo ≤ lo' ∧ lo' ≤ hi ∧ hi ≤ hi2 ∧ hi0 ≤ hi) = true) (hcl : sm_clsB lo lo' hi rd = true) (hy : sm_dyB lo lo' hi h) (hs1 : sm_same lo lo' rd rd' = true) (hs2 : sm_same lo' hi2 rd2 rd' = true) (hh2 : ∀ i, lo ≤ i → i < lo' → h2 i = h i) (hst : sm_ltV hi st = true) (hlv : sm_ltV hi (lv.map (fun q => q.2)) = true) (hd : decode cc pc = .ok (.invokespecial idx, 3))
    (K : sm_C p l e R s m args below meth c Q Aq E0 hi0 nL lo hi2 rd' (k + mc) (n + ms) (pc + 3) lv st h2) : sm_C p l e R s m args below meth c Q Aq E0 hi0 nL lo hi rd k n pc lv (As.reverse ++ .ref b :: st) h := by
  intro E hE H locs ls hP hD hS hl
  obtain ⟨⟨w1, w2, w3, w4⟩, hy0, hnm, hrt⟩ := cv
  obtain ⟨r1, r2, r3, r4⟩ := of_decide_eq_true hR
  obtain ⟨q1, q2, q3, q4⟩ := of_decide_eq_true hq
  obtain ⟨hPs, hDs⟩ := sm_subP q1 (Nat.le_refl hi) hP hD
  obtain ⟨hPc, hDc⟩ := sm_redo hsc hPs hDs
  have hbs : base ≤ s.heap.size := G.2.2.2.2.2.2.2.2.2 _ (G.2.2.2.2.2.2.2.2.1 _ (Nat.le_refl _))
  have hM1 := hM base H.size E (sm_wD_of hDs).1 (fun i a b => G.2.2.2.2.2.2.2.2.2 _ ((sm_wD_of hDs).2 i a b)) (Nat.le_trans hbs hS.1)
  have hG1 := sm_goodL (q' := q') (by rw [hrt]; exact w4)
  refine sm_backC G hE hP hD hS hl (va_runI (Ts := sm_LT) (As := As.map (sm_cv E)) (rest := st.map (sm_cv E)) (b := E.2.2 b) (nL := nL) ⟨G.1, G.2.1, G.2.2.1, G.2.2.2.1, G.2.2.2.2.1⟩ hM1 (cwI n0 G.2.2.2.2.1 hG1 (by unfold sm_w; rw [hrt]) rfl rfl (G.2.2.2.2.1 _ w3) (G.2.2.2.2.1 _ w1) (G.2.2.2.2.1 _ w2) hnm hy0 ⟨r1, r2⟩) ⟨sm_blindC base lo' hi H.size rdc E (.ref b :: As) h, fun U hU hW => sm_preC (av := .ref b :: As) G hE hPc hS hU hW⟩ rfl (by rw [List.length_map]; exact hn0) hl.1 (by show (As.reverse ++ .ref b :: st).map (sm_cv E) = _; rw [List.map_append, List.map_reverse]; rfl) (lv_room (by rw [sm_cat]; exact Nat.le_of_ble_eq_true hcat)) hd ⟨r3, r4⟩) q1 q2 q3 q4 hcl hy hs1 hs2 hh2 hst hlv K
theorem c_ctorN (G : sm_G base E0 Aq p s m args c cc nL own) {idx n0 lo' hi2 mc ms b d : Nat} {q' : sm_M} {As : List Value} {rdc rd2 rd' : Nat → Nat → Bool} {h2 : sm_H} (cv : sm_CJ own idx q' n0) (hM : sm_MetC l lo' hi rdc d mc ms q' (.ref b :: As) h hi2 rd2 h2) (hn0 : As.length = n0) (hsc : sm_same lo' hi rd rdc = true) (hR : decide (d + 1 ≤ R.frames ∧ 8 + (q'.2.2.1 + 11) + 64 * d ≤ R.locals ∧ k + mc ≤ R.cells ∧ n + ms ≤ R.slots) = true) (hcat : Nat.ble ((st.map fun v => v.category).sum) 8 = true)
    (hq : decide (lo ≤ lo' ∧ lo' ≤ hi ∧ hi ≤ hi2 ∧ hi0 ≤ hi) = true) (hcl : sm_clsB lo lo' hi rd = true) (hy : sm_dyB lo lo' hi h) (hs1 : sm_same lo lo' rd rd' = true) (hs2 : sm_same lo' hi2 rd2 rd' = true) (hh2 : ∀ i, lo ≤ i → i < lo' → h2 i = h i) (hst : sm_ltV hi st = true) (hlv : sm_ltV hi (lv.map (fun q => q.2)) = true) (hd : decode cc pc = .ok (.invokespecial idx, 3))
    (K : sm_C p l e R s m args below meth c Q Aq E0 hi0 nL lo hi2 rd' (k + mc) (n + ms) (pc + 3) lv st h2) : sm_C p l e R s m args below meth c Q Aq E0 hi0 nL lo hi rd k n pc lv (As.reverse ++ .ref b :: st) h := by
  intro E hE H locs ls hP hD hS hl
  obtain ⟨⟨w1, w2, w3, w4⟩, hy0, hnm, hrt⟩ := cv
  obtain ⟨r1, r2, r3, r4⟩ := of_decide_eq_true hR
  obtain ⟨q1, q2, q3, q4⟩ := of_decide_eq_true hq
  obtain ⟨hPs, hDs⟩ := sm_subP q1 (Nat.le_refl hi) hP hD
  obtain ⟨hPc, hDc⟩ := sm_redo hsc hPs hDs
  have hbs : base ≤ s.heap.size := G.2.2.2.2.2.2.2.2.2 _ (G.2.2.2.2.2.2.2.2.1 _ (Nat.le_refl _))
  have hM1 := hM base H.size E (sm_wD_of hDs).1 (fun i a b => G.2.2.2.2.2.2.2.2.2 _ ((sm_wD_of hDs).2 i a b)) (Nat.le_trans hbs hS.1)
  have hG1 := sm_goodL (q' := q') (by rw [hrt]; exact w4)
  refine sm_backC G hE hP hD hS hl (va_runIN (Ts := sm_LT) (As := As.map (sm_cv E)) (rest := st.map (sm_cv E)) (b := E.2.2 b) (nL := nL) ⟨G.1, G.2.1, G.2.2.1, G.2.2.2.1, G.2.2.2.2.1⟩ hM1 ⟨va_cnB n0 G.2.2.2.2.1 hG1 (by unfold sm_w; rw [hrt]) rfl rfl (G.2.2.2.2.2.1.2.1 _ w1) (G.2.2.2.2.1 _ w3) hy0 ⟨r1, r2⟩, hnm, G.2.2.2.2.1 _ w2⟩ ⟨sm_blindC base lo' hi H.size rdc E (.ref b :: As) h, fun U hU hW => sm_preC (av := .ref b :: As) G hE hPc hS hU hW⟩ rfl (by rw [List.length_map]; exact hn0) hl.1 (by show (As.reverse ++ .ref b :: st).map (sm_cv E) = _; rw [List.map_append, List.map_reverse]; rfl) (lv_room (by rw [sm_cat]; exact Nat.le_of_ble_eq_true hcat)) hd ⟨r3, r4⟩) q1 q2 q3 q4 hcl hy hs1 hs2 hh2 hst hlv K
theorem sm_backM {lo' hi' : Nat} {h1 : sm_H} {E : sm_E} {H : Heap} {locs : List Loc} {ls : Array Slot} {st0 : List Value} {a : Array Value} {rv : Option Value}
    (hE : sm_P E0 hi0 E) (hP : va_P E.1 sm_cl (sm_wsR lo hi rd E h) H) (hD : va_D Aq (sm_wsR lo hi rd E h)) (hS : va_S Aq s.heap H locs) (hl : lv_has ls nL (lv.map (sm_c2 E)))
    (hr : va_Run p l e R s m args below meth c H locs k n 0 0 (F0 m pc ls st0) (st.map (sm_cv E)) (sm_Qc lo' hi' E rv h1 a) (sm_A lo' hi' E))
    (hlo : lo ≤ lo') (hhi : hi' ≤ hi) (hs : sm_same lo' hi' (fun _ _ => true) rd = true) (hh : ∀ i, lo ≤ i → i < hi → (i < lo' ∨ hi' ≤ i) → h1 i = h i)
    (K : sm_C p l e R s m args below meth c Q Aq E0 hi0 nL lo hi rd k n (pc + 3) lv (rv.toList ++ st) h1) : W p l e R s m args below meth c H locs k n Q (F0 m pc ls st0) := by
  intro T hT X
  obtain ⟨v, st₀, t, T', L, h0, X', hL, e1, e2, ⟨hv, hP1, hz, hk⟩, go⟩ := hr T hT X
  have hv2 : v = rv.map (sm_cv E) := by injection hv
  subst hv2
  rw [h0] at hz hk
  have hw := sm_wP_of hP
  have hwD := sm_wD_of hD
  rw [← sm_wsR_true] at hP1
  have hP2 := sm_wP_of (sm_redo hs hP1 (sm_wD_to (A := fun _ => True) ⟨fun i j a b c d e => hwD.1 i j (by omega) (by omega) (by omega) (by omega) e, fun _ _ _ => trivial⟩)).1
  have hP3 : va_P E.1 sm_cl (sm_wsR lo hi rd E h1) t.heap := sm_wP_to fun i a b => by
    by_cases z : lo' ≤ i ∧ i < hi'
    · exact hP2 i z.1 z.2
    · have hhi1 : h1 i = h i := hh i a b (by omega)
      have e : sm_entR rd E h1 i = sm_entR rd E h i := by
        unfold sm_entR sm_fvR
        simp only [hhi1]
      rw [e]
      refine (hw i a b).kept (hk _ (hw i a b).lt (fun y => ?_))
      obtain ⟨j, c1, c2, c3⟩ := y
      have := hwD.1 i j a b (by omega) (by omega) c3
      omega
  have es : (rv.toList ++ st).map (sm_cv E) = (rv.map (sm_cv E)).toList ++ st.map (sm_cv E) := by cases rv <;> rfl
  have hfr : ∀ q, sm_A lo' hi' E q → Aq q := fun q z => by
    obtain ⟨j, c1, c2, rfl⟩ := z
    exact hwD.2 j (by omega) (by omega)
  have K2 := K E hE T'.heap (locs ++ L) ls (by rw [e1]; exact hP3) (sm_wD_to hwD) ⟨Nat.le_trans hS.1 (by rw [e1]; exact hz), fun q h1 h2 => by
      rw [e1, hk q (Nat.lt_of_lt_of_le h1 hS.1) (fun z => h2 (hfr q z))]
      exact hS.2.1 q h1 h2, fun q hq => by
      rcases List.mem_append.mp hq with g | g
      · exact hS.2.2 q g
      · exact hfr _ (hL q g)⟩ hl
  rw [es] at K2
  obtain ⟨t2, a1, b1⟩ := K2 T' rfl X'
  exact ⟨t2, go _ a1, b1⟩
theorem sm_preM {lo' hi' : Nat} {E : sm_E} {U : State} {H : Heap} {locs : List Loc} {av : List Value} (G : sm_G base E0 Aq p s m args c cc nL own) (hE : sm_P E0 hi0 E) (h1 : lo ≤ lo') (h2 : hi' ≤ hi) (hs : sm_same lo' hi' rd (fun _ _ => true) = true) (hP : va_P E.1 sm_cl (sm_wsR lo hi rd E h) H) (hD : va_D Aq (sm_wsR lo hi rd E h)) (hS : va_S Aq s.heap H locs) (hU : U.heap = H) (hW : s.WarmedH U.vm) : sm_Pc lo' hi' E av h (av.map (sm_cv E)).toArray U := by
  obtain ⟨hPs, hDs⟩ := sm_subP h1 h2 hP hD
  obtain ⟨hPc, hDc⟩ := sm_redo hs hPs hDs
  rw [sm_wsR_true] at hPc
  refine ⟨rfl, by rw [hU]; exact hPc, sm_KK.warm hW (hE.kk G.2.2.2.2.2.1), ?_⟩
  rw [hU]
  refine sm_STb.st ((sm_Gst G hE hS).moved hW.alike) (fun q z => ?_)
  obtain ⟨j, c1, c2, rfl⟩ := z
  exact G.2.2.2.2.2.2.2.2.2 _ ((sm_wD_of hDs).2 j c1 c2)
theorem c_callV (G : sm_G base E0 Aq p s m args c cc nL own) {idx n0 lo' hi' b d cl : Nat} {z : vw_C} {q' : sm_M} {As : List Value} {rv : Option Value} {h1 : sm_H} (cv : sm_CV own idx q' n0) (hz : sm_cl[cl]? = some z) (hzq : z.1 = q'.1.cls) (hLy : sm_Ly b = (0, cl, 0)) (hM : sm_Met l lo' hi' d q' (.ref b :: As) h rv h1) (hn0 : As.length = n0) (hR : decide (d + 1 ≤ R.frames ∧ 8 + (q'.2.2.1 + 11) + 64 * d ≤ R.locals ∧ k ≤ R.cells ∧ n ≤ R.slots) = true) (hcat : Nat.ble ((st.map fun v => v.category).sum) 8 = true)
    (hq : decide (lo ≤ lo' ∧ hi' ≤ hi ∧ lo ≤ b ∧ b < hi) = true) (hs : sm_same lo' hi' rd (fun _ _ => true) = true) (hs2 : sm_same lo' hi' (fun _ _ => true) rd = true) (hh : ∀ i, lo ≤ i → i < hi → (i < lo' ∨ hi' ≤ i) → h1 i = h i) (hd : decode cc pc = .ok (.invokevirtual idx, 3))
    (K : sm_C p l e R s m args below meth c Q Aq E0 hi0 nL lo hi rd k n (pc + 3) lv (rv.toList ++ st) h1) : sm_C p l e R s m args below meth c Q Aq E0 hi0 nL lo hi rd k n pc lv (As.reverse ++ .ref b :: st) h := by
  intro E hE H locs ls hP hD hS hl
  obtain ⟨⟨w1, w2, w3, w4, w5⟩, hy, hml⟩ := cv
  obtain ⟨r1, r2, r3, r4⟩ := of_decide_eq_true hR
  obtain ⟨q1, q2, q3, q4⟩ := of_decide_eq_true hq
  have hT : GoodIn sm_LT (wsV own idx q'.1.cls q'.1 (sm_w q')) := by
    intro w hw
    unfold wsV at hw
    rcases List.mem_append.mp hw with g | g
    · simp only [List.mem_cons, List.not_mem_nil, or_false] at g
      rcases g with rfl | rfl | rfl | rfl
      · exact ⟨w1, sm_good w1⟩
      · exact ⟨w2, sm_good w2⟩
      · exact ⟨w3, sm_good w3⟩
      · exact ⟨w4, sm_good w4⟩
    · exact sm_goodL w5 w g
  have hw := sm_wsR_get (rd := rd) (E := E) (h := h) q3 q4
  rw [sm_entR0 hLy] at hw
  have hrc := va_recv (q := z) (hE.kk G.2.2.2.2.2.1).1 hP hz hw
  rw [hzq] at hrc
  have hM1 := hM E (fun i j a b c d e => (sm_wD_of hD).1 i j (by omega) (by omega) (by omega) (by omega) e)
  exact sm_backM hE hP hD hS hl (va_runV (Ts := sm_LT) (As := As.map (sm_cv E)) (rest := st.map (sm_cv E)) (nL := nL) ⟨G.1, G.2.1, G.2.2.1, G.2.2.2.1, G.2.2.2.2.1⟩ hM1 (cwV n0 G.2.2.2.2.1 hT rfl rfl rfl ⟨rfl, hy.1, hy.2.1, hy.2.2⟩ ⟨r1, r2⟩) ⟨sm_blind lo' hi' E (.ref b :: As) h, hrc, fun U hU hW => sm_preM (av := .ref b :: As) G hE q1 q2 hs hP hD hS hU hW⟩ rfl (by rw [List.length_map]; exact hn0) hl.1 (by show (As.reverse ++ .ref b :: st).map (sm_cv E) = _; rw [List.map_append, List.map_reverse]; rfl) (lv_room (by rw [sm_cat]; exact Nat.le_of_ble_eq_true hcat)) hd ⟨r3, r4⟩) q1 q2 hs2 hh K
theorem c_callS (G : sm_G base E0 Aq p s m args c cc nL own) {idx n0 lo' hi' d : Nat} {q' : sm_M} {As : List Value} {rv : Option Value} {h1 : sm_H} (cv : sm_CS own idx q' n0) (hM : sm_Met l lo' hi' d q' As h rv h1) (hn0 : As.length = n0) (hR : decide (d + 1 ≤ R.frames ∧ 8 + (q'.2.2.1 + 11) + 64 * d ≤ R.locals ∧ k ≤ R.cells ∧ n ≤ R.slots) = true) (hcat : Nat.ble ((st.map fun v => v.category).sum) 8 = true)
    (hq : decide (lo ≤ lo' ∧ hi' ≤ hi) = true) (hs : sm_same lo' hi' rd (fun _ _ => true) = true) (hs2 : sm_same lo' hi' (fun _ _ => true) rd = true) (hh : ∀ i, lo ≤ i → i < hi → (i < lo' ∨ hi' ≤ i) → h1 i = h i) (hd : decode cc pc = .ok (.invokestatic idx, 3))
    (K : sm_C p l e R s m args below meth c Q Aq E0 hi0 nL lo hi rd k n (pc + 3) lv (rv.toList ++ st) h1) : sm_C p l e R s m args below meth c Q Aq E0 hi0 nL lo hi rd k n pc lv (As.reverse ++ st) h := by
  intro E hE H locs ls hP hD hS hl
  obtain ⟨⟨w1, w2, w4, w5⟩, hy, hml⟩ := cv
  obtain ⟨r1, r2, r3, r4⟩ := of_decide_eq_true hR
  obtain ⟨q1, q2⟩ := of_decide_eq_true hq
  have ht := G.2.2.2.2.1
  have hM1 := hM E (fun i j a b c d e => (sm_wD_of hD).1 i j (by omega) (by omega) (by omega) (by omega) e)
  exact sm_backM hE hP hD hS hl (va_runS (Ts := sm_LT) (As := As.map (sm_cv E)) (rest := st.map (sm_cv E)) (nL := nL) ⟨G.1, G.2.1, G.2.2.1, G.2.2.2.1, ht⟩ hM1 ⟨callB_of n0 ht (sm_goodL w5) rfl rfl rfl (ht _ w4) (ht _ w1) hy ⟨r1, r2⟩, ht _ w2⟩ ⟨sm_blind lo' hi' E As h, fun U hU hW => sm_preM (av := As) G hE q1 q2 hs hP hD hS hU hW⟩ rfl (by rw [List.length_map]; exact hn0) hl.1 (by show (As.reverse ++ st).map (sm_cv E) = _; rw [List.map_append, List.map_reverse]) (lv_room (by rw [sm_cat]; exact Nat.le_of_ble_eq_true hcat)) hd ⟨r3, r4⟩) q1 q2 hs2 hh K
theorem c_getR (G : sm_G base E0 Aq p s m args c cc nL own) {idx cl x i nn : Nat} (fl : sm_FL own idx cl x) (hLy : sm_Ly i = (0, cl, 0)) (h1 : Nat.ble lo i = true) (h2 : Nat.ble (i + 1) hi = true) (hfk : sm_fk cl x = nn + 3) (hr : rd i x = true) (hd : decode cc pc = .ok (.getfield idx, 3))
    (K : sm_C p l e R s m args below meth c Q Aq E0 hi0 nL lo hi rd k n (pc + 3) lv (.ref (i + nn) :: st) h) : sm_C p l e R s m args below meth c Q Aq E0 hi0 nL lo hi rd k n pc lv (.ref i :: st) h := by
  intro E hE H locs ls hP hD hS hl
  obtain ⟨z, hz, hk, hlink⟩ := fl
  have hk1 := (hE.kk G.2.2.2.2.2.1).1
  have hw := sm_wsR_get (rd := rd) (E := E) (h := h) (Nat.le_of_ble_eq_true h1) (Nat.le_of_ble_eq_true h2)
  rw [sm_entR0 hLy] at hw
  exact va_get (D := E.1) (ci := cl) (C := z.1) (T := z.2.1) (N := z.2.2) (Ts := sm_LT) G.1 G.2.1 G.2.2.2.2.1 (sm_clW cl z hz) G.2.2.2.1 hk1 hP (i - lo) hw hz x hk (G.2.2.2.2.1 _ hlink) (fun _ h9 => h9) (v := sm_cv E (.ref (i + nn))) (by
    rw [List.getElem?_map, List.getElem?_range (by rw [sm_nf_eq hz]; exact hk)]
    simp only [Option.map_some]
    unfold sm_fvR
    rw [hfk]
    simp only [hr, if_true]
    rfl) hd (K E hE H locs ls hP hD hS hl)
end sm_rows5
