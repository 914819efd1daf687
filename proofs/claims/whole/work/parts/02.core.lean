-- THE CLEAN JUDGEMENT: cells by number (id), all whole numbers of the world in one function h; sm_W is W over such a world
abbrev sm_H : Type := Nat → Nat → Int32
abbrev sm_E : Type := va_G × (Nat → ClassId) × (Nat → Nat)
def sm_up (h : sm_H) (i k : Nat) (v : Int32) : sm_H := fun j q => if j = i ∧ q = k then v else h j q
def sm_row (h : sm_H) (i : Nat) (f : Nat → Int32) : sm_H := fun j => if j = i then f else h j
def sm_lo (x : Int64) : Int32 := Int32.ofNat (x.toBitVec.toNat % 4294967296)
def sm_hi (x : Int64) : Int32 := Int32.ofNat (x.toBitVec.toNat / 4294967296)
def sm_jn (a b : Int32) : Int64 := Int64.ofNat (b.toBitVec.toNat * 4294967296 + a.toBitVec.toNat)
theorem sm_jn_id (x : Int64) : sm_jn (sm_lo x) (sm_hi x) = x := by
  have hx : x.toBitVec.toNat < 18446744073709551616 := x.toBitVec.isLt
  have e1 : (sm_lo x).toBitVec.toNat = x.toBitVec.toNat % 4294967296 := by
    show (BitVec.ofNat 32 (x.toBitVec.toNat % 4294967296)).toNat = _
    rw [BitVec.toNat_ofNat]
    exact Nat.mod_eq_of_lt (Nat.mod_lt _ (by omega))
  have e2 : (sm_hi x).toBitVec.toNat = x.toBitVec.toNat / 4294967296 := by
    show (BitVec.ofNat 32 (x.toBitVec.toNat / 4294967296)).toNat = _
    rw [BitVec.toNat_ofNat]
    exact Nat.mod_eq_of_lt (by omega)
  unfold sm_jn
  rw [e1, e2]
  have e3 : x.toBitVec.toNat / 4294967296 * 4294967296 + x.toBitVec.toNat % 4294967296 = x.toBitVec.toNat := by omega
  rw [e3]
  apply Int64.toBitVec_inj.mp
  show BitVec.ofNat 64 x.toBitVec.toNat = x.toBitVec
  apply BitVec.eq_of_toNat_eq
  rw [BitVec.toNat_ofNat]
  exact Nat.mod_eq_of_lt hx
def sm_fv (ad : Nat → Nat) (c k i : Nat) (h : sm_H) : Value := match sm_fk c k with
  | 0 => .int (h i k)
  | 1 => if h i k = 0 then .null else .ref (ad (h i k).toNatClampNeg)
  | 2 => .long (sm_jn (h i k) (h i (k + 1000)))
  | n + 3 => .ref (ad (i + n))
def sm_nf (c : Nat) : Nat := match sm_cl[c]? with
  | some q => q.2.2
  | none => 0
def sm_ent (E : sm_E) (h : sm_H) (i : Nat) : va_E := match sm_Ly i with
  | (0, c, _) => .inr (c, (List.range (sm_nf c)).map (fun k => sm_fv E.2.2 c k i h))
  | (1, t, n) => .inl (E.2.1 t, n, .inl (h i))
  | (_, _, _) => .inl (E.2.1 3, 3, .inr (.inr (.inr (.inr (fun j => if h i j = 0 then none else some (E.2.2 (h i j).toNatClampNeg))))))
def sm_ws (lo hi : Nat) (E : sm_E) (h : sm_H) : va_W := (List.range' lo (hi - lo)).map fun i => (E.2.2 i, sm_ent E h i)
def sm_A (lo hi : Nat) (E : sm_E) : Nat → Prop := fun q => ∃ i, lo ≤ i ∧ i < hi ∧ q = E.2.2 i
def sm_Inj (lo hi : Nat) (E : sm_E) : Prop := ∀ i j, lo ≤ i → i < hi → lo ≤ j → j < hi → E.2.2 i = E.2.2 j → i = j
theorem sm_ent_row {E : sm_E} {h h' : sm_H} {i : Nat} (e : h' i = h i) : sm_ent E h' i = sm_ent E h i := by
  have e2 : ∀ c k, sm_fv E.2.2 c k i h' = sm_fv E.2.2 c k i h := by
    intro c k
    unfold sm_fv
    rw [e]
  unfold sm_ent
  simp only [e2, e]
theorem sm_ws_get {lo hi : Nat} {E : sm_E} {h : sm_H} {i : Nat} (h1 : lo ≤ i) (h2 : i < hi) : (sm_ws lo hi E h)[i - lo]? = some (E.2.2 i, sm_ent E h i) := by
  unfold sm_ws
  rw [List.getElem?_map, List.getElem?_range' (by omega)]
  simp only [Option.map_some, Nat.one_mul]
  rw [show lo + (i - lo) = i by omega]
theorem sm_ws_at {lo hi : Nat} {E : sm_E} {h : sm_H} {k : Nat} {q : Nat × va_E} (hk : (sm_ws lo hi E h)[k]? = some q) : lo ≤ lo + k ∧ lo + k < hi ∧ q = (E.2.2 (lo + k), sm_ent E h (lo + k)) := by
  unfold sm_ws at hk
  rw [List.getElem?_map] at hk
  by_cases hl : k < hi - lo
  · rw [List.getElem?_range' hl] at hk
    simp only [Option.map_some, Nat.one_mul] at hk
    exact ⟨by omega, by omega, (Option.some.inj hk).symm⟩
  · rw [List.getElem?_eq_none (by simp; omega)] at hk
    cases hk
theorem sm_ws_set {lo hi : Nat} {E : sm_E} {h h' : sm_H} {i : Nat} (h1 : lo ≤ i) (h2 : i < hi) (he : ∀ j, j ≠ i → h' j = h j) : (sm_ws lo hi E h).set (i - lo) (E.2.2 i, sm_ent E h' i) = sm_ws lo hi E h' := by
  apply List.ext_getElem?
  intro k
  by_cases hk : k = i - lo
  · subst hk
    rw [sm_ws_get h1 h2, List.getElem?_set_self (by unfold sm_ws; simp; omega)]
  · rw [List.getElem?_set_ne (Ne.symm hk)]
    by_cases hl : k < hi - lo
    · have g1 := sm_ws_get (E := E) (h := h) (show lo ≤ lo + k by omega) (show lo + k < hi by omega)
      have g2 := sm_ws_get (E := E) (h := h') (show lo ≤ lo + k by omega) (show lo + k < hi by omega)
      rw [show lo + k - lo = k by omega] at g1 g2
      rw [g1, g2, sm_ent_row (he (lo + k) (by omega))]
    · rw [List.getElem?_eq_none (by unfold sm_ws; simp; omega), List.getElem?_eq_none (by unfold sm_ws; simp; omega)]
theorem sm_D {lo hi : Nat} {E : sm_E} (hI : sm_Inj lo hi E) (h : sm_H) : va_D (sm_A lo hi E) (sm_ws lo hi E h) := by
  refine ⟨fun i j p q hp hq hpq => ?_, fun k q hk => ?_⟩
  · obtain ⟨a1, a2, rfl⟩ := sm_ws_at hp
    obtain ⟨b1, b2, rfl⟩ := sm_ws_at hq
    have := hI _ _ a1 a2 b1 b2 hpq
    omega
  · obtain ⟨a1, a2, rfl⟩ := sm_ws_at hk
    exact ⟨_, a1, a2, rfl⟩
theorem sm_up_ne (h : sm_H) (i k : Nat) (v : Int32) (j : Nat) (hj : j ≠ i) : sm_up h i k v j = h j := by
  funext q
  unfold sm_up
  rw [if_neg (fun z => hj z.1)]
theorem sm_up_self (h : sm_H) (i k : Nat) (v : Int32) : sm_up h i k v i = upd (h i) k v := by
  funext q
  unfold sm_up upd
  by_cases hq : q = k
  · rw [if_pos ⟨rfl, hq⟩, if_pos hq]
  · rw [if_neg (fun z => hq z.2), if_neg hq]
-- what the tables say at a state, beside the world
def sm_tys (E : sm_E) : List (ClassId × FieldType) := [(E.2.1 0, .int), (E.2.1 1, .byte), (E.2.1 2, .boolean), (E.2.1 3, .object "SmokeControl$State")]
def sm_KK (E : sm_E) (U : State) : Prop := va_K E.1 sm_cl (sm_tys E) U ∧ (∀ w ∈ sm_NL, va_Nw w U) ∧ (∀ (k : Nat) (q : Nat × String), sm_SL[k]? = some q → vk_R "SmokeControl$Reader" q.1 q.2 (E.2.2 (5000 + k)) U)
theorem sm_NL_nest : ∀ w ∈ sm_NL, ∃ a i x h, w = .methodLinkNest a i x h := by
  intro w hw
  simp only [sm_NL, List.mem_cons, List.not_mem_nil, or_false] at hw
  rcases hw with rfl | rfl | rfl | rfl | rfl | rfl | rfl | rfl | rfl | rfl | rfl | rfl | rfl | rfl | rfl | rfl | rfl | rfl <;> exact ⟨_, _, _, _, rfl⟩
theorem sm_KK.warm {E : sm_E} {s U : State} (hW : s.WarmedH U.vm) (h : sm_KK E s) : sm_KK E U := by
  refine ⟨va_K.moved hW.alike h.1, fun w hw => ?_, fun k q hk => vk_R.warm hW (h.2.2 k q hk)⟩
  obtain ⟨a, i, x, g, rfl⟩ := sm_NL_nest w hw
  exact va_Nw.warmM hW (h.2.1 _ hw)
theorem sm_KK.same {E : sm_E} {s U : State} (e : s.vm = U.vm) (h : sm_KK E s) : sm_KK E U := by
  refine ⟨va_K.moved (u := s) (by rw [e]; exact Vm.Alike.refl U.vm) h.1, fun w hw => ?_, fun k q hk => vk_R.same e.symm (h.2.2 k q hk)⟩
  obtain ⟨a, i, x, g, rfl⟩ := sm_NL_nest w hw
  exact va_Nw.same rfl e (h.2.1 _ hw)
-- the String constants and the one static of String, outside the world
def sm_ST (lo hi : Nat) (E : sm_E) (U : State) (H : Heap) : Prop := vk_S 28 sm_sl sm_sb (fun k => E.2.2 (5000 + k)) (fun k => E.2.2 (6000 + k)) (sm_A lo hi E) U H ∧ va_Z "java/lang/String" "COMPACT_STRINGS" "Z" (.int 1) (sm_A lo hi E) U H ∧ (va_Z "jdk/internal/util/Preconditions" "SIOOBE_FORMATTER" "Ljava/util/function/BiFunction;" .null (sm_A lo hi E) U H ∨ va_Z "jdk/internal/util/Preconditions" "SIOOBE_FORMATTER" "Ljava/util/function/BiFunction;" (.ref (E.2.2 7000)) (sm_A lo hi E) U H)
def sm_rm (d : Nat) : Room := { frames := d, cells := 0, slots := 0, locals := 64 * d }
def sm_w (q : sm_M) : List Cond := Cond.code q.1 q.2.1 q.2.2.1 q.2.2.2 :: sm_LT
def sm_cv (E : sm_E) (v : Value) : Value := match v with
  | .ref i => .ref (E.2.2 i)
  | v => v
def sm_c2 (E : sm_E) (q : Nat × Value) : Nat × Value := (q.1, sm_cv E q.2)
theorem sm_cv_cat (E : sm_E) (v : Value) : (sm_cv E v).category = v.category := by cases v <;> rfl
def sm_Pc (lo hi : Nat) (E : sm_E) (av : List Value) (h : sm_H) : Array Value → State → Prop := fun a U => a = (av.map (sm_cv E)).toArray ∧ va_P E.1 sm_cl (sm_ws lo hi E h) U.heap ∧ sm_KK E U ∧ sm_ST lo hi E U U.heap
def sm_Qc (lo hi : Nat) (E : sm_E) (r : Option Value) (h' : sm_H) : Array Value → State → Outcome → State → Prop := fun _ st oc t => oc = .returned (r.map (sm_cv E)) ∧ va_P E.1 sm_cl (sm_ws lo hi E h') t.heap ∧ va_F (sm_A lo hi E) st t
def sm_Met (l : Launch) (lo hi d : Nat) (q : sm_M) (av : List Value) (h : sm_H) (r : Option Value) (h' : sm_H) : Prop :=
  ∀ E, sm_Inj lo hi E → Met l q.1 (sm_w q) (sm_rm d) (sm_Pc lo hi E av h) (sm_Qc lo hi E r h') 0 0 (sm_A lo hi E)
def sm_Cx (lo hi : Nat) (E : sm_E) (q : sm_M) (p : Program) (s : State) (m : MethodId) (args : Array Value) (meth : Method) (c : Code) : Prop :=
  p.tables.exec = Jvm.exec ∧ c.code = q.2.1 ∧ c.maxLocals = q.2.2.1 ∧ meth.sig.returnType = q.2.2.2 ∧ meth.locks = false ∧ s.vm.findClass q.1.cls = some m.cls ∧ (∀ w ∈ sm_w q, w.before args s = true) ∧ sm_KK E s ∧ sm_ST lo hi E s s.heap
def sm_W (l : Launch) (lo hi d : Nat) (q : sm_M) (pc : Nat) (lv : List (Nat × Value)) (st : List Value) (h : sm_H) (r : Option Value) (h' : sm_H) : Prop :=
  ∀ E, sm_Inj lo hi E → ∀ (p : Program) (e : Env) (s : State) (m : MethodId) (args : Array Value) (below : List Frame) (meth : Method) (c : Code), sm_Cx lo hi E q p s m args meth c →
    ∀ (H : Heap) (locs : List Loc) (ls : Array Slot), va_P E.1 sm_cl (sm_ws lo hi E h) H → va_S (sm_A lo hi E) s.heap H locs → lv_has ls q.2.2.1 (lv.map (sm_c2 E)) →
      W p l e (sm_rm d) s m args below meth c H locs 0 0 (MQ below (sm_Qc lo hi E r h') args s 0 0 (sm_A lo hi E)) (F0 m pc ls (st.map (sm_cv E)))
theorem sm_args (E : sm_E) (av : List Value) : ∀ n, lv_args n (av.map (sm_cv E)) = (lv_args n av).map (sm_c2 E) := by
  induction av with
  | nil => intro n; rfl
  | cons v av ih =>
    intro n
    cases v <;> (simp only [List.map_cons, lv_args, sm_cv]; rw [ih]; rfl)
theorem sm_slots (E : sm_E) (av : List Value) : (lg_sl (av.map (sm_cv E))).length = (lg_sl av).length := by
  induction av with
  | nil => rfl
  | cons v av ih =>
    have e : ∀ (x : Value) (l : List Value), (lg_sl (x :: l)).length = (if x.category = 2 then 2 else 1) + (lg_sl l).length := by
      intro x l
      unfold lg_sl
      rw [List.flatMap_cons, List.length_append]
      split <;> rfl
    rw [List.map_cons, e, e, ih, sm_cv_cat]
theorem sm_ST.moved {lo hi : Nat} {E : sm_E} {u U : State} {H : Heap} (hvm : u.vm.Alike U.vm) (h : sm_ST lo hi E u H) : sm_ST lo hi E U H := ⟨vk_S.moved hvm h.1, va_Z.moved hvm h.2.1, h.2.2.imp (va_Z.moved hvm) (va_Z.moved hvm)⟩
theorem sm_ST.kept {lo hi : Nat} {E : sm_E} {U : State} {H H1 : Heap} (h : sm_ST lo hi E U H) (hq : ∀ a : Nat, a < H.size → ¬ sm_A lo hi E a → H1[a]? = H[a]?) : sm_ST lo hi E U H1 := ⟨vk_S.kept h.1 hq, va_Z.kept h.2.1 hq, h.2.2.imp (fun z => va_Z.kept z hq) (fun z => va_Z.kept z hq)⟩
theorem sm_Met.of {l : Launch} {lo hi d : Nat} {q : sm_M} {av : List Value} {h h' : sm_H} {r : Option Value} (hy : plainFor q.1 = true) (hn : Nat.ble (lg_sl av).length q.2.2.1 = true) (K : sm_W l lo hi d q 0 (lv_args 0 av) [] h r h') : sm_Met l lo hi d q av h r h' := by
  intro E hI
  refine va_MetF (cc := q.2.1) (maxL := q.2.2.1) (ret := q.2.2.2) hy rfl ?_
  intro p e s m args below meth c s₁ B hml hv
  obtain ⟨rfl, hP, hK, hT⟩ := hv
  have hts := atoms_spec (ws := sm_w q) B.pre
  have hl := lv_entry (av.map (sm_cv E)) (n := q.2.2.1) (by rw [sm_slots]; exact Nat.le_of_ble_eq_true hn)
  rw [sm_args] at hl
  rw [lg_entry_eq]
  exact K E hI p e s m _ below meth c ⟨B.exec, B.bytes, hml, B.returns, B.notSynchronized, findClass_of_methodNamed B.named, hts, hK, hT⟩ s.heap [] _ hP va_S.rf hl
