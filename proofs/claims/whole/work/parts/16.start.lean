def lw_P (b : Addr) (xs : List Int32) (args : Array Value) (s : State) : Prop := args = #[.ref b] ∧ s.IntsAt b xs ∧ xs.length ≤ 3072 ∧ (Jvm.Cond.and given_1 narrow_1).before args s = true
def lw_Q (_ : Array Value) (s : State) (o : Outcome) (t : State) : Prop := o = .returned (some (.int 1)) ∧ Framed s o t [] 600000 7302250
def lw_Z (below : List Frame) (a : Array Value) (s : State) : State → Prop := fun t => ∃ o, t.status = .running ∧ Ended t below o ∧ lw_Q a s o t
/-- the law's own end, with 1 on the stack, nothing written that was there before, its room as the claim has it -/
theorem lw_ret {p : Program} {l : Launch} {e : Env} {s : State} {m : MethodId} {below : List Frame} {meth : Method} {c : Code} {b : Nat} (hx : p.tables.exec = Jvm.exec) (hb : c.code = code) (hr : meth.sig.returnType = ret) (hlocks : meth.locks = false) {pc : Nat} {H : Heap} {ls : Array Slot} (hdg : decode code pc = .ok (.ireturn, 1)) : W p l e room_1 s m #[Value.ref b] below meth c H [] 600000 7302250 (lw_Z below #[Value.ref b] s) (F0 m pc ls [.int 1]) := by
  intro T hT X
  obtain ⟨fs, hret, hrun, hended, hW, hframe⟩ := X.leave (v := some (.int 1)) (hlocks := hlocks) (fun h => by rw [hr] at h; cases h)
  have hmeth' : T.vm.method? m = some meth := X.method'
  refine ⟨T.setFrames fs, ?_, .returned (some (.int 1)), hrun, hended, rfl, ⟨_, rfl⟩, hW, hframe⟩
  jvm_step X.here [X.here.top, hx, hb, hdg, hmeth', hr, ret, narrow_b1]
  (try refine ⟨rfl, ?_⟩); (try refine ⟨rfl, ?_⟩)
  first | (intro acts; rw [hret _ acts rfl rfl rfl]) | rw [hret _ _ rfl rfl rfl]
  exact Steps.refl _
/-- what holds at the law's entry: the machine, the code, the tables' words (any of lw_tbl by 'hts w (by decide +kernel)'), the script of L ints xs at the cell b, what the Statement gives of the start (any of its parts by flat_of_before) -/
def lw_At (p : Program) (s : State) (m : MethodId) (meth : Method) (c : Code) (b L : Nat) (xs : Nat → Int32) : Prop :=
  p.tables.exec = Jvm.exec ∧ c.code = code ∧ meth.sig.returnType = ret ∧ c.maxLocals = 4 ∧ s.vm.findClass R_law = some m.cls ∧ (∀ w ∈ lw_tbl, w.before #[Value.ref b] s = true) ∧ va_X b L xs s s.heap ∧ b < s.heap.size ∧ meth.locks = false ∧ (Jvm.Cond.and given_1 narrow_1).before #[Value.ref b] s = true
theorem sm_tt {w : Cond} (i : Nat) (h : tables_1[i]? = some w) : w ∈ lw_tbl := List.mem_append_right _ (List.mem_of_getElem? h)
theorem sm_strIn : ∀ (k : Nat) (q : Nat × String), sm_SL[k]? = some q → Cond.stringRef "SmokeControl$Reader" q.1 q.2 ∈ lw_tbl := by
  intro k q hq
  match k, hq with
  | 0, hq => cases hq; exact (sm_tt 518 (by decide +kernel))
  | 1, hq => cases hq; exact (sm_tt 591 (by decide +kernel))
  | 2, hq => cases hq; exact (sm_tt 604 (by decide +kernel))
  | 3, hq => cases hq; exact (sm_tt 605 (by decide +kernel))
  | 4, hq => cases hq; exact (sm_tt 606 (by decide +kernel))
  | 5, hq => cases hq; exact (sm_tt 614 (by decide +kernel))
  | 6, hq => cases hq; exact (sm_tt 619 (by decide +kernel))
  | 7, hq => cases hq; exact (sm_tt 629 (by decide +kernel))
  | 8, hq => cases hq; exact (sm_tt 638 (by decide +kernel))
  | 9, hq => cases hq; exact (sm_tt 639 (by decide +kernel))
  | 10, hq => cases hq; exact (sm_tt 640 (by decide +kernel))
  | 11, hq => cases hq; exact (sm_tt 653 (by decide +kernel))
  | 12, hq => cases hq; exact (sm_tt 662 (by decide +kernel))
  | 13, hq => cases hq; exact (sm_tt 663 (by decide +kernel))
  | 14, hq => cases hq; exact (sm_tt 664 (by decide +kernel))
  | 15, hq => cases hq; exact (sm_tt 665 (by decide +kernel))
  | 16, hq => cases hq; exact (sm_tt 666 (by decide +kernel))
  | 17, hq => cases hq; exact (sm_tt 667 (by decide +kernel))
  | 18, hq => cases hq; exact (sm_tt 684 (by decide +kernel))
  | 19, hq => cases hq; exact (sm_tt 685 (by decide +kernel))
  | 20, hq => cases hq; exact (sm_tt 686 (by decide +kernel))
  | 21, hq => cases hq; exact (sm_tt 695 (by decide +kernel))
  | 22, hq => cases hq; exact (sm_tt 696 (by decide +kernel))
  | 23, hq => cases hq; exact (sm_tt 697 (by decide +kernel))
  | 24, hq => cases hq; exact (sm_tt 698 (by decide +kernel))
  | 25, hq => cases hq; exact (sm_tt 699 (by decide +kernel))
  | 26, hq => cases hq; exact (sm_tt 700 (by decide +kernel))
  | 27, hq => cases hq; exact (sm_tt 701 (by decide +kernel))
  | k + 28, hq => simp [sm_SL] at hq
theorem sm_nestIn : ∀ w ∈ sm_NL, w ∈ lw_tbl := by
  intro w hw
  simp only [sm_NL, List.mem_cons, List.not_mem_nil, or_false] at hw
  rcases hw with rfl | rfl | rfl | rfl | rfl | rfl | rfl | rfl | rfl | rfl | rfl | rfl | rfl | rfl | rfl | rfl | rfl | rfl
  · exact (sm_tt 36 (by decide +kernel))
  · exact (sm_tt 182 (by decide +kernel))
  · exact (sm_tt 188 (by decide +kernel))
  · exact (sm_tt 256 (by decide +kernel))
  · exact (sm_tt 281 (by decide +kernel))
  · exact (sm_tt 313 (by decide +kernel))
  · exact (sm_tt 417 (by decide +kernel))
  · exact (sm_tt 423 (by decide +kernel))
  · exact (sm_tt 611 (by decide +kernel))
  · exact (sm_tt 624 (by decide +kernel))
  · exact (sm_tt 826 (by decide +kernel))
  · exact (sm_tt 855 (by decide +kernel))
  · exact (sm_tt 860 (by decide +kernel))
  · exact (sm_tt 902 (by decide +kernel))
  · exact (sm_tt 942 (by decide +kernel))
  · exact (sm_tt 943 (by decide +kernel))
  · exact (sm_tt 1056 (by decide +kernel))
  · exact (sm_tt 1071 (by decide +kernel))
theorem sm_insIn : ∀ (c : Nat) (z : vw_C), sm_cl[c]? = some z → Cond.instantiable z.1 z.2.2 ∈ sm_LT := by
  intro c z hz
  match c, hz with
  | 0, hz => cases hz; exact (sm_mq2 15 (by decide +kernel) rfl)
  | 1, hz => cases hz; exact (sm_mq2 182 (by decide +kernel) rfl)
  | 2, hz => cases hz; exact (sm_mq2 176 (by decide +kernel) rfl)
  | 3, hz => cases hz; exact (sm_mq2 40 (by decide +kernel) rfl)
  | 4, hz => cases hz; exact (sm_mq1 29 (by decide +kernel) rfl)
  | 5, hz => cases hz; exact (sm_mq1 181 (by decide +kernel) rfl)
  | 6, hz => cases hz; exact (sm_mq1 35 (by decide +kernel) rfl)
  | 7, hz => cases hz; exact (sm_mq2 9 (by decide +kernel) rfl)
  | 8, hz => cases hz; exact (sm_mq1 187 (by decide +kernel) rfl)
  | 9, hz => cases hz; exact (sm_mq1 21 (by decide +kernel) rfl)
  | 10, hz => cases hz; exact (sm_mq5 180 (by decide +kernel) rfl)
  | k + 11, hz => simp [sm_cl] at hz
def sm_tm (i : Nat) : Term := .string "SmokeControl$Reader" (sm_SL.getD i (0, "")).1
def sm_nw (i : Nat) : List Cond := [.exactly (sm_tm i) "java/lang/String", .eq (.field (sm_tm i) "java/lang/String" "coder" "B") (.int 0), .arrayOf (.field (sm_tm i) "java/lang/String" "value" "[B") .byte, .eq (.length (.field (sm_tm i) "java/lang/String" "value" "[B")) (.int (Int32.ofNat (sm_sl.getD i 0)))]
def sm_ne (i j : Nat) : Cond := .eq (.elem (.field (sm_tm i) "java/lang/String" "value" "[B") (.int (Int32.ofNat j))) (.int ((sm_sb.getD i []).getD j 0))
theorem sm_nwIn : ((List.range 28).all fun i => (sm_nw i).all fun w => decide (w ∈ flatC (Cond.and given_1 narrow_1))) = true := by decide +kernel
theorem sm_neIn : ((List.range 28).all fun i => (List.range (sm_sl.getD i 0)).all fun j => decide (sm_ne i j ∈ flatC (Cond.and given_1 narrow_1))) = true := by decide +kernel
theorem sm_strNe : ((List.range 28).all fun i => (List.range 28).all fun j => i == j || sm_sl.getD i 0 != sm_sl.getD j 0 || (List.range (sm_sl.getD i 0)).any fun k => (sm_sb.getD i []).getD k 0 != (sm_sb.getD j []).getD k 0) = true := by decide +kernel
theorem sm_slLt : ((List.range 28).all fun i => decide (sm_sl.getD i 0 < 100)) = true := by decide +kernel
theorem sm_OFd {o n d : String} {v w : Value} {t : Nat} {A : Nat → Prop} {U : State} {H : Heap} (h1 : va_OF o n d v t A U H) (h2 : va_OF o n d w t A U H) : v = w := by
  obtain ⟨cf, k, i, f, cell, a1, a2, a3, a4, a5, a6⟩ := h1
  obtain ⟨cf', k', i', f', cell', b1, b2, b3, b4, b5, b6⟩ := h2
  have e := a1.symm.trans b1
  simp only [Option.some.injEq, Prod.mk.injEq] at e
  obtain ⟨-, -, -, rfl⟩ := e
  cases a3.symm.trans b3
  exact Option.some.inj (a5.symm.trans b5)
theorem sm_Td {t N M : Nat} {f g : Nat → Value} {A : Nat → Prop} {U : State} {H : Heap} (hN : N < 100) (hM : M < 100) (h1 : va_T .byte t N f A U H) (h2 : va_T .byte t M g A U H) : N = M ∧ ∀ j, j < N → f j = g j := by
  obtain ⟨cell, a1, a2, a3, a4, a5, a6, a7⟩ := h1
  obtain ⟨cell', b1, b2, b3, b4, b5, b6, b7⟩ := h2
  cases a1.symm.trans b1
  have e : nI N = nI M := a5.symm.trans b5
  have e2 := (nI_eq (by omega) (by omega)).mp e
  subst e2
  exact ⟨rfl, fun j hj => Option.some.inj ((a6 j hj).symm.trans (b6 j hj))⟩
theorem sm_strOf {args : Array Value} {s : State} {A : Nat → Prop} (hs : ∀ w ∈ flatC (Cond.and given_1 narrow_1), w.before args s = true) (hA : ∀ a : Nat, a < s.heap.size → ¬ A a) : ∃ adK adV : Nat → Nat, vk_S 28 sm_sl sm_sb adK adV A s s.heap ∧ ∀ i : Nat, i < 28 → (sm_tm i).eval args s none [] s = some (.ref (adK i)) := by
  have hw : ∀ i, i < 28 → ∀ w ∈ sm_nw i, w.before args s = true := fun i hi w hw => hs w (of_decide_eq_true (List.all_eq_true.mp (List.all_eq_true.mp sm_nwIn i (List.mem_range.mpr hi)) w hw))
  have he : ∀ i, i < 28 → ∀ j, j < sm_sl.getD i 0 → (sm_ne i j).before args s = true := fun i hi j hj => hs _ (of_decide_eq_true (List.all_eq_true.mp (List.all_eq_true.mp sm_neIn i (List.mem_range.mpr hi)) j (List.mem_range.mpr hj)))
  have hlt : ∀ i, i < 28 → sm_sl.getD i 0 < 100 := fun i hi => of_decide_eq_true (List.all_eq_true.mp sm_slLt i (List.mem_range.mpr hi))
  have h0 : ∀ i : Nat, ∃ q : Nat × Nat, i < 28 → (sm_tm i).eval args s none [] s = some (.ref q.1) ∧ va_O "java/lang/String" q.1 A s s.heap ∧ va_OF "java/lang/String" "coder" "B" (.int 0) q.1 A s s.heap ∧ va_OF "java/lang/String" "value" "[B" (.ref q.2) q.1 A s s.heap ∧ va_T .byte q.2 (sm_sl.getD i 0) (fun j => .int ((sm_sb.getD i []).getD j 0)) A s s.heap := by
    intro i
    by_cases hi : i < 28
    · obtain ⟨adK, adV, g, ge⟩ := vk_Sof (args := args) (s := s) (N := 1) (tm := fun _ => sm_tm i) (len := [sm_sl.getD i 0]) (byt := [sm_sb.getD i []]) (A := A)
        (fun z hz => by
          have : z = 0 := by omega
          subst this
          have := hlt i hi
          show sm_sl.getD i 0 < _
          omega)
        (fun z hz => hw i hi _ (by simp [sm_nw])) (fun z hz => hw i hi _ (by simp [sm_nw])) (fun z hz => hw i hi _ (by simp [sm_nw]))
        (fun z hz => by
          have : z = 0 := by omega
          subst this
          exact hw i hi _ (by simp [sm_nw]))
        (fun z hz j hj => by
          have : z = 0 := by omega
          subst this
          exact he i hi j hj)
        (fun a b ha hb hab => absurd (by omega : a = b) hab) hA
      obtain ⟨g1, g2, g3, g4⟩ := g.1 0 (by omega)
      exact ⟨(adK 0, adV 0), fun _ => ⟨ge 0 (by omega), g1, g2, g3, g4⟩⟩
    · exact ⟨(0, 0), fun h => absurd h hi⟩
  obtain ⟨ad, had⟩ := Classical.axiomOfChoice h0
  refine ⟨fun i => (ad i).1, fun i => (ad i).2, ⟨fun i hi => (had i hi).2, fun i j hi hj e => ?_⟩, fun i hi => (had i hi).1⟩
  by_cases hij : i = j
  · exact hij
  · exfalso
    obtain ⟨-, -, -, a3, a4⟩ := had i hi
    obtain ⟨-, -, -, b3, b4⟩ := had j hj
    have e' : (ad i).1 = (ad j).1 := e
    rw [← e'] at b3
    have ev : (ad i).2 = (ad j).2 := by
      have := sm_OFd a3 b3
      injection this
    rw [← ev] at b4
    obtain ⟨c1, c2⟩ := sm_Td (hlt i hi) (hlt j hj) a4 b4
    have g := List.all_eq_true.mp (List.all_eq_true.mp sm_strNe i (List.mem_range.mpr hi)) j (List.mem_range.mpr hj)
    simp only [Bool.or_eq_true, beq_iff_eq, bne_iff_ne, ne_eq, List.any_eq_true, List.mem_range] at g
    rcases g with (g | g) | ⟨k, k1, k2⟩
    · exact hij g
    · exact g c1
    · have := c2 k k1
      injection this with this
      exact k2 this
theorem sm_arrOf {args : Array Value} {s : State} {ty : FieldType} (hty : ∀ C, ty ≠ .object C) (h : (Cond.arrayClass ty).before args s = true) : ∃ cA : ClassId, ArrOfT s cA ty ∧ va_RA s cA ty := by
  obtain ⟨cA, kA, comp, h1, h2, h3⟩ := Cond.arrayClass_spec h
  refine ⟨cA, fun n z => ⟨fun k e => ?_, kA, h2, comp, h3⟩, ?_⟩
  · cases e
  · cases ty with
    | object C => exact absurd rfl (hty C)
    | _ => exact h1
theorem sm_arrOfQ {args : Array Value} {s : State} {C : String} (h : (Cond.arrayOver (.object C)).before args s = true) : ∃ cA : ClassId, ArrOfT s cA (.object C) ∧ va_RA s cA (.object C) := by
  obtain ⟨comp, cA, kA, h1, h2, h3, h4, h5⟩ := Cond.arrayOver_spec h
  refine ⟨cA, fun n z => ⟨fun k e => ?_, kA, h3, comp, h4⟩, kA, comp, h3, h4, h1, h5⟩
  cases e
theorem sm_start {args : Array Value} {s : State} (hts : ∀ w ∈ lw_tbl, w.before args s = true) (hg : (Cond.and given_1 narrow_1).before args s = true) (b : Nat) : ∃ E0 : sm_E, sm_KK E0 s ∧ sm_STb s.heap.size E0 s s.heap ∧ va_AO "SmokeControl$State" s ∧ E0.2.2 8000 = b := by
  have hs := flat_of_before _ hg
  have hLT : ∀ w ∈ sm_LT, w.before args s = true := fun w hw => hts w (List.mem_filter.mp hw).1
  have hA : ∀ a : Nat, a < s.heap.size → ¬ s.heap.size ≤ a := fun a h => by omega
  obtain ⟨adK, adV, hS, hE⟩ := sm_strOf (A := fun q => s.heap.size ≤ q) hs hA
  have hk : ∀ c : Nat, ∃ z : ClassId × (Nat → Nat), ∀ q, sm_cl[c]? = some q → u_Kn s q.1 q.2.1 q.2.2 z.1 z.2 := by
    intro c
    match hc : sm_cl[c]? with
    | none => exact ⟨(0, fun _ => 0), fun q hq => by cases hq⟩
    | some q =>
      obtain ⟨cC, iS, g⟩ := u_known (C := q.1) (T := q.2.1) (N := q.2.2) hLT (sm_clW c q hc) (hLT _ (sm_insIn c q hc))
      exact ⟨(cC, iS), fun q' hq' => by cases hq'; exact g⟩
  obtain ⟨D, hD⟩ := Classical.axiomOfChoice hk
  obtain ⟨a0, ha0⟩ := sm_arrOf (ty := .int) (by intro C h; cases h) (hLT _ (sm_mq1 78 (by decide +kernel) rfl))
  obtain ⟨a1, ha1⟩ := sm_arrOf (ty := .byte) (by intro C h; cases h) (hLT _ (sm_mq1 222 (by decide +kernel) rfl))
  obtain ⟨a2, ha2⟩ := sm_arrOf (ty := .boolean) (by intro C h; cases h) (hLT _ (sm_mq6 66 (by decide +kernel) rfl))
  have hAO : (Cond.arrayOver (.object "SmokeControl$State")).before args s = true := hts _ (sm_tt 414 (by decide +kernel))
  obtain ⟨a3, ha3⟩ := sm_arrOfQ hAO
  have hz1 := va_Zof (A := fun q => s.heap.size ≤ q) (hts _ (sm_tt 536 (by decide +kernel))) (hts _ (sm_tt 13 (by decide +kernel))) (va_eqi (hs (.eq (.static "java/lang/String" "COMPACT_STRINGS" "Z") (.int 1)) (by decide +kernel))) hA
  have hz2 := va_Zqof (A := fun q => s.heap.size ≤ q) (hts _ (sm_tt 552 (by decide +kernel))) (hts _ (sm_tt 15 (by decide +kernel))) (hs (.isRef (.static "jdk/internal/util/Preconditions" "SIOOBE_FORMATTER" "Ljava/util/function/BiFunction;")) (by decide +kernel)) hA
  have key : ∀ t : Nat, (va_Z "jdk/internal/util/Preconditions" "SIOOBE_FORMATTER" "Ljava/util/function/BiFunction;" .null (fun q => s.heap.size ≤ q) s s.heap ∨ va_Z "jdk/internal/util/Preconditions" "SIOOBE_FORMATTER" "Ljava/util/function/BiFunction;" (.ref t) (fun q => s.heap.size ≤ q) s s.heap) → ∃ E0 : sm_E, sm_KK E0 s ∧ sm_STb s.heap.size E0 s s.heap ∧ va_AO "SmokeControl$State" s ∧ E0.2.2 8000 = b := by
    intro t ht
    let ad : Nat → Nat := fun i => if i = 8000 then b else if i = 7000 then t else if 6000 ≤ i then adV (i - 6000) else adK (i - 5000)
    have e1 : ∀ k, k < 28 → ad (5000 + k) = adK k := fun k hk => by
      show (if 5000 + k = 8000 then b else if 5000 + k = 7000 then t else if 6000 ≤ 5000 + k then adV (5000 + k - 6000) else adK (5000 + k - 5000)) = _
      rw [if_neg (by omega), if_neg (by omega), if_neg (by omega), Nat.add_sub_cancel_left]
    have e2 : ∀ k, k < 28 → ad (6000 + k) = adV k := fun k hk => by
      show (if 6000 + k = 8000 then b else if 6000 + k = 7000 then t else if 6000 ≤ 6000 + k then adV (6000 + k - 6000) else adK (6000 + k - 5000)) = _
      rw [if_neg (by omega), if_neg (by omega), if_pos (by omega), Nat.add_sub_cancel_left]
    refine ⟨((fun c => (D c).1, fun c => (D c).2), fun k => match k with | 0 => a0 | 1 => a1 | 2 => a2 | _ => a3, ad), ⟨⟨fun c q hq => hD c q hq, fun k q hq => ?_⟩, fun w hw => ?_, fun k q hq => ?_⟩, ⟨?_, hz1, ht⟩, va_AO.of hAO, rfl⟩
    · match k, hq with
      | 0, hq => cases hq; exact ha0
      | 1, hq => cases hq; exact ha1
      | 2, hq => cases hq; exact ha2
      | 3, hq => cases hq; exact ha3
      | k + 4, hq => simp [sm_tys] at hq
    · obtain ⟨x1, x2, x3, x4, rfl⟩ := sm_NL_nest w hw
      exact va_Nw.of rfl (hts _ (sm_nestIn _ hw))
    · have hk28 : k < 28 := (List.getElem?_eq_some_iff.mp hq).1
      have g1 := hts _ (sm_strIn k q hq)
      have g2 := hE k hk28
      have e3 : sm_tm k = .string "SmokeControl$Reader" q.1 := by
        unfold sm_tm
        rw [List.getD_eq_getElem?_getD, hq]
        rfl
      rw [e3, ← e1 k hk28] at g2
      first
        | exact vk_R.of g1 g2
        | exact ⟨g1, g2⟩
    · refine ⟨fun i hi => ?_, fun i j hi hj e => ?_⟩
      · have := hS.1 i hi
        show va_O _ (ad (5000 + i)) _ _ _ ∧ va_OF _ _ _ _ (ad (5000 + i)) _ _ _ ∧ va_OF _ _ _ (.ref (ad (6000 + i))) (ad (5000 + i)) _ _ _ ∧ va_T _ (ad (6000 + i)) _ _ _ _ _
        rw [e1 i hi, e2 i hi]
        exact this
      · have e' : ad (5000 + i) = ad (5000 + j) := e
        rw [e1 i hi, e1 j hj] at e'
        exact hS.2 i j hi hj e'
  rcases hz2 with h | ⟨t, h⟩
  · exact key 0 (Or.inl h)
  · exact key t (Or.inr h)
theorem sm_wend {p : Program} {l : Launch} {e : Env} {R : Room} {s : State} {m : MethodId} {args : Array Value} {below : List Frame} {meth : Method} {c : Code} {H : Heap} {locs : List Loc} {cells slots : Nat} {Q : State → Prop} {g : JFrame} {k n : Nat} (hf : ∀ q ∈ locs, s.heap.size ≤ q.base) (h1 : cells ≤ k) (h2 : slots ≤ n) (kk : W p l e R s m args below meth c H [] k n Q g) : W p l e R s m args below meth c H locs cells slots Q g := va_forget hf (W.widen h1 h2 kk)
theorem whole_from {p : Program} {e : Env} {s : State} {m : MethodId} {below : List Frame} {meth : Method} {c : Code} (l : Launch) {b L : Nat} {xs : Nat → Int32} (RR : Nat → sm_H → Prop) (hS : sm_All RR) (hR0 : RR 0 (sm_mb (sm_mp (sm_up sm_z7 114 16 (-1))))) (hL : L ≤ 3072) (C0 : lw_At p s m meth c b L xs) : W p l e room_1 s m #[Value.ref b] below meth c s.heap [] 0 0 (lw_Z below #[Value.ref b] s) (entryFrame m ([Value.ref b] : List Value).toArray 4) := by
  obtain ⟨hx, hb, hr, hml, hown, hts, hX, hbl, hlk, hgv⟩ := C0
  obtain ⟨E0, hKK, hST, hAO, h8⟩ := sm_start hts hgv b
  have G : sm_G s.heap.size E0 (fun q => s.heap.size ≤ q) p s m #[Value.ref b] c code 4 R_law := ⟨hx, hb, hml, hown, fun w hw => hts w (List.mem_filter.mp hw).1, hKK, hST, hAO, fun _ h => h, fun _ h => h⟩
  have hX2 : sm_X E0 (fun q => s.heap.size ≤ q) L xs s := by
    unfold sm_X
    rw [h8]
    exact ⟨hX, hbl, by omega⟩
  have Kend : ∀ lv h, sm_C p l e room_1 s m #[Value.ref b] below meth c (lw_Z below #[Value.ref b] s) (fun q => s.heap.size ≤ q) E0 0 4 0 132 (sm_rd 0 132 []) 132 14263 1331 lv [] h := by
    intro lv h
    refine c_iconst (v := 1) G (by decide) (by decide +kernel : decode code 1331 = .ok (.iconst 1, 1)) ?_
    intro E hE H locs ls hP hD hS hl
    exact sm_wend (fun q hq => hS.2.2 q hq) (by decide) (by decide) (lw_ret hx hb hr hlk (by decide +kernel : decode code 1332 = .ok (.ireturn, 1)))
  have main : sm_C p l e room_1 s m #[Value.ref b] below meth c (lw_Z below #[Value.ref b] s) (fun q => s.heap.size ≤ q) E0 0 4 0 0 (sm_rd 0 0 []) 0 0 0 [(0, .ref 8000)] [] sm_z0 := by
    refine c_new (hi := 0) (cl := 9) (N := 6) (C := "SmokeControl") (z := (sm_R9, sm_F9, 6)) G rfl rfl rfl rfl (fun k => rfl) (fun _ => rfl) rfl rfl rfl (by decide +kernel) ⟨fun i c k z1 z2 => by omega, fun i b k j z1 z2 => by omega⟩ (sm_mq1 20 (by decide +kernel) rfl) (sm_mq1 21 (by decide +kernel) rfl) (sm_mq1 1 (by decide +kernel) rfl) rfl rfl rfl rfl (by decide +kernel : decode code 0 = .ok (.new 7, 3)) ?_
    refine c_dup G rfl (by decide +kernel : decode code 3 = .ok (.dup, 1)) ?_
    refine c_ctor (d := 60) (mc := 113) (ms := 8046) (lo' := 0) (hi2 := 114) (b := 0) (As := []) (rdc := sm_rd 1 1 []) (rd2 := sm_rd 0 114 []) (rd' := sm_rd 0 114 []) (h2 := sm_z7) G cl_9 (k_sc_0 l) rfl (by decide +kernel) (by decide +kernel) rfl (by decide +kernel) (by decide +kernel) ⟨fun i c k z1 z2 => by omega, fun i b k j z1 z2 => by omega⟩ (by decide +kernel) (by decide +kernel) (fun i z1 z2 => by omega) rfl rfl (by decide +kernel : decode code 4 = .ok (.invokespecial 9, 3)) ?_
    refine c_astore_n (f := 1) (lv' := [(1, .ref 0), (0, .ref 8000)]) G (by decide +kernel : decode code 7 = .ok (.astore_n 1, 1)) rfl rfl ?_
    refine c_new (hi := 114) (cl := 10) (N := 35) (C := "SmokeControlModel") (z := (sm_R10, sm_F10, 35)) G rfl rfl rfl rfl (fun k => sm_zz7 114 k (by decide)) (fun _ => rfl) rfl rfl rfl (by decide +kernel) (sm_dyn.dy sm_zd7 rfl) (sm_mq5 179 (by decide +kernel) rfl) (sm_mq5 180 (by decide +kernel) rfl) (sm_mq1 12 (by decide +kernel) rfl) rfl rfl rfl rfl (by decide +kernel : decode code 8 = .ok (.new 10, 3)) ?_
    refine c_dup G rfl (by decide +kernel : decode code 11 = .ok (.dup, 1)) ?_
    refine c_ctor (d := 60) (mc := 17) (ms := 6176) (lo' := 114) (hi2 := 132) (b := 114) (As := []) (rdc := sm_rd 114 114 []) (rd2 := sm_rd 114 132 []) (rd' := sm_rd 0 132 []) (h2 := sm_mb (sm_mp (sm_up sm_z7 114 16 (-1)))) G cl_12 (k_mo_114 l (fun i k z => sm_zz7 i k (by omega)) (sm_zd7.mono (by decide))) rfl (by decide +kernel) (by decide +kernel) rfl (by decide +kernel) (by decide +kernel) (sm_dyn.dyB sm_zd7 rfl) (by decide +kernel) (by decide +kernel) (fun i _ z => by
      funext k
      unfold sm_mb sm_mp
      rw [sm_up_off (by omega), sm_up_off (by omega), sm_up_off (by omega), sm_up_off (by omega), sm_up_off (by omega), sm_up_off (by omega)]) rfl rfl (by decide +kernel : decode code 12 = .ok (.invokespecial 12, 3)) ?_
    refine c_astore_n (f := 2) (lv' := [(2, .ref 114), (1, .ref 0), (0, .ref 8000)]) G (by decide +kernel : decode code 15 = .ok (.astore_n 2, 1)) rfl rfl ?_
    refine c_iconst (v := nI 0) G (by decide) (by decide +kernel : decode code 16 = .ok (.iconst 0, 1)) ?_
    refine c_istore_n (f := 3) (lv' := [(3, .int (nI 0)), (2, .ref 114), (1, .ref 0), (0, .ref 8000)]) G (by decide +kernel : decode code 17 = .ok (.istore_n 3, 1)) rfl rfl ?_
    exact lc_loop RR hS G hX2 hL rfl Kend (L + 7) 0 _ (by omega) (by omega) hR0
  have hl := lv_entry [Value.ref b] (n := 4) (Nat.le_of_ble_eq_true rfl)
  rw [lg_entry_eq]
  exact main E0 ⟨rfl, rfl, fun _ _ => rfl⟩ s.heap [] _ (fun k q hk => by simp [sm_wsR] at hk) ⟨fun i j p q hp => by simp [sm_wsR] at hp, fun k q hk => by simp [sm_wsR] at hk⟩ va_S.rf (by
    show lv_has _ 4 [(0, .ref (E0.2.2 8000))]
    rw [h8]
    exact hl)
