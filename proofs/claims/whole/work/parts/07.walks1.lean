theorem d_te_append_0 : decode q_te_append.2.1 0 = .ok (.bipush 24, 2) := by decide +kernel
theorem d_te_append_2 : decode q_te_append.2.1 2 = .ok (.istore_n 2, 1) := by decide +kernel
theorem d_te_append_3 : decode q_te_append.2.1 3 = .ok (.iload_n 2, 1) := by decide +kernel
theorem d_te_append_4 : decode q_te_append.2.1 4 = .ok (.ifCond .lt 42, 3) := by decide +kernel
theorem d_te_append_7 : decode q_te_append.2.1 7 = .ok (.aload_n 0, 1) := by decide +kernel
theorem d_te_append_8 : decode q_te_append.2.1 8 = .ok (.getfield 28, 3) := by decide +kernel
theorem d_te_append_11 : decode q_te_append.2.1 11 = .ok (.sipush 900, 3) := by decide +kernel
theorem d_te_append_14 : decode q_te_append.2.1 14 = .ok (.if_icmp .ge 32, 3) := by decide +kernel
theorem d_te_append_17 : decode q_te_append.2.1 17 = .ok (.aload_n 0, 1) := by decide +kernel
theorem d_te_append_18 : decode q_te_append.2.1 18 = .ok (.getfield 9, 3) := by decide +kernel
theorem d_te_append_21 : decode q_te_append.2.1 21 = .ok (.aload_n 0, 1) := by decide +kernel
theorem d_te_append_22 : decode q_te_append.2.1 22 = .ok (.getfield 28, 3) := by decide +kernel
theorem d_te_append_25 : decode q_te_append.2.1 25 = .ok (.iload_n 1, 1) := by decide +kernel
theorem d_te_append_26 : decode q_te_append.2.1 26 = .ok (.iload_n 2, 1) := by decide +kernel
theorem d_te_append_27 : decode q_te_append.2.1 27 = .ok (.iushr, 1) := by decide +kernel
theorem d_te_append_28 : decode q_te_append.2.1 28 = .ok (.i2b, 1) := by decide +kernel
theorem d_te_append_29 : decode q_te_append.2.1 29 = .ok (.bastore, 1) := by decide +kernel
theorem d_te_append_30 : decode q_te_append.2.1 30 = .ok (.aload_n 0, 1) := by decide +kernel
theorem d_te_append_31 : decode q_te_append.2.1 31 = .ok (.dup, 1) := by decide +kernel
theorem d_te_append_32 : decode q_te_append.2.1 32 = .ok (.getfield 28, 3) := by decide +kernel
theorem d_te_append_35 : decode q_te_append.2.1 35 = .ok (.iconst 1, 1) := by decide +kernel
theorem d_te_append_36 : decode q_te_append.2.1 36 = .ok (.iadd, 1) := by decide +kernel
theorem d_te_append_37 : decode q_te_append.2.1 37 = .ok (.putfield 28, 3) := by decide +kernel
theorem d_te_append_40 : decode q_te_append.2.1 40 = .ok (.iinc 2 (-8), 3) := by decide +kernel
theorem d_te_append_43 : decode q_te_append.2.1 43 = .ok (.goto (-40), 3) := by decide +kernel
theorem d_te_append_46 : decode q_te_append.2.1 46 = .ok (.return_, 1) := by decide +kernel
theorem w_te_append_L3 (l : Launch) (lo hi d : Nat) {h' : sm_H} : ∀ (n : Nat) (a0 : Nat) (a1 : Int32) (a2 : Int32) (h : sm_H) (e0 : sm_at lo hi (0, 8, 0) a0) (hf : f_te_append_L3 n a0 a1 a2 h = some h'), sm_W l lo hi (d) q_te_append 3 [(0, .ref a0), (1, .int a1), (2, .int a2)] [] h none h' := by
  intro n
  induction n with
  | zero =>
    intro a0 a1 a2 h e0 hf
    have z : (none : Option sm_H) = some _ := hf
    cases z
  | succ n ih =>
    intro a0 a1 a2 h e0 hf
    unfold f_te_append_L3 at hf
    refine sm_iload_n 2 rfl d_te_append_3 ?_
    refine sm_if_lt 46 d_te_append_4 rfl (fun c1 => ?_) (fun c1 => ?_)
    · have hf := sm_ifT c1 hf
      obtain rfl := sm_ret1 hf
      exact sm_vret d_te_append_46 rfl
    · have hf := sm_ifF c1 hf
      refine sm_aload_n 0 rfl d_te_append_7 ?_
      refine sm_getI fl_te_28 e0 rfl d_te_append_8 ?_
      refine sm_sipush (v := 900) (by decide) d_te_append_11 ?_
      refine sm_icmp_ge 46 d_te_append_14 rfl (fun c2 => ?_) (fun c2 => ?_)
      · have hf := sm_ifT c2 hf
        obtain rfl := sm_ret1 hf
        exact sm_vret d_te_append_46 rfl
      · have hf := sm_ifF c2 hf
        refine sm_aload_n 0 rfl d_te_append_17 ?_
        refine sm_getR (n := 1) fl_te_9 e0 rfl d_te_append_18 ?_
        refine sm_aload_n 0 rfl d_te_append_21 ?_
        refine sm_getI fl_te_28 e0 rfl d_te_append_22 ?_
        refine sm_iload_n 1 rfl d_te_append_25 ?_
        refine sm_iload_n 2 rfl d_te_append_26 ?_
        refine sm_iushr d_te_append_27 ?_
        refine sm_i2b d_te_append_28 ?_
        obtain ⟨c3, hf⟩ := sm_gdE hf
        refine sm_bast (sm_at_arr (sm_inner e0 0 rfl rfl rfl)) c3 d_te_append_29 ?_
        refine sm_nmH (fun g4 w5 => ?_)
        have hf := sm_letV w5 hf
        refine sm_aload_n 0 rfl d_te_append_30 ?_
        refine sm_dup rfl d_te_append_31 ?_
        refine sm_getI fl_te_28 e0 rfl d_te_append_32 ?_
        refine sm_iconst (v := 1) (by decide) d_te_append_35 ?_
        refine sm_iadd d_te_append_36 ?_
        refine sm_putI fp_te_28 e0 rfl rfl d_te_append_37 ?_
        refine sm_nmH (fun g6 w7 => ?_)
        have hf := sm_letV w7 hf
        obtain ⟨x8, w9⟩ : ∃ v : Int32, v = a2 + (-8) := ⟨_, rfl⟩
        have hf := sm_letV w9 hf
        refine sm_iinc (v := x8) (lv' := [(2, .int x8), (0, .ref a0), (1, .int a1)]) 2 rfl (by rw [w9]; rfl) d_te_append_40 rfl rfl ?_
        refine sm_goto 3 d_te_append_43 rfl ?_
        refine sm_sub [1, 2, 0] rfl ?_
        exact ih _ _ _ _ e0 hf
theorem m_te_append (l : Launch) (lo hi d : Nat) {a0 : Nat} {a1 : Int32} {h h' : sm_H} (e0 : sm_at lo hi (0, 8, 0) a0) (hf : f_te_append a0 a1 h = some h') : sm_Met l lo hi (d) q_te_append [.ref a0, .int a1] h none h' := by
  refine sm_Met.of (by decide +kernel) rfl ?_
  show sm_W l lo hi (d) q_te_append 0 [(0, .ref a0), (1, .int a1)] [] h none h'
  unfold f_te_append at hf
  refine sm_bipush (v := 24) (by decide) d_te_append_0 ?_
  refine sm_istore_n (lv' := [(2, .int 24), (0, .ref a0), (1, .int a1)]) d_te_append_2 rfl rfl ?_
  refine sm_sub [1, 2, 0] rfl ?_
  exact w_te_append_L3 l lo hi d sm_N _ _ _ _ e0 hf
theorem d_sc_feed_0 : decode q_sc_feed.2.1 0 = .ok (.aload_n 0, 1) := by decide +kernel
theorem d_sc_feed_1 : decode q_sc_feed.2.1 1 = .ok (.getfield 15, 3) := by decide +kernel
theorem d_sc_feed_4 : decode q_sc_feed.2.1 4 = .ok (.getfield 42, 3) := by decide +kernel
theorem d_sc_feed_7 : decode q_sc_feed.2.1 7 = .ok (.astore 6, 2) := by decide +kernel
theorem d_sc_feed_9 : decode q_sc_feed.2.1 9 = .ok (.aload 6, 2) := by decide +kernel
theorem d_sc_feed_11 : decode q_sc_feed.2.1 11 = .ok (.getfield 46, 3) := by decide +kernel
theorem d_sc_feed_14 : decode q_sc_feed.2.1 14 = .ok (.bipush 20, 2) := by decide +kernel
theorem d_sc_feed_16 : decode q_sc_feed.2.1 16 = .ok (.iadd, 1) := by decide +kernel
theorem d_sc_feed_17 : decode q_sc_feed.2.1 17 = .ok (.sipush 900, 3) := by decide +kernel
theorem d_sc_feed_20 : decode q_sc_feed.2.1 20 = .ok (.if_icmp .le 6, 3) := by decide +kernel
theorem d_sc_feed_23 : decode q_sc_feed.2.1 23 = .ok (.bipush (-4), 2) := by decide +kernel
theorem d_sc_feed_25 : decode q_sc_feed.2.1 25 = .ok (.ireturn, 1) := by decide +kernel
theorem d_sc_feed_26 : decode q_sc_feed.2.1 26 = .ok (.aload 6, 2) := by decide +kernel
theorem d_sc_feed_28 : decode q_sc_feed.2.1 28 = .ok (.iload_n 1, 1) := by decide +kernel
theorem d_sc_feed_29 : decode q_sc_feed.2.1 29 = .ok (.invokevirtual 52, 3) := by decide +kernel
theorem d_sc_feed_32 : decode q_sc_feed.2.1 32 = .ok (.aload 6, 2) := by decide +kernel
theorem d_sc_feed_34 : decode q_sc_feed.2.1 34 = .ok (.iload_n 2, 1) := by decide +kernel
theorem d_sc_feed_35 : decode q_sc_feed.2.1 35 = .ok (.invokevirtual 52, 3) := by decide +kernel
theorem d_sc_feed_38 : decode q_sc_feed.2.1 38 = .ok (.aload 6, 2) := by decide +kernel
theorem d_sc_feed_40 : decode q_sc_feed.2.1 40 = .ok (.iload_n 3, 1) := by decide +kernel
theorem d_sc_feed_41 : decode q_sc_feed.2.1 41 = .ok (.invokevirtual 52, 3) := by decide +kernel
theorem d_sc_feed_44 : decode q_sc_feed.2.1 44 = .ok (.aload 6, 2) := by decide +kernel
theorem d_sc_feed_46 : decode q_sc_feed.2.1 46 = .ok (.iload 4, 2) := by decide +kernel
theorem d_sc_feed_48 : decode q_sc_feed.2.1 48 = .ok (.invokevirtual 52, 3) := by decide +kernel
theorem d_sc_feed_51 : decode q_sc_feed.2.1 51 = .ok (.aload 6, 2) := by decide +kernel
theorem d_sc_feed_53 : decode q_sc_feed.2.1 53 = .ok (.iload 5, 2) := by decide +kernel
theorem d_sc_feed_55 : decode q_sc_feed.2.1 55 = .ok (.invokevirtual 52, 3) := by decide +kernel
theorem d_sc_feed_58 : decode q_sc_feed.2.1 58 = .ok (.aload 6, 2) := by decide +kernel
theorem d_sc_feed_60 : decode q_sc_feed.2.1 60 = .ok (.getfield 46, 3) := by decide +kernel
theorem d_sc_feed_63 : decode q_sc_feed.2.1 63 = .ok (.ireturn, 1) := by decide +kernel
theorem m_sc_feed (l : Launch) (lo hi d : Nat) {a0 : Nat} {a1 : Int32} {a2 : Int32} {a3 : Int32} {a4 : Int32} {a5 : Int32} {r0 : Int32} {h h' : sm_H} (e0 : sm_at lo hi (0, 9, 0) a0) (hf : f_sc_feed a0 a1 a2 a3 a4 a5 h = some (r0, h')) : sm_Met l lo hi (d + 1) q_sc_feed [.ref a0, .int a1, .int a2, .int a3, .int a4, .int a5] h (some (.int r0)) h' := by
  refine sm_Met.of (by decide +kernel) rfl ?_
  show sm_W l lo hi (d + 1) q_sc_feed 0 [(0, .ref a0), (1, .int a1), (2, .int a2), (3, .int a3), (4, .int a4), (5, .int a5)] [] h (some (.int r0)) h'
  unfold f_sc_feed at hf
  refine sm_aload_n 0 rfl d_sc_feed_0 ?_
  refine sm_getR (n := 17) fl_sc_15 e0 rfl d_sc_feed_1 ?_
  refine sm_getR (n := 1) fl_sc_42 (sm_inner e0 0 rfl rfl rfl) rfl d_sc_feed_4 ?_
  refine sm_astore (lv' := [(6, .ref (a0 + 17 + 1)), (0, .ref a0), (1, .int a1), (2, .int a2), (3, .int a3), (4, .int a4), (5, .int a5)]) d_sc_feed_7 rfl rfl ?_
  refine sm_aload 0 rfl d_sc_feed_9 ?_
  refine sm_getI fl_sc_46 (sm_inner (sm_inner e0 0 rfl rfl rfl) 0 rfl rfl rfl) rfl d_sc_feed_11 ?_
  refine sm_bipush (v := 20) (by decide) d_sc_feed_14 ?_
  refine sm_iadd d_sc_feed_16 ?_
  refine sm_sipush (v := 900) (by decide) d_sc_feed_17 ?_
  refine sm_icmp_le 26 d_sc_feed_20 rfl (fun c1 => ?_) (fun c1 => ?_)
  · have hf := sm_ifT c1 hf
    refine sm_aload 0 rfl d_sc_feed_26 ?_
    refine sm_iload_n 2 rfl d_sc_feed_28 ?_
    obtain ⟨g2, c3, hf⟩ := sm_bindE hf
    refine sm_callV (As := [.int a1]) (rv := none) (h1 := g2) (c := 8) cvv_sc_52 rfl rfl (sm_inner (sm_inner e0 0 rfl rfl rfl) 0 rfl rfl rfl) (m_te_append l lo hi _ (sm_inner (sm_inner e0 0 rfl rfl rfl) 0 rfl rfl rfl) c3) rfl rfl d_sc_feed_29 ?_
    refine sm_aload 0 rfl d_sc_feed_32 ?_
    refine sm_iload_n 3 rfl d_sc_feed_34 ?_
    obtain ⟨g4, c5, hf⟩ := sm_bindE hf
    refine sm_callV (As := [.int a2]) (rv := none) (h1 := g4) (c := 8) cvv_sc_52 rfl rfl (sm_inner (sm_inner e0 0 rfl rfl rfl) 0 rfl rfl rfl) (m_te_append l lo hi _ (sm_inner (sm_inner e0 0 rfl rfl rfl) 0 rfl rfl rfl) c5) rfl rfl d_sc_feed_35 ?_
    refine sm_aload 0 rfl d_sc_feed_38 ?_
    refine sm_iload_n 4 rfl d_sc_feed_40 ?_
    obtain ⟨g6, c7, hf⟩ := sm_bindE hf
    refine sm_callV (As := [.int a3]) (rv := none) (h1 := g6) (c := 8) cvv_sc_52 rfl rfl (sm_inner (sm_inner e0 0 rfl rfl rfl) 0 rfl rfl rfl) (m_te_append l lo hi _ (sm_inner (sm_inner e0 0 rfl rfl rfl) 0 rfl rfl rfl) c7) rfl rfl d_sc_feed_41 ?_
    refine sm_aload 0 rfl d_sc_feed_44 ?_
    refine sm_iload 5 rfl d_sc_feed_46 ?_
    obtain ⟨g8, c9, hf⟩ := sm_bindE hf
    refine sm_callV (As := [.int a4]) (rv := none) (h1 := g8) (c := 8) cvv_sc_52 rfl rfl (sm_inner (sm_inner e0 0 rfl rfl rfl) 0 rfl rfl rfl) (m_te_append l lo hi _ (sm_inner (sm_inner e0 0 rfl rfl rfl) 0 rfl rfl rfl) c9) rfl rfl d_sc_feed_48 ?_
    refine sm_aload 0 rfl d_sc_feed_51 ?_
    refine sm_iload 6 rfl d_sc_feed_53 ?_
    obtain ⟨g10, c11, hf⟩ := sm_bindE hf
    refine sm_callV (As := [.int a5]) (rv := none) (h1 := g10) (c := 8) cvv_sc_52 rfl rfl (sm_inner (sm_inner e0 0 rfl rfl rfl) 0 rfl rfl rfl) (m_te_append l lo hi _ (sm_inner (sm_inner e0 0 rfl rfl rfl) 0 rfl rfl rfl) c11) rfl rfl d_sc_feed_55 ?_
    refine sm_aload 0 rfl d_sc_feed_58 ?_
    refine sm_getI fl_sc_46 (sm_inner (sm_inner e0 0 rfl rfl rfl) 0 rfl rfl rfl) rfl d_sc_feed_60 ?_
    obtain ⟨rfl, rfl⟩ := sm_ret2 hf
    exact sm_iret d_sc_feed_63 rfl
  · have hf := sm_ifF c1 hf
    refine sm_bipush (v := (-4)) (by decide) d_sc_feed_23 ?_
    obtain ⟨rfl, rfl⟩ := sm_ret2 hf
    exact sm_iret d_sc_feed_25 rfl
theorem d_ru_begin_0 : decode q_ru_begin.2.1 0 = .ok (.aload_n 0, 1) := by decide +kernel
theorem d_ru_begin_1 : decode q_ru_begin.2.1 1 = .ok (.iconst 0, 1) := by decide +kernel
theorem d_ru_begin_2 : decode q_ru_begin.2.1 2 = .ok (.putfield 30, 3) := by decide +kernel
theorem d_ru_begin_5 : decode q_ru_begin.2.1 5 = .ok (.aload_n 0, 1) := by decide +kernel
theorem d_ru_begin_6 : decode q_ru_begin.2.1 6 = .ok (.iconst 0, 1) := by decide +kernel
theorem d_ru_begin_7 : decode q_ru_begin.2.1 7 = .ok (.putfield 34, 3) := by decide +kernel
theorem d_ru_begin_10 : decode q_ru_begin.2.1 10 = .ok (.aload_n 0, 1) := by decide +kernel
theorem d_ru_begin_11 : decode q_ru_begin.2.1 11 = .ok (.iconst 0, 1) := by decide +kernel
theorem d_ru_begin_12 : decode q_ru_begin.2.1 12 = .ok (.putfield 37, 3) := by decide +kernel
theorem d_ru_begin_15 : decode q_ru_begin.2.1 15 = .ok (.return_, 1) := by decide +kernel
theorem m_ru_begin (l : Launch) (lo hi d : Nat) {a0 : Nat} {h h' : sm_H} (e0 : sm_at lo hi (0, 6, 0) a0) (hf : f_ru_begin a0 h = some h') : sm_Met l lo hi (d) q_ru_begin [.ref a0] h none h' := by
  refine sm_Met.of (by decide +kernel) rfl ?_
  show sm_W l lo hi (d) q_ru_begin 0 [(0, .ref a0)] [] h none h'
  unfold f_ru_begin at hf
  refine sm_aload_n 0 rfl d_ru_begin_0 ?_
  refine sm_iconst (v := 0) (by decide) d_ru_begin_1 ?_
  refine sm_putI fp_ru_30 e0 rfl rfl d_ru_begin_2 ?_
  refine sm_nmH (fun g1 w2 => ?_)
  have hf := sm_letV w2 hf
  refine sm_aload_n 0 rfl d_ru_begin_5 ?_
  refine sm_iconst (v := 0) (by decide) d_ru_begin_6 ?_
  refine sm_putI fp_ru_34 e0 rfl rfl d_ru_begin_7 ?_
  refine sm_nmH (fun g3 w4 => ?_)
  have hf := sm_letV w4 hf
  refine sm_aload_n 0 rfl d_ru_begin_10 ?_
  refine sm_iconst (v := 0) (by decide) d_ru_begin_11 ?_
  refine sm_putI fp_ru_37 e0 rfl rfl d_ru_begin_12 ?_
  refine sm_nmH (fun g5 w6 => ?_)
  have hf := sm_letV w6 hf
  obtain rfl := sm_ret1 hf
  exact sm_vret d_ru_begin_15 rfl
theorem d_pl_begin_0 : decode q_pl_begin.2.1 0 = .ok (.aload_n 0, 1) := by decide +kernel
theorem d_pl_begin_1 : decode q_pl_begin.2.1 1 = .ok (.iconst 1, 1) := by decide +kernel
theorem d_pl_begin_2 : decode q_pl_begin.2.1 2 = .ok (.putfield 46, 3) := by decide +kernel
theorem d_pl_begin_5 : decode q_pl_begin.2.1 5 = .ok (.aload_n 0, 1) := by decide +kernel
theorem d_pl_begin_6 : decode q_pl_begin.2.1 6 = .ok (.iconst 0, 1) := by decide +kernel
theorem d_pl_begin_7 : decode q_pl_begin.2.1 7 = .ok (.putfield 50, 3) := by decide +kernel
theorem d_pl_begin_10 : decode q_pl_begin.2.1 10 = .ok (.aload_n 0, 1) := by decide +kernel
theorem d_pl_begin_11 : decode q_pl_begin.2.1 11 = .ok (.iconst 0, 1) := by decide +kernel
theorem d_pl_begin_12 : decode q_pl_begin.2.1 12 = .ok (.putfield 53, 3) := by decide +kernel
theorem d_pl_begin_15 : decode q_pl_begin.2.1 15 = .ok (.aload_n 0, 1) := by decide +kernel
theorem d_pl_begin_16 : decode q_pl_begin.2.1 16 = .ok (.iconst 0, 1) := by decide +kernel
theorem d_pl_begin_17 : decode q_pl_begin.2.1 17 = .ok (.putfield 56, 3) := by decide +kernel
theorem d_pl_begin_20 : decode q_pl_begin.2.1 20 = .ok (.aload_n 0, 1) := by decide +kernel
theorem d_pl_begin_21 : decode q_pl_begin.2.1 21 = .ok (.bipush 50, 2) := by decide +kernel
theorem d_pl_begin_23 : decode q_pl_begin.2.1 23 = .ok (.putfield 59, 3) := by decide +kernel
theorem d_pl_begin_26 : decode q_pl_begin.2.1 26 = .ok (.aload_n 0, 1) := by decide +kernel
theorem d_pl_begin_27 : decode q_pl_begin.2.1 27 = .ok (.bipush 10, 2) := by decide +kernel
theorem d_pl_begin_29 : decode q_pl_begin.2.1 29 = .ok (.putfield 62, 3) := by decide +kernel
theorem d_pl_begin_32 : decode q_pl_begin.2.1 32 = .ok (.aload_n 0, 1) := by decide +kernel
theorem d_pl_begin_33 : decode q_pl_begin.2.1 33 = .ok (.iconst 0, 1) := by decide +kernel
theorem d_pl_begin_34 : decode q_pl_begin.2.1 34 = .ok (.putfield 65, 3) := by decide +kernel
theorem d_pl_begin_37 : decode q_pl_begin.2.1 37 = .ok (.aload_n 0, 1) := by decide +kernel
theorem d_pl_begin_38 : decode q_pl_begin.2.1 38 = .ok (.getfield 39, 3) := by decide +kernel
theorem d_pl_begin_41 : decode q_pl_begin.2.1 41 = .ok (.invokevirtual 68, 3) := by decide +kernel
theorem d_pl_begin_44 : decode q_pl_begin.2.1 44 = .ok (.return_, 1) := by decide +kernel
theorem m_pl_begin (l : Launch) (lo hi d : Nat) {a0 : Nat} {h h' : sm_H} (e0 : sm_at lo hi (0, 4, 0) a0) (hf : f_pl_begin a0 h = some h') : sm_Met l lo hi (d + 1) q_pl_begin [.ref a0] h none h' := by
  refine sm_Met.of (by decide +kernel) rfl ?_
  show sm_W l lo hi (d + 1) q_pl_begin 0 [(0, .ref a0)] [] h none h'
  unfold f_pl_begin at hf
  refine sm_aload_n 0 rfl d_pl_begin_0 ?_
  refine sm_iconst (v := 1) (by decide) d_pl_begin_1 ?_
  refine sm_putI fp_pl_46 e0 rfl rfl d_pl_begin_2 ?_
  refine sm_nmH (fun g1 w2 => ?_)
  have hf := sm_letV w2 hf
  refine sm_aload_n 0 rfl d_pl_begin_5 ?_
  refine sm_iconst (v := 0) (by decide) d_pl_begin_6 ?_
  refine sm_putI fp_pl_50 e0 rfl rfl d_pl_begin_7 ?_
  refine sm_nmH (fun g3 w4 => ?_)
  have hf := sm_letV w4 hf
  refine sm_aload_n 0 rfl d_pl_begin_10 ?_
  refine sm_iconst (v := 0) (by decide) d_pl_begin_11 ?_
  refine sm_putI fp_pl_53 e0 rfl rfl d_pl_begin_12 ?_
  refine sm_nmH (fun g5 w6 => ?_)
  have hf := sm_letV w6 hf
  refine sm_aload_n 0 rfl d_pl_begin_15 ?_
  refine sm_iconst (v := 0) (by decide) d_pl_begin_16 ?_
  refine sm_putI fp_pl_56 e0 rfl rfl d_pl_begin_17 ?_
  refine sm_nmH (fun g7 w8 => ?_)
  have hf := sm_letV w8 hf
  refine sm_aload_n 0 rfl d_pl_begin_20 ?_
  refine sm_bipush (v := 50) (by decide) d_pl_begin_21 ?_
  refine sm_putI fp_pl_59 e0 rfl rfl d_pl_begin_23 ?_
  refine sm_nmH (fun g9 w10 => ?_)
  have hf := sm_letV w10 hf
  refine sm_aload_n 0 rfl d_pl_begin_26 ?_
  refine sm_bipush (v := 10) (by decide) d_pl_begin_27 ?_
  refine sm_putI fp_pl_62 e0 rfl rfl d_pl_begin_29 ?_
  refine sm_nmH (fun g11 w12 => ?_)
  have hf := sm_letV w12 hf
  refine sm_aload_n 0 rfl d_pl_begin_32 ?_
  refine sm_iconst (v := 0) (by decide) d_pl_begin_33 ?_
  refine sm_putI fp_pl_65 e0 rfl rfl d_pl_begin_34 ?_
  refine sm_nmH (fun g13 w14 => ?_)
  have hf := sm_letV w14 hf
  refine sm_aload_n 0 rfl d_pl_begin_37 ?_
  refine sm_getR (n := 9) fl_pl_39 e0 rfl d_pl_begin_38 ?_
  obtain ⟨g15, c16, hf⟩ := sm_bindE hf
  refine sm_callV (As := []) (rv := none) (h1 := g15) (c := 6) cvv_pl_68 rfl rfl (sm_inner e0 15 rfl rfl rfl) (m_ru_begin l lo hi _ (sm_inner e0 15 rfl rfl rfl) c16) rfl rfl d_pl_begin_41 ?_
  obtain rfl := sm_ret1 hf
  exact sm_vret d_pl_begin_44 rfl
theorem d_te_isRun_0 : decode q_te_isRun.2.1 0 = .ok (.iload_n 0, 1) := by decide +kernel
theorem d_te_isRun_1 : decode q_te_isRun.2.1 1 = .ok (.iconst 1, 1) := by decide +kernel
theorem d_te_isRun_2 : decode q_te_isRun.2.1 2 = .ok (.if_icmp .eq 8, 3) := by decide +kernel
theorem d_te_isRun_5 : decode q_te_isRun.2.1 5 = .ok (.iload_n 0, 1) := by decide +kernel
theorem d_te_isRun_6 : decode q_te_isRun.2.1 6 = .ok (.iconst 2, 1) := by decide +kernel
theorem d_te_isRun_7 : decode q_te_isRun.2.1 7 = .ok (.if_icmp .ne 7, 3) := by decide +kernel
theorem d_te_isRun_10 : decode q_te_isRun.2.1 10 = .ok (.iconst 1, 1) := by decide +kernel
theorem d_te_isRun_11 : decode q_te_isRun.2.1 11 = .ok (.goto 4, 3) := by decide +kernel
theorem d_te_isRun_14 : decode q_te_isRun.2.1 14 = .ok (.iconst 0, 1) := by decide +kernel
theorem d_te_isRun_15 : decode q_te_isRun.2.1 15 = .ok (.ireturn, 1) := by decide +kernel
theorem w_te_isRun_L15 (l : Launch) (lo hi d : Nat) {h' : sm_H} {r0 : Int32} (s0 : Int32) (h : sm_H) (hf : f_te_isRun_L15 s0 h = some (r0, h')) : sm_W l lo hi (d) q_te_isRun 15 [] [.int s0] h (some (.int r0)) h' := by
  unfold f_te_isRun_L15 at hf
  obtain ⟨c3, hf⟩ := sm_gdE hf
  obtain ⟨rfl, rfl⟩ := sm_ret2 hf
  exact sm_bret c3 d_te_isRun_15 rfl
theorem w_te_isRun_L10 (l : Launch) (lo hi d : Nat) {h' : sm_H} {r0 : Int32} (h : sm_H) (hf : f_te_isRun_L10 h = some (r0, h')) : sm_W l lo hi (d) q_te_isRun 10 [] [] h (some (.int r0)) h' := by
  unfold f_te_isRun_L10 at hf
  refine sm_iconst (v := 1) (by decide) d_te_isRun_10 ?_
  refine sm_goto 15 d_te_isRun_11 rfl ?_
  exact w_te_isRun_L15 l lo hi d _ _ hf
theorem m_te_isRun (l : Launch) (lo hi d : Nat) {a0 : Int32} {r0 : Int32} {h h' : sm_H} (hf : f_te_isRun a0 h = some (r0, h')) : sm_Met l lo hi (d) q_te_isRun [.int a0] h (some (.int r0)) h' := by
  refine sm_Met.of (by decide +kernel) rfl ?_
  show sm_W l lo hi (d) q_te_isRun 0 [(0, .int a0)] [] h (some (.int r0)) h'
  unfold f_te_isRun at hf
  refine sm_iload_n 0 rfl d_te_isRun_0 ?_
  refine sm_iconst (v := 1) (by decide) d_te_isRun_1 ?_
  refine sm_icmp_eq 10 d_te_isRun_2 rfl (fun c1 => ?_) (fun c1 => ?_)
  · have hf := sm_ifT c1 hf
    refine sm_sub [] rfl ?_
    exact w_te_isRun_L10 l lo hi d _ hf
  · have hf := sm_ifF c1 hf
    refine sm_iload_n 0 rfl d_te_isRun_5 ?_
    refine sm_iconst (v := 2) (by decide) d_te_isRun_6 ?_
    refine sm_icmp_ne 14 d_te_isRun_7 rfl (fun c2 => ?_) (fun c2 => ?_)
    · have hf := sm_ifF c2 hf
      refine sm_iconst (v := 0) (by decide) d_te_isRun_14 ?_
      refine sm_sub [] rfl ?_
      exact w_te_isRun_L15 l lo hi d _ _ hf
    · have hf := sm_ifT c2 hf
      refine sm_sub [] rfl ?_
      exact w_te_isRun_L10 l lo hi d _ hf
theorem d_te_kindOf_0 : decode q_te_kindOf.2.1 0 = .ok (.iload_n 0, 1) := by decide +kernel
theorem d_te_kindOf_1 : decode q_te_kindOf.2.1 1 = .ok (.bipush 97, 2) := by decide +kernel
theorem d_te_kindOf_3 : decode q_te_kindOf.2.1 3 = .ok (.if_icmp .lt 11, 3) := by decide +kernel
theorem d_te_kindOf_6 : decode q_te_kindOf.2.1 6 = .ok (.iload_n 0, 1) := by decide +kernel
theorem d_te_kindOf_7 : decode q_te_kindOf.2.1 7 = .ok (.bipush 122, 2) := by decide +kernel
theorem d_te_kindOf_9 : decode q_te_kindOf.2.1 9 = .ok (.if_icmp .gt 5, 3) := by decide +kernel
theorem d_te_kindOf_12 : decode q_te_kindOf.2.1 12 = .ok (.iconst 1, 1) := by decide +kernel
theorem d_te_kindOf_13 : decode q_te_kindOf.2.1 13 = .ok (.ireturn, 1) := by decide +kernel
theorem d_te_kindOf_14 : decode q_te_kindOf.2.1 14 = .ok (.iload_n 0, 1) := by decide +kernel
theorem d_te_kindOf_15 : decode q_te_kindOf.2.1 15 = .ok (.bipush 48, 2) := by decide +kernel
theorem d_te_kindOf_17 : decode q_te_kindOf.2.1 17 = .ok (.if_icmp .lt 11, 3) := by decide +kernel
theorem d_te_kindOf_20 : decode q_te_kindOf.2.1 20 = .ok (.iload_n 0, 1) := by decide +kernel
theorem d_te_kindOf_21 : decode q_te_kindOf.2.1 21 = .ok (.bipush 57, 2) := by decide +kernel
theorem d_te_kindOf_23 : decode q_te_kindOf.2.1 23 = .ok (.if_icmp .gt 5, 3) := by decide +kernel
theorem d_te_kindOf_26 : decode q_te_kindOf.2.1 26 = .ok (.iconst 2, 1) := by decide +kernel
theorem d_te_kindOf_27 : decode q_te_kindOf.2.1 27 = .ok (.ireturn, 1) := by decide +kernel
theorem d_te_kindOf_28 : decode q_te_kindOf.2.1 28 = .ok (.iload_n 0, 1) := by decide +kernel
theorem d_te_kindOf_29 : decode q_te_kindOf.2.1 29 = .ok (.bipush 32, 2) := by decide +kernel
theorem d_te_kindOf_31 : decode q_te_kindOf.2.1 31 = .ok (.if_icmp .eq 9, 3) := by decide +kernel
theorem d_te_kindOf_34 : decode q_te_kindOf.2.1 34 = .ok (.iload_n 0, 1) := by decide +kernel
theorem d_te_kindOf_35 : decode q_te_kindOf.2.1 35 = .ok (.bipush 10, 2) := by decide +kernel
theorem d_te_kindOf_37 : decode q_te_kindOf.2.1 37 = .ok (.if_icmp .ne 5, 3) := by decide +kernel
theorem d_te_kindOf_40 : decode q_te_kindOf.2.1 40 = .ok (.iconst 5, 1) := by decide +kernel
theorem d_te_kindOf_41 : decode q_te_kindOf.2.1 41 = .ok (.ireturn, 1) := by decide +kernel
theorem d_te_kindOf_42 : decode q_te_kindOf.2.1 42 = .ok (.iload_n 0, 1) := by decide +kernel
theorem d_te_kindOf_43 : decode q_te_kindOf.2.1 43 = .ok (.bipush 59, 2) := by decide +kernel
theorem d_te_kindOf_45 : decode q_te_kindOf.2.1 45 = .ok (.if_icmp .eq 21, 3) := by decide +kernel
theorem d_te_kindOf_48 : decode q_te_kindOf.2.1 48 = .ok (.iload_n 0, 1) := by decide +kernel
theorem d_te_kindOf_49 : decode q_te_kindOf.2.1 49 = .ok (.bipush 44, 2) := by decide +kernel
theorem d_te_kindOf_51 : decode q_te_kindOf.2.1 51 = .ok (.if_icmp .eq 15, 3) := by decide +kernel
theorem d_te_kindOf_54 : decode q_te_kindOf.2.1 54 = .ok (.iload_n 0, 1) := by decide +kernel
theorem d_te_kindOf_55 : decode q_te_kindOf.2.1 55 = .ok (.bipush 40, 2) := by decide +kernel
theorem d_te_kindOf_57 : decode q_te_kindOf.2.1 57 = .ok (.if_icmp .eq 9, 3) := by decide +kernel
theorem d_te_kindOf_60 : decode q_te_kindOf.2.1 60 = .ok (.iload_n 0, 1) := by decide +kernel
theorem d_te_kindOf_61 : decode q_te_kindOf.2.1 61 = .ok (.bipush 41, 2) := by decide +kernel
theorem d_te_kindOf_63 : decode q_te_kindOf.2.1 63 = .ok (.if_icmp .ne 7, 3) := by decide +kernel
theorem d_te_kindOf_66 : decode q_te_kindOf.2.1 66 = .ok (.iconst 3, 1) := by decide +kernel
theorem d_te_kindOf_67 : decode q_te_kindOf.2.1 67 = .ok (.goto 4, 3) := by decide +kernel
theorem d_te_kindOf_70 : decode q_te_kindOf.2.1 70 = .ok (.iconst 4, 1) := by decide +kernel
theorem d_te_kindOf_71 : decode q_te_kindOf.2.1 71 = .ok (.ireturn, 1) := by decide +kernel
theorem w_te_kindOf_L40 (l : Launch) (lo hi d : Nat) {h' : sm_H} {r0 : Int32} (h : sm_H) (hf : f_te_kindOf_L40 h = some (r0, h')) : sm_W l lo hi (d) q_te_kindOf 40 [] [] h (some (.int r0)) h' := by
  unfold f_te_kindOf_L40 at hf
  refine sm_iconst (v := 5) (by decide) d_te_kindOf_40 ?_
  obtain ⟨rfl, rfl⟩ := sm_ret2 hf
  exact sm_iret d_te_kindOf_41 rfl
theorem w_te_kindOf_L71 (l : Launch) (lo hi d : Nat) {h' : sm_H} {r0 : Int32} (s0 : Int32) (h : sm_H) (hf : f_te_kindOf_L71 s0 h = some (r0, h')) : sm_W l lo hi (d) q_te_kindOf 71 [] [.int s0] h (some (.int r0)) h' := by
  unfold f_te_kindOf_L71 at hf
  obtain ⟨rfl, rfl⟩ := sm_ret2 hf
  exact sm_iret d_te_kindOf_71 rfl
theorem w_te_kindOf_L66 (l : Launch) (lo hi d : Nat) {h' : sm_H} {r0 : Int32} (h : sm_H) (hf : f_te_kindOf_L66 h = some (r0, h')) : sm_W l lo hi (d) q_te_kindOf 66 [] [] h (some (.int r0)) h' := by
  unfold f_te_kindOf_L66 at hf
  refine sm_iconst (v := 3) (by decide) d_te_kindOf_66 ?_
  refine sm_goto 71 d_te_kindOf_67 rfl ?_
  exact w_te_kindOf_L71 l lo hi d _ _ hf
theorem w_te_kindOf_L28 (l : Launch) (lo hi d : Nat) {h' : sm_H} {r0 : Int32} (a0 : Int32) (h : sm_H) (hf : f_te_kindOf_L28 a0 h = some (r0, h')) : sm_W l lo hi (d) q_te_kindOf 28 [(0, .int a0)] [] h (some (.int r0)) h' := by
  unfold f_te_kindOf_L28 at hf
  refine sm_iload_n 0 rfl d_te_kindOf_28 ?_
  refine sm_bipush (v := 32) (by decide) d_te_kindOf_29 ?_
  refine sm_icmp_eq 40 d_te_kindOf_31 rfl (fun c5 => ?_) (fun c5 => ?_)
  · have hf := sm_ifT c5 hf
    refine sm_sub [] rfl ?_
    exact w_te_kindOf_L40 l lo hi d _ hf
  · have hf := sm_ifF c5 hf
    refine sm_iload_n 0 rfl d_te_kindOf_34 ?_
    refine sm_bipush (v := 10) (by decide) d_te_kindOf_35 ?_
    refine sm_icmp_ne 42 d_te_kindOf_37 rfl (fun c6 => ?_) (fun c6 => ?_)
    · have hf := sm_ifF c6 hf
      refine sm_iload_n 0 rfl d_te_kindOf_42 ?_
      refine sm_bipush (v := 59) (by decide) d_te_kindOf_43 ?_
      refine sm_icmp_eq 66 d_te_kindOf_45 rfl (fun c7 => ?_) (fun c7 => ?_)
      · have hf := sm_ifT c7 hf
        refine sm_sub [] rfl ?_
        exact w_te_kindOf_L66 l lo hi d _ hf
      · have hf := sm_ifF c7 hf
        refine sm_iload_n 0 rfl d_te_kindOf_48 ?_
        refine sm_bipush (v := 44) (by decide) d_te_kindOf_49 ?_
        refine sm_icmp_eq 66 d_te_kindOf_51 rfl (fun c8 => ?_) (fun c8 => ?_)
        · have hf := sm_ifT c8 hf
          refine sm_sub [] rfl ?_
          exact w_te_kindOf_L66 l lo hi d _ hf
        · have hf := sm_ifF c8 hf
          refine sm_iload_n 0 rfl d_te_kindOf_54 ?_
          refine sm_bipush (v := 40) (by decide) d_te_kindOf_55 ?_
          refine sm_icmp_eq 66 d_te_kindOf_57 rfl (fun c9 => ?_) (fun c9 => ?_)
          · have hf := sm_ifT c9 hf
            refine sm_sub [] rfl ?_
            exact w_te_kindOf_L66 l lo hi d _ hf
          · have hf := sm_ifF c9 hf
            refine sm_iload_n 0 rfl d_te_kindOf_60 ?_
            refine sm_bipush (v := 41) (by decide) d_te_kindOf_61 ?_
            refine sm_icmp_ne 70 d_te_kindOf_63 rfl (fun c10 => ?_) (fun c10 => ?_)
            · have hf := sm_ifF c10 hf
              refine sm_iconst (v := 4) (by decide) d_te_kindOf_70 ?_
              refine sm_sub [] rfl ?_
              exact w_te_kindOf_L71 l lo hi d _ _ hf
            · have hf := sm_ifT c10 hf
              refine sm_sub [] rfl ?_
              exact w_te_kindOf_L66 l lo hi d _ hf
    · have hf := sm_ifT c6 hf
      refine sm_sub [] rfl ?_
      exact w_te_kindOf_L40 l lo hi d _ hf
theorem w_te_kindOf_L14 (l : Launch) (lo hi d : Nat) {h' : sm_H} {r0 : Int32} (a0 : Int32) (h : sm_H) (hf : f_te_kindOf_L14 a0 h = some (r0, h')) : sm_W l lo hi (d) q_te_kindOf 14 [(0, .int a0)] [] h (some (.int r0)) h' := by
  unfold f_te_kindOf_L14 at hf
  refine sm_iload_n 0 rfl d_te_kindOf_14 ?_
  refine sm_bipush (v := 48) (by decide) d_te_kindOf_15 ?_
  refine sm_icmp_lt 28 d_te_kindOf_17 rfl (fun c3 => ?_) (fun c3 => ?_)
  · have hf := sm_ifT c3 hf
    exact w_te_kindOf_L28 l lo hi d _ _ hf
  · have hf := sm_ifF c3 hf
    refine sm_iload_n 0 rfl d_te_kindOf_20 ?_
    refine sm_bipush (v := 57) (by decide) d_te_kindOf_21 ?_
    refine sm_icmp_gt 28 d_te_kindOf_23 rfl (fun c4 => ?_) (fun c4 => ?_)
    · have hf := sm_ifT c4 hf
      exact w_te_kindOf_L28 l lo hi d _ _ hf
    · have hf := sm_ifF c4 hf
      refine sm_iconst (v := 2) (by decide) d_te_kindOf_26 ?_
      obtain ⟨rfl, rfl⟩ := sm_ret2 hf
      exact sm_iret d_te_kindOf_27 rfl
theorem m_te_kindOf (l : Launch) (lo hi d : Nat) {a0 : Int32} {r0 : Int32} {h h' : sm_H} (hf : f_te_kindOf a0 h = some (r0, h')) : sm_Met l lo hi (d) q_te_kindOf [.int a0] h (some (.int r0)) h' := by
  refine sm_Met.of (by decide +kernel) rfl ?_
  show sm_W l lo hi (d) q_te_kindOf 0 [(0, .int a0)] [] h (some (.int r0)) h'
  unfold f_te_kindOf at hf
  refine sm_iload_n 0 rfl d_te_kindOf_0 ?_
  refine sm_bipush (v := 97) (by decide) d_te_kindOf_1 ?_
  refine sm_icmp_lt 14 d_te_kindOf_3 rfl (fun c1 => ?_) (fun c1 => ?_)
  · have hf := sm_ifT c1 hf
    exact w_te_kindOf_L14 l lo hi d _ _ hf
  · have hf := sm_ifF c1 hf
    refine sm_iload_n 0 rfl d_te_kindOf_6 ?_
    refine sm_bipush (v := 122) (by decide) d_te_kindOf_7 ?_
    refine sm_icmp_gt 14 d_te_kindOf_9 rfl (fun c2 => ?_) (fun c2 => ?_)
    · have hf := sm_ifT c2 hf
      exact w_te_kindOf_L14 l lo hi d _ _ hf
    · have hf := sm_ifF c2 hf
      refine sm_iconst (v := 1) (by decide) d_te_kindOf_12 ?_
      obtain ⟨rfl, rfl⟩ := sm_ret2 hf
      exact sm_iret d_te_kindOf_13 rfl
theorem d_te_lengthenToken_0 : decode q_te_lengthenToken.2.1 0 = .ok (.aload_n 0, 1) := by decide +kernel
theorem d_te_lengthenToken_1 : decode q_te_lengthenToken.2.1 1 = .ok (.getfield 32, 3) := by decide +kernel
theorem d_te_lengthenToken_4 : decode q_te_lengthenToken.2.1 4 = .ok (.iconst 1, 1) := by decide +kernel
theorem d_te_lengthenToken_5 : decode q_te_lengthenToken.2.1 5 = .ok (.isub, 1) := by decide +kernel
theorem d_te_lengthenToken_6 : decode q_te_lengthenToken.2.1 6 = .ok (.istore_n 2, 1) := by decide +kernel
theorem d_te_lengthenToken_7 : decode q_te_lengthenToken.2.1 7 = .ok (.iload_n 2, 1) := by decide +kernel
theorem d_te_lengthenToken_8 : decode q_te_lengthenToken.2.1 8 = .ok (.ifCond .ge 4, 3) := by decide +kernel
theorem d_te_lengthenToken_11 : decode q_te_lengthenToken.2.1 11 = .ok (.return_, 1) := by decide +kernel
theorem d_te_lengthenToken_12 : decode q_te_lengthenToken.2.1 12 = .ok (.aload_n 0, 1) := by decide +kernel
theorem d_te_lengthenToken_13 : decode q_te_lengthenToken.2.1 13 = .ok (.getfield 22, 3) := by decide +kernel
theorem d_te_lengthenToken_16 : decode q_te_lengthenToken.2.1 16 = .ok (.iload_n 2, 1) := by decide +kernel
theorem d_te_lengthenToken_17 : decode q_te_lengthenToken.2.1 17 = .ok (.dup2, 1) := by decide +kernel
theorem d_te_lengthenToken_18 : decode q_te_lengthenToken.2.1 18 = .ok (.iaload, 1) := by decide +kernel
theorem d_te_lengthenToken_19 : decode q_te_lengthenToken.2.1 19 = .ok (.iconst 1, 1) := by decide +kernel
theorem d_te_lengthenToken_20 : decode q_te_lengthenToken.2.1 20 = .ok (.iadd, 1) := by decide +kernel
theorem d_te_lengthenToken_21 : decode q_te_lengthenToken.2.1 21 = .ok (.iastore, 1) := by decide +kernel
theorem d_te_lengthenToken_22 : decode q_te_lengthenToken.2.1 22 = .ok (.aload_n 0, 1) := by decide +kernel
theorem d_te_lengthenToken_23 : decode q_te_lengthenToken.2.1 23 = .ok (.getfield 15, 3) := by decide +kernel
theorem d_te_lengthenToken_26 : decode q_te_lengthenToken.2.1 26 = .ok (.iload_n 2, 1) := by decide +kernel
theorem d_te_lengthenToken_27 : decode q_te_lengthenToken.2.1 27 = .ok (.iaload, 1) := by decide +kernel
theorem d_te_lengthenToken_28 : decode q_te_lengthenToken.2.1 28 = .ok (.iconst 2, 1) := by decide +kernel
theorem d_te_lengthenToken_29 : decode q_te_lengthenToken.2.1 29 = .ok (.if_icmp .ne 44, 3) := by decide +kernel
theorem d_te_lengthenToken_32 : decode q_te_lengthenToken.2.1 32 = .ok (.aload_n 0, 1) := by decide +kernel
theorem d_te_lengthenToken_33 : decode q_te_lengthenToken.2.1 33 = .ok (.getfield 25, 3) := by decide +kernel
theorem d_te_lengthenToken_36 : decode q_te_lengthenToken.2.1 36 = .ok (.iload_n 2, 1) := by decide +kernel
theorem d_te_lengthenToken_37 : decode q_te_lengthenToken.2.1 37 = .ok (.aload_n 0, 1) := by decide +kernel
theorem d_te_lengthenToken_38 : decode q_te_lengthenToken.2.1 38 = .ok (.getfield 25, 3) := by decide +kernel
theorem d_te_lengthenToken_41 : decode q_te_lengthenToken.2.1 41 = .ok (.iload_n 2, 1) := by decide +kernel
theorem d_te_lengthenToken_42 : decode q_te_lengthenToken.2.1 42 = .ok (.iaload, 1) := by decide +kernel
theorem d_te_lengthenToken_43 : decode q_te_lengthenToken.2.1 43 = .ok (.bipush 10, 2) := by decide +kernel
theorem d_te_lengthenToken_45 : decode q_te_lengthenToken.2.1 45 = .ok (.imul, 1) := by decide +kernel
theorem d_te_lengthenToken_46 : decode q_te_lengthenToken.2.1 46 = .ok (.iload_n 1, 1) := by decide +kernel
theorem d_te_lengthenToken_47 : decode q_te_lengthenToken.2.1 47 = .ok (.iadd, 1) := by decide +kernel
theorem d_te_lengthenToken_48 : decode q_te_lengthenToken.2.1 48 = .ok (.bipush 48, 2) := by decide +kernel
theorem d_te_lengthenToken_50 : decode q_te_lengthenToken.2.1 50 = .ok (.isub, 1) := by decide +kernel
theorem d_te_lengthenToken_51 : decode q_te_lengthenToken.2.1 51 = .ok (.iastore, 1) := by decide +kernel
theorem d_te_lengthenToken_52 : decode q_te_lengthenToken.2.1 52 = .ok (.aload_n 0, 1) := by decide +kernel
theorem d_te_lengthenToken_53 : decode q_te_lengthenToken.2.1 53 = .ok (.getfield 15, 3) := by decide +kernel
theorem d_te_lengthenToken_56 : decode q_te_lengthenToken.2.1 56 = .ok (.iload_n 2, 1) := by decide +kernel
theorem d_te_lengthenToken_57 : decode q_te_lengthenToken.2.1 57 = .ok (.aload_n 0, 1) := by decide +kernel
theorem d_te_lengthenToken_58 : decode q_te_lengthenToken.2.1 58 = .ok (.getfield 22, 3) := by decide +kernel
theorem d_te_lengthenToken_61 : decode q_te_lengthenToken.2.1 61 = .ok (.iload_n 2, 1) := by decide +kernel
theorem d_te_lengthenToken_62 : decode q_te_lengthenToken.2.1 62 = .ok (.iaload, 1) := by decide +kernel
theorem d_te_lengthenToken_63 : decode q_te_lengthenToken.2.1 63 = .ok (.iconst 3, 1) := by decide +kernel
theorem d_te_lengthenToken_64 : decode q_te_lengthenToken.2.1 64 = .ok (.if_icmp .le 7, 3) := by decide +kernel
theorem d_te_lengthenToken_67 : decode q_te_lengthenToken.2.1 67 = .ok (.iconst 4, 1) := by decide +kernel
theorem d_te_lengthenToken_68 : decode q_te_lengthenToken.2.1 68 = .ok (.goto 4, 3) := by decide +kernel
theorem d_te_lengthenToken_71 : decode q_te_lengthenToken.2.1 71 = .ok (.iconst 2, 1) := by decide +kernel
theorem d_te_lengthenToken_72 : decode q_te_lengthenToken.2.1 72 = .ok (.iastore, 1) := by decide +kernel
theorem d_te_lengthenToken_73 : decode q_te_lengthenToken.2.1 73 = .ok (.return_, 1) := by decide +kernel
theorem w_te_lengthenToken_L72 (l : Launch) (lo hi d : Nat) {h' : sm_H} (s0 : Int32) (s1 : Int32) (s2 : Nat) (h : sm_H) (t2 : sm_arr lo hi 0 901 s2) (hf : f_te_lengthenToken_L72 s0 s1 s2 h = some h') : sm_W l lo hi (d) q_te_lengthenToken 72 [] [.int s0, .int s1, .ref s2] h none h' := by
  unfold f_te_lengthenToken_L72 at hf
  obtain ⟨c16, hf⟩ := sm_gdE hf
  refine sm_iast t2 c16 d_te_lengthenToken_72 ?_
  refine sm_nmH (fun g17 w18 => ?_)
  have hf := sm_letV w18 hf
  obtain rfl := sm_ret1 hf
  exact sm_vret d_te_lengthenToken_73 rfl
theorem m_te_lengthenToken (l : Launch) (lo hi d : Nat) {a0 : Nat} {a1 : Int32} {h h' : sm_H} (e0 : sm_at lo hi (0, 8, 0) a0) (hf : f_te_lengthenToken a0 a1 h = some h') : sm_Met l lo hi (d) q_te_lengthenToken [.ref a0, .int a1] h none h' := by
  refine sm_Met.of (by decide +kernel) rfl ?_
  show sm_W l lo hi (d) q_te_lengthenToken 0 [(0, .ref a0), (1, .int a1)] [] h none h'
  unfold f_te_lengthenToken at hf
  refine sm_aload_n 0 rfl d_te_lengthenToken_0 ?_
  refine sm_getI fl_te_32 e0 rfl d_te_lengthenToken_1 ?_
  refine sm_iconst (v := 1) (by decide) d_te_lengthenToken_4 ?_
  refine sm_isub d_te_lengthenToken_5 ?_
  refine sm_nmI (fun x1 w2 => ?_)
  have hf := sm_letV w2 hf
  refine sm_istore_n (lv' := [(2, .int x1), (0, .ref a0), (1, .int a1)]) d_te_lengthenToken_6 rfl rfl ?_
  refine sm_iload_n 0 rfl d_te_lengthenToken_7 ?_
  refine sm_if_ge 12 d_te_lengthenToken_8 rfl (fun c3 => ?_) (fun c3 => ?_)
  · have hf := sm_ifT c3 hf
    refine sm_aload_n 1 rfl d_te_lengthenToken_12 ?_
    refine sm_getR (n := 4) fl_te_22 e0 rfl d_te_lengthenToken_13 ?_
    refine sm_iload_n 0 rfl d_te_lengthenToken_16 ?_
    refine sm_dup2 rfl rfl d_te_lengthenToken_17 ?_
    obtain ⟨c4, hf⟩ := sm_gdE hf
    refine sm_iald (sm_at_arr (sm_inner e0 4 rfl rfl rfl)) c4 d_te_lengthenToken_18 ?_
    refine sm_iconst (v := 1) (by decide) d_te_lengthenToken_19 ?_
    refine sm_iadd d_te_lengthenToken_20 ?_
    obtain ⟨c5, hf⟩ := sm_gdE hf
    refine sm_iast (sm_at_arr (sm_inner e0 4 rfl rfl rfl)) c5 d_te_lengthenToken_21 ?_
    refine sm_nmH (fun g6 w7 => ?_)
    have hf := sm_letV w7 hf
    refine sm_aload_n 1 rfl d_te_lengthenToken_22 ?_
    refine sm_getR (n := 2) fl_te_15 e0 rfl d_te_lengthenToken_23 ?_
    refine sm_iload_n 0 rfl d_te_lengthenToken_26 ?_
    obtain ⟨c8, hf⟩ := sm_gdE hf
    refine sm_iald (sm_at_arr (sm_inner e0 2 rfl rfl rfl)) c8 d_te_lengthenToken_27 ?_
    refine sm_iconst (v := 2) (by decide) d_te_lengthenToken_28 ?_
    refine sm_icmp_ne 73 d_te_lengthenToken_29 rfl (fun c9 => ?_) (fun c9 => ?_)
    · have hf := sm_ifF c9 hf
      obtain rfl := sm_ret1 hf
      exact sm_vret d_te_lengthenToken_73 rfl
    · have hf := sm_ifT c9 hf
      refine sm_aload_n 1 rfl d_te_lengthenToken_32 ?_
      refine sm_getR (n := 5) fl_te_25 e0 rfl d_te_lengthenToken_33 ?_
      refine sm_iload_n 0 rfl d_te_lengthenToken_36 ?_
      refine sm_aload_n 1 rfl d_te_lengthenToken_37 ?_
      refine sm_getR (n := 5) fl_te_25 e0 rfl d_te_lengthenToken_38 ?_
      refine sm_iload_n 0 rfl d_te_lengthenToken_41 ?_
      obtain ⟨c10, hf⟩ := sm_gdE hf
      refine sm_iald (sm_at_arr (sm_inner e0 5 rfl rfl rfl)) c10 d_te_lengthenToken_42 ?_
      refine sm_bipush (v := 10) (by decide) d_te_lengthenToken_43 ?_
      refine sm_imul d_te_lengthenToken_45 ?_
      refine sm_iload_n 2 rfl d_te_lengthenToken_46 ?_
      refine sm_iadd d_te_lengthenToken_47 ?_
      refine sm_bipush (v := 48) (by decide) d_te_lengthenToken_48 ?_
      refine sm_isub d_te_lengthenToken_50 ?_
      obtain ⟨c11, hf⟩ := sm_gdE hf
      refine sm_iast (sm_at_arr (sm_inner e0 5 rfl rfl rfl)) c11 d_te_lengthenToken_51 ?_
      refine sm_nmH (fun g12 w13 => ?_)
      have hf := sm_letV w13 hf
      refine sm_aload_n 1 rfl d_te_lengthenToken_52 ?_
      refine sm_getR (n := 2) fl_te_15 e0 rfl d_te_lengthenToken_53 ?_
      refine sm_iload_n 0 rfl d_te_lengthenToken_56 ?_
      refine sm_aload_n 1 rfl d_te_lengthenToken_57 ?_
      refine sm_getR (n := 4) fl_te_22 e0 rfl d_te_lengthenToken_58 ?_
      refine sm_iload_n 0 rfl d_te_lengthenToken_61 ?_
      obtain ⟨c14, hf⟩ := sm_gdE hf
      refine sm_iald (sm_at_arr (sm_inner e0 4 rfl rfl rfl)) c14 d_te_lengthenToken_62 ?_
      refine sm_iconst (v := 3) (by decide) d_te_lengthenToken_63 ?_
      refine sm_icmp_le 71 d_te_lengthenToken_64 rfl (fun c15 => ?_) (fun c15 => ?_)
      · have hf := sm_ifT c15 hf
        refine sm_iconst (v := 2) (by decide) d_te_lengthenToken_71 ?_
        refine sm_sub [] rfl ?_
        exact w_te_lengthenToken_L72 l lo hi d _ _ _ _ (sm_at_arr (sm_inner e0 2 rfl rfl rfl)) hf
      · have hf := sm_ifF c15 hf
        refine sm_iconst (v := 4) (by decide) d_te_lengthenToken_67 ?_
        refine sm_goto 72 d_te_lengthenToken_68 rfl ?_
        refine sm_sub [] rfl ?_
        exact w_te_lengthenToken_L72 l lo hi d _ _ _ _ (sm_at_arr (sm_inner e0 2 rfl rfl rfl)) hf
  · have hf := sm_ifF c3 hf
    obtain rfl := sm_ret1 hf
    exact sm_vret d_te_lengthenToken_11 rfl
theorem d_te_startToken_0 : decode q_te_startToken.2.1 0 = .ok (.aload_n 0, 1) := by decide +kernel
theorem d_te_startToken_1 : decode q_te_startToken.2.1 1 = .ok (.getfield 32, 3) := by decide +kernel
theorem d_te_startToken_4 : decode q_te_startToken.2.1 4 = .ok (.sipush 901, 3) := by decide +kernel
theorem d_te_startToken_7 : decode q_te_startToken.2.1 7 = .ok (.if_icmp .ge 70, 3) := by decide +kernel
theorem d_te_startToken_10 : decode q_te_startToken.2.1 10 = .ok (.aload_n 0, 1) := by decide +kernel
theorem d_te_startToken_11 : decode q_te_startToken.2.1 11 = .ok (.getfield 15, 3) := by decide +kernel
theorem d_te_startToken_14 : decode q_te_startToken.2.1 14 = .ok (.aload_n 0, 1) := by decide +kernel
theorem d_te_startToken_15 : decode q_te_startToken.2.1 15 = .ok (.getfield 32, 3) := by decide +kernel
theorem d_te_startToken_18 : decode q_te_startToken.2.1 18 = .ok (.iload_n 1, 1) := by decide +kernel
theorem d_te_startToken_19 : decode q_te_startToken.2.1 19 = .ok (.iastore, 1) := by decide +kernel
theorem d_te_startToken_20 : decode q_te_startToken.2.1 20 = .ok (.aload_n 0, 1) := by decide +kernel
theorem d_te_startToken_21 : decode q_te_startToken.2.1 21 = .ok (.getfield 19, 3) := by decide +kernel
theorem d_te_startToken_24 : decode q_te_startToken.2.1 24 = .ok (.aload_n 0, 1) := by decide +kernel
theorem d_te_startToken_25 : decode q_te_startToken.2.1 25 = .ok (.getfield 32, 3) := by decide +kernel
theorem d_te_startToken_28 : decode q_te_startToken.2.1 28 = .ok (.iload_n 2, 1) := by decide +kernel
theorem d_te_startToken_29 : decode q_te_startToken.2.1 29 = .ok (.iastore, 1) := by decide +kernel
theorem d_te_startToken_30 : decode q_te_startToken.2.1 30 = .ok (.aload_n 0, 1) := by decide +kernel
theorem d_te_startToken_31 : decode q_te_startToken.2.1 31 = .ok (.getfield 22, 3) := by decide +kernel
theorem d_te_startToken_34 : decode q_te_startToken.2.1 34 = .ok (.aload_n 0, 1) := by decide +kernel
theorem d_te_startToken_35 : decode q_te_startToken.2.1 35 = .ok (.getfield 32, 3) := by decide +kernel
theorem d_te_startToken_38 : decode q_te_startToken.2.1 38 = .ok (.iconst 1, 1) := by decide +kernel
theorem d_te_startToken_39 : decode q_te_startToken.2.1 39 = .ok (.iastore, 1) := by decide +kernel
theorem d_te_startToken_40 : decode q_te_startToken.2.1 40 = .ok (.aload_n 0, 1) := by decide +kernel
theorem d_te_startToken_41 : decode q_te_startToken.2.1 41 = .ok (.getfield 25, 3) := by decide +kernel
theorem d_te_startToken_44 : decode q_te_startToken.2.1 44 = .ok (.aload_n 0, 1) := by decide +kernel
theorem d_te_startToken_45 : decode q_te_startToken.2.1 45 = .ok (.getfield 32, 3) := by decide +kernel
theorem d_te_startToken_48 : decode q_te_startToken.2.1 48 = .ok (.iload_n 1, 1) := by decide +kernel
theorem d_te_startToken_49 : decode q_te_startToken.2.1 49 = .ok (.iconst 2, 1) := by decide +kernel
theorem d_te_startToken_50 : decode q_te_startToken.2.1 50 = .ok (.if_icmp .ne 15, 3) := by decide +kernel
theorem d_te_startToken_53 : decode q_te_startToken.2.1 53 = .ok (.aload_n 0, 1) := by decide +kernel
theorem d_te_startToken_54 : decode q_te_startToken.2.1 54 = .ok (.getfield 9, 3) := by decide +kernel
theorem d_te_startToken_57 : decode q_te_startToken.2.1 57 = .ok (.iload_n 2, 1) := by decide +kernel
theorem d_te_startToken_58 : decode q_te_startToken.2.1 58 = .ok (.baload, 1) := by decide +kernel
theorem d_te_startToken_59 : decode q_te_startToken.2.1 59 = .ok (.bipush 48, 2) := by decide +kernel
theorem d_te_startToken_61 : decode q_te_startToken.2.1 61 = .ok (.isub, 1) := by decide +kernel
theorem d_te_startToken_62 : decode q_te_startToken.2.1 62 = .ok (.goto 4, 3) := by decide +kernel
theorem d_te_startToken_65 : decode q_te_startToken.2.1 65 = .ok (.iconst 0, 1) := by decide +kernel
theorem d_te_startToken_66 : decode q_te_startToken.2.1 66 = .ok (.iastore, 1) := by decide +kernel
theorem d_te_startToken_67 : decode q_te_startToken.2.1 67 = .ok (.aload_n 0, 1) := by decide +kernel
theorem d_te_startToken_68 : decode q_te_startToken.2.1 68 = .ok (.dup, 1) := by decide +kernel
theorem d_te_startToken_69 : decode q_te_startToken.2.1 69 = .ok (.getfield 32, 3) := by decide +kernel
theorem d_te_startToken_72 : decode q_te_startToken.2.1 72 = .ok (.iconst 1, 1) := by decide +kernel
theorem d_te_startToken_73 : decode q_te_startToken.2.1 73 = .ok (.iadd, 1) := by decide +kernel
theorem d_te_startToken_74 : decode q_te_startToken.2.1 74 = .ok (.putfield 32, 3) := by decide +kernel
theorem d_te_startToken_77 : decode q_te_startToken.2.1 77 = .ok (.return_, 1) := by decide +kernel
theorem w_te_startToken_L66 (l : Launch) (lo hi d : Nat) {h' : sm_H} (a0 : Nat) (s0 : Int32) (s1 : Int32) (s2 : Nat) (h : sm_H) (e0 : sm_at lo hi (0, 8, 0) a0) (t2 : sm_arr lo hi 0 901 s2) (hf : f_te_startToken_L66 a0 s0 s1 s2 h = some h') : sm_W l lo hi (d) q_te_startToken 66 [(0, .ref a0)] [.int s0, .int s1, .ref s2] h none h' := by
  unfold f_te_startToken_L66 at hf
  obtain ⟨c13, hf⟩ := sm_gdE hf
  refine sm_iast t2 c13 d_te_startToken_66 ?_
  refine sm_nmH (fun g14 w15 => ?_)
  have hf := sm_letV w15 hf
  refine sm_aload_n 0 rfl d_te_startToken_67 ?_
  refine sm_dup rfl d_te_startToken_68 ?_
  refine sm_getI fl_te_32 e0 rfl d_te_startToken_69 ?_
  refine sm_iconst (v := 1) (by decide) d_te_startToken_72 ?_
  refine sm_iadd d_te_startToken_73 ?_
  refine sm_putI fp_te_32 e0 rfl rfl d_te_startToken_74 ?_
  refine sm_nmH (fun g16 w17 => ?_)
  have hf := sm_letV w17 hf
  obtain rfl := sm_ret1 hf
  exact sm_vret d_te_startToken_77 rfl
theorem m_te_startToken (l : Launch) (lo hi d : Nat) {a0 : Nat} {a1 : Int32} {a2 : Int32} {h h' : sm_H} (e0 : sm_at lo hi (0, 8, 0) a0) (hf : f_te_startToken a0 a1 a2 h = some h') : sm_Met l lo hi (d) q_te_startToken [.ref a0, .int a1, .int a2] h none h' := by
  refine sm_Met.of (by decide +kernel) rfl ?_
  show sm_W l lo hi (d) q_te_startToken 0 [(0, .ref a0), (1, .int a1), (2, .int a2)] [] h none h'
  unfold f_te_startToken at hf
  refine sm_aload_n 0 rfl d_te_startToken_0 ?_
  refine sm_getI fl_te_32 e0 rfl d_te_startToken_1 ?_
  refine sm_sipush (v := 901) (by decide) d_te_startToken_4 ?_
  refine sm_icmp_ge 77 d_te_startToken_7 rfl (fun c1 => ?_) (fun c1 => ?_)
  · have hf := sm_ifT c1 hf
    obtain rfl := sm_ret1 hf
    exact sm_vret d_te_startToken_77 rfl
  · have hf := sm_ifF c1 hf
    refine sm_aload_n 0 rfl d_te_startToken_10 ?_
    refine sm_getR (n := 2) fl_te_15 e0 rfl d_te_startToken_11 ?_
    refine sm_aload_n 0 rfl d_te_startToken_14 ?_
    refine sm_getI fl_te_32 e0 rfl d_te_startToken_15 ?_
    refine sm_iload_n 1 rfl d_te_startToken_18 ?_
    obtain ⟨c2, hf⟩ := sm_gdE hf
    refine sm_iast (sm_at_arr (sm_inner e0 2 rfl rfl rfl)) c2 d_te_startToken_19 ?_
    refine sm_nmH (fun g3 w4 => ?_)
    have hf := sm_letV w4 hf
    refine sm_aload_n 0 rfl d_te_startToken_20 ?_
    refine sm_getR (n := 3) fl_te_19 e0 rfl d_te_startToken_21 ?_
    refine sm_aload_n 0 rfl d_te_startToken_24 ?_
    refine sm_getI fl_te_32 e0 rfl d_te_startToken_25 ?_
    refine sm_iload_n 2 rfl d_te_startToken_28 ?_
    obtain ⟨c5, hf⟩ := sm_gdE hf
    refine sm_iast (sm_at_arr (sm_inner e0 3 rfl rfl rfl)) c5 d_te_startToken_29 ?_
    refine sm_nmH (fun g6 w7 => ?_)
    have hf := sm_letV w7 hf
    refine sm_aload_n 0 rfl d_te_startToken_30 ?_
    refine sm_getR (n := 4) fl_te_22 e0 rfl d_te_startToken_31 ?_
    refine sm_aload_n 0 rfl d_te_startToken_34 ?_
    refine sm_getI fl_te_32 e0 rfl d_te_startToken_35 ?_
    refine sm_iconst (v := 1) (by decide) d_te_startToken_38 ?_
    obtain ⟨c8, hf⟩ := sm_gdE hf
    refine sm_iast (sm_at_arr (sm_inner e0 4 rfl rfl rfl)) c8 d_te_startToken_39 ?_
    refine sm_nmH (fun g9 w10 => ?_)
    have hf := sm_letV w10 hf
    refine sm_aload_n 0 rfl d_te_startToken_40 ?_
    refine sm_getR (n := 5) fl_te_25 e0 rfl d_te_startToken_41 ?_
    refine sm_aload_n 0 rfl d_te_startToken_44 ?_
    refine sm_getI fl_te_32 e0 rfl d_te_startToken_45 ?_
    refine sm_iload_n 1 rfl d_te_startToken_48 ?_
    refine sm_iconst (v := 2) (by decide) d_te_startToken_49 ?_
    refine sm_icmp_ne 65 d_te_startToken_50 rfl (fun c11 => ?_) (fun c11 => ?_)
    · have hf := sm_ifF c11 hf
      refine sm_iconst (v := 0) (by decide) d_te_startToken_65 ?_
      refine sm_sub [0] rfl ?_
      exact w_te_startToken_L66 l lo hi d _ _ _ _ _ e0 (sm_at_arr (sm_inner e0 5 rfl rfl rfl)) hf
    · have hf := sm_ifT c11 hf
      refine sm_aload_n 0 rfl d_te_startToken_53 ?_
      refine sm_getR (n := 1) fl_te_9 e0 rfl d_te_startToken_54 ?_
      refine sm_iload_n 2 rfl d_te_startToken_57 ?_
      obtain ⟨c12, hf⟩ := sm_gdE hf
      refine sm_bald (sm_at_arr (sm_inner e0 0 rfl rfl rfl)) c12 d_te_startToken_58 ?_
      refine sm_bipush (v := 48) (by decide) d_te_startToken_59 ?_
      refine sm_isub d_te_startToken_61 ?_
      refine sm_goto 66 d_te_startToken_62 rfl ?_
      refine sm_sub [0] rfl ?_
      exact w_te_startToken_L66 l lo hi d _ _ _ _ _ e0 (sm_at_arr (sm_inner e0 5 rfl rfl rfl)) hf
theorem d_te_cut_0 : decode q_te_cut.2.1 0 = .ok (.aload_n 0, 1) := by decide +kernel
theorem d_te_cut_1 : decode q_te_cut.2.1 1 = .ok (.iconst 0, 1) := by decide +kernel
theorem d_te_cut_2 : decode q_te_cut.2.1 2 = .ok (.putfield 32, 3) := by decide +kernel
theorem d_te_cut_5 : decode q_te_cut.2.1 5 = .ok (.aload_n 0, 1) := by decide +kernel
theorem d_te_cut_6 : decode q_te_cut.2.1 6 = .ok (.iconst 0, 1) := by decide +kernel
theorem d_te_cut_7 : decode q_te_cut.2.1 7 = .ok (.putfield 35, 3) := by decide +kernel
theorem d_te_cut_10 : decode q_te_cut.2.1 10 = .ok (.iconst 5, 1) := by decide +kernel
theorem d_te_cut_11 : decode q_te_cut.2.1 11 = .ok (.istore_n 2, 1) := by decide +kernel
theorem d_te_cut_12 : decode q_te_cut.2.1 12 = .ok (.iconst 0, 1) := by decide +kernel
theorem d_te_cut_13 : decode q_te_cut.2.1 13 = .ok (.istore_n 3, 1) := by decide +kernel
theorem d_te_cut_14 : decode q_te_cut.2.1 14 = .ok (.iload_n 3, 1) := by decide +kernel
theorem d_te_cut_15 : decode q_te_cut.2.1 15 = .ok (.iload_n 1, 1) := by decide +kernel
theorem d_te_cut_16 : decode q_te_cut.2.1 16 = .ok (.if_icmp .ge 94, 3) := by decide +kernel
theorem d_te_cut_19 : decode q_te_cut.2.1 19 = .ok (.iload_n 3, 1) := by decide +kernel
theorem d_te_cut_20 : decode q_te_cut.2.1 20 = .ok (.sipush 900, 3) := by decide +kernel
theorem d_te_cut_23 : decode q_te_cut.2.1 23 = .ok (.if_icmp .ge 87, 3) := by decide +kernel
theorem d_te_cut_26 : decode q_te_cut.2.1 26 = .ok (.aload_n 0, 1) := by decide +kernel
theorem d_te_cut_27 : decode q_te_cut.2.1 27 = .ok (.getfield 9, 3) := by decide +kernel
theorem d_te_cut_30 : decode q_te_cut.2.1 30 = .ok (.iload_n 3, 1) := by decide +kernel
theorem d_te_cut_31 : decode q_te_cut.2.1 31 = .ok (.baload, 1) := by decide +kernel
theorem d_te_cut_32 : decode q_te_cut.2.1 32 = .ok (.invokestatic 38, 3) := by decide +kernel
theorem d_te_cut_35 : decode q_te_cut.2.1 35 = .ok (.istore 4, 2) := by decide +kernel
theorem d_te_cut_37 : decode q_te_cut.2.1 37 = .ok (.iload 4, 2) := by decide +kernel
theorem d_te_cut_39 : decode q_te_cut.2.1 39 = .ok (.invokestatic 42, 3) := by decide +kernel
theorem d_te_cut_42 : decode q_te_cut.2.1 42 = .ok (.ifCond .eq 22, 3) := by decide +kernel
theorem d_te_cut_45 : decode q_te_cut.2.1 45 = .ok (.iload 4, 2) := by decide +kernel
theorem d_te_cut_47 : decode q_te_cut.2.1 47 = .ok (.iload_n 2, 1) := by decide +kernel
theorem d_te_cut_48 : decode q_te_cut.2.1 48 = .ok (.if_icmp .ne 16, 3) := by decide +kernel
theorem d_te_cut_51 : decode q_te_cut.2.1 51 = .ok (.aload_n 0, 1) := by decide +kernel
theorem d_te_cut_52 : decode q_te_cut.2.1 52 = .ok (.aload_n 0, 1) := by decide +kernel
theorem d_te_cut_53 : decode q_te_cut.2.1 53 = .ok (.getfield 9, 3) := by decide +kernel
theorem d_te_cut_56 : decode q_te_cut.2.1 56 = .ok (.iload_n 3, 1) := by decide +kernel
theorem d_te_cut_57 : decode q_te_cut.2.1 57 = .ok (.baload, 1) := by decide +kernel
theorem d_te_cut_58 : decode q_te_cut.2.1 58 = .ok (.invokevirtual 46, 3) := by decide +kernel
theorem d_te_cut_61 : decode q_te_cut.2.1 61 = .ok (.goto 40, 3) := by decide +kernel
theorem d_te_cut_64 : decode q_te_cut.2.1 64 = .ok (.iload 4, 2) := by decide +kernel
theorem d_te_cut_66 : decode q_te_cut.2.1 66 = .ok (.invokestatic 42, 3) := by decide +kernel
theorem d_te_cut_69 : decode q_te_cut.2.1 69 = .ok (.ifCond .eq 19, 3) := by decide +kernel
theorem d_te_cut_72 : decode q_te_cut.2.1 72 = .ok (.iload_n 2, 1) := by decide +kernel
theorem d_te_cut_73 : decode q_te_cut.2.1 73 = .ok (.invokestatic 42, 3) := by decide +kernel
theorem d_te_cut_76 : decode q_te_cut.2.1 76 = .ok (.ifCond .eq 12, 3) := by decide +kernel
theorem d_te_cut_79 : decode q_te_cut.2.1 79 = .ok (.aload_n 0, 1) := by decide +kernel
theorem d_te_cut_80 : decode q_te_cut.2.1 80 = .ok (.iconst 4, 1) := by decide +kernel
theorem d_te_cut_81 : decode q_te_cut.2.1 81 = .ok (.iload_n 3, 1) := by decide +kernel
theorem d_te_cut_82 : decode q_te_cut.2.1 82 = .ok (.invokevirtual 50, 3) := by decide +kernel
theorem d_te_cut_85 : decode q_te_cut.2.1 85 = .ok (.goto 16, 3) := by decide +kernel
theorem d_te_cut_88 : decode q_te_cut.2.1 88 = .ok (.iload 4, 2) := by decide +kernel
theorem d_te_cut_90 : decode q_te_cut.2.1 90 = .ok (.iconst 5, 1) := by decide +kernel
theorem d_te_cut_91 : decode q_te_cut.2.1 91 = .ok (.if_icmp .eq 10, 3) := by decide +kernel
theorem d_te_cut_94 : decode q_te_cut.2.1 94 = .ok (.aload_n 0, 1) := by decide +kernel
theorem d_te_cut_95 : decode q_te_cut.2.1 95 = .ok (.iload 4, 2) := by decide +kernel
theorem d_te_cut_97 : decode q_te_cut.2.1 97 = .ok (.iload_n 3, 1) := by decide +kernel
theorem d_te_cut_98 : decode q_te_cut.2.1 98 = .ok (.invokevirtual 50, 3) := by decide +kernel
theorem d_te_cut_101 : decode q_te_cut.2.1 101 = .ok (.iload 4, 2) := by decide +kernel
theorem d_te_cut_103 : decode q_te_cut.2.1 103 = .ok (.istore_n 2, 1) := by decide +kernel
theorem d_te_cut_104 : decode q_te_cut.2.1 104 = .ok (.iinc 3 1, 3) := by decide +kernel
theorem d_te_cut_107 : decode q_te_cut.2.1 107 = .ok (.goto (-93), 3) := by decide +kernel
theorem d_te_cut_110 : decode q_te_cut.2.1 110 = .ok (.aload_n 0, 1) := by decide +kernel
theorem d_te_cut_111 : decode q_te_cut.2.1 111 = .ok (.iconst 0, 1) := by decide +kernel
theorem d_te_cut_112 : decode q_te_cut.2.1 112 = .ok (.iload_n 1, 1) := by decide +kernel
theorem d_te_cut_113 : decode q_te_cut.2.1 113 = .ok (.invokevirtual 50, 3) := by decide +kernel
theorem d_te_cut_116 : decode q_te_cut.2.1 116 = .ok (.return_, 1) := by decide +kernel
theorem w_te_cut_L110 (l : Launch) (lo hi d : Nat) {h' : sm_H} (a0 : Nat) (a1 : Int32) (h : sm_H) (e0 : sm_at lo hi (0, 8, 0) a0) (hf : f_te_cut_L110 a0 a1 h = some h') : sm_W l lo hi (d + 1) q_te_cut 110 [(0, .ref a0), (1, .int a1)] [] h none h' := by
  unfold f_te_cut_L110 at hf
  refine sm_aload_n 0 rfl d_te_cut_110 ?_
  refine sm_iconst (v := 0) (by decide) d_te_cut_111 ?_
  refine sm_iload_n 1 rfl d_te_cut_112 ?_
  obtain ⟨g34, c35, hf⟩ := sm_bindE hf
  refine sm_callV (As := [.int 0, .int a1]) (rv := none) (h1 := g34) (c := 8) cvv_te_50 rfl rfl e0 (m_te_startToken l lo hi _ e0 c35) rfl rfl d_te_cut_113 ?_
  obtain rfl := sm_ret1 hf
  exact sm_vret d_te_cut_116 rfl
theorem w_te_cut_L101 (l : Launch) (lo hi d : Nat) {k14 : Nat → Int32 → Int32 → Int32 → sm_H → Option sm_H} {h' : sm_H} (hk14 : ∀ (a0 : Nat) (a1 : Int32) (a2 : Int32) (a3 : Int32) (h : sm_H) (_ : sm_at lo hi (0, 8, 0) a0) , k14 a0 a1 a2 a3 h = some h' → sm_W l lo hi (d + 1) q_te_cut 14 [(0, .ref a0), (1, .int a1), (2, .int a2), (3, .int a3)] [] h none h') (a0 : Nat) (a1 : Int32) (a3 : Int32) (a4 : Int32) (h : sm_H) (e0 : sm_at lo hi (0, 8, 0) a0) (hf : f_te_cut_L101 k14 a0 a1 a3 a4 h = some h') : sm_W l lo hi (d + 1) q_te_cut 101 [(0, .ref a0), (1, .int a1), (3, .int a3), (4, .int a4)] [] h none h' := by
  unfold f_te_cut_L101 at hf
  refine sm_iload 3 rfl d_te_cut_101 ?_
  refine sm_istore_n (lv' := [(2, .int a4), (0, .ref a0), (1, .int a1), (3, .int a3), (4, .int a4)]) d_te_cut_103 rfl rfl ?_
  obtain ⟨x32, w33⟩ : ∃ v : Int32, v = a3 + 1 := ⟨_, rfl⟩
  have hf := sm_letV w33 hf
  refine sm_iinc (v := x32) (lv' := [(3, .int x32), (2, .int a4), (0, .ref a0), (1, .int a1), (4, .int a4)]) 3 rfl (by rw [w33]; rfl) d_te_cut_104 rfl rfl ?_
  refine sm_goto 14 d_te_cut_107 rfl ?_
  refine sm_sub [2, 3, 1, 0] rfl ?_
  exact hk14 _ _ _ _ _ e0 hf
theorem w_te_cut_L88 (l : Launch) (lo hi d : Nat) {k14 : Nat → Int32 → Int32 → Int32 → sm_H → Option sm_H} {h' : sm_H} (hk14 : ∀ (a0 : Nat) (a1 : Int32) (a2 : Int32) (a3 : Int32) (h : sm_H) (_ : sm_at lo hi (0, 8, 0) a0) , k14 a0 a1 a2 a3 h = some h' → sm_W l lo hi (d + 1) q_te_cut 14 [(0, .ref a0), (1, .int a1), (2, .int a2), (3, .int a3)] [] h none h') (a0 : Nat) (a1 : Int32) (a3 : Int32) (a4 : Int32) (h : sm_H) (e0 : sm_at lo hi (0, 8, 0) a0) (hf : f_te_cut_L88 k14 a0 a1 a3 a4 h = some h') : sm_W l lo hi (d + 1) q_te_cut 88 [(0, .ref a0), (1, .int a1), (3, .int a3), (4, .int a4)] [] h none h' := by
  unfold f_te_cut_L88 at hf
  refine sm_iload 3 rfl d_te_cut_88 ?_
  refine sm_iconst (v := 5) (by decide) d_te_cut_90 ?_
  refine sm_icmp_eq 101 d_te_cut_91 rfl (fun c29 => ?_) (fun c29 => ?_)
  · have hf := sm_ifT c29 hf
    exact w_te_cut_L101 l lo hi d hk14 _ _ _ _ _ e0 hf
  · have hf := sm_ifF c29 hf
    refine sm_aload_n 0 rfl d_te_cut_94 ?_
    refine sm_iload 3 rfl d_te_cut_95 ?_
    refine sm_iload_n 2 rfl d_te_cut_97 ?_
    obtain ⟨g30, c31, hf⟩ := sm_bindE hf
    refine sm_callV (As := [.int a4, .int a3]) (rv := none) (h1 := g30) (c := 8) cvv_te_50 rfl rfl e0 (m_te_startToken l lo hi _ e0 c31) rfl rfl d_te_cut_98 ?_
    exact w_te_cut_L101 l lo hi d hk14 _ _ _ _ _ e0 hf
theorem w_te_cut_L64 (l : Launch) (lo hi d : Nat) {k14 : Nat → Int32 → Int32 → Int32 → sm_H → Option sm_H} {h' : sm_H} (hk14 : ∀ (a0 : Nat) (a1 : Int32) (a2 : Int32) (a3 : Int32) (h : sm_H) (_ : sm_at lo hi (0, 8, 0) a0) , k14 a0 a1 a2 a3 h = some h' → sm_W l lo hi (d + 1) q_te_cut 14 [(0, .ref a0), (1, .int a1), (2, .int a2), (3, .int a3)] [] h none h') (a0 : Nat) (a1 : Int32) (a2 : Int32) (a3 : Int32) (a4 : Int32) (h : sm_H) (e0 : sm_at lo hi (0, 8, 0) a0) (hf : f_te_cut_L64 k14 a0 a1 a2 a3 a4 h = some h') : sm_W l lo hi (d + 1) q_te_cut 64 [(0, .ref a0), (1, .int a1), (2, .int a2), (3, .int a3), (4, .int a4)] [] h none h' := by
  unfold f_te_cut_L64 at hf
  refine sm_iload 4 rfl d_te_cut_64 ?_
  obtain ⟨r19, g20, c21, hf⟩ := sm_b2E hf
  refine sm_callS (As := [.int a4]) (rv := some (.int r19)) (h1 := g20) cvs_te_42 (m_te_isRun l lo hi _ c21) rfl rfl d_te_cut_66 ?_
  refine sm_if_eq 88 d_te_cut_69 rfl (fun c22 => ?_) (fun c22 => ?_)
  · have hf := sm_ifT c22 hf
    refine sm_sub [0, 1, 3, 4] rfl ?_
    exact w_te_cut_L88 l lo hi d hk14 _ _ _ _ _ e0 hf
  · have hf := sm_ifF c22 hf
    refine sm_iload_n 2 rfl d_te_cut_72 ?_
    obtain ⟨r23, g24, c25, hf⟩ := sm_b2E hf
    refine sm_callS (As := [.int a2]) (rv := some (.int r23)) (h1 := g24) cvs_te_42 (m_te_isRun l lo hi _ c25) rfl rfl d_te_cut_73 ?_
    refine sm_if_eq 88 d_te_cut_76 rfl (fun c26 => ?_) (fun c26 => ?_)
    · have hf := sm_ifT c26 hf
      refine sm_sub [0, 1, 3, 4] rfl ?_
      exact w_te_cut_L88 l lo hi d hk14 _ _ _ _ _ e0 hf
    · have hf := sm_ifF c26 hf
      refine sm_aload_n 0 rfl d_te_cut_79 ?_
      refine sm_iconst (v := 4) (by decide) d_te_cut_80 ?_
      refine sm_iload_n 3 rfl d_te_cut_81 ?_
      obtain ⟨g27, c28, hf⟩ := sm_bindE hf
      refine sm_callV (As := [.int 4, .int a3]) (rv := none) (h1 := g27) (c := 8) cvv_te_50 rfl rfl e0 (m_te_startToken l lo hi _ e0 c28) rfl rfl d_te_cut_82 ?_
      refine sm_goto 101 d_te_cut_85 rfl ?_
      refine sm_sub [0, 1, 3, 4] rfl ?_
      exact w_te_cut_L101 l lo hi d hk14 _ _ _ _ _ e0 hf
theorem w_te_cut_L14 (l : Launch) (lo hi d : Nat) {h' : sm_H} : ∀ (n : Nat) (a0 : Nat) (a1 : Int32) (a2 : Int32) (a3 : Int32) (h : sm_H) (e0 : sm_at lo hi (0, 8, 0) a0) (hf : f_te_cut_L14 n a0 a1 a2 a3 h = some h'), sm_W l lo hi (d + 1) q_te_cut 14 [(0, .ref a0), (1, .int a1), (2, .int a2), (3, .int a3)] [] h none h' := by
  intro n
  induction n with
  | zero =>
    intro a0 a1 a2 a3 h e0 hf
    have z : (none : Option sm_H) = some _ := hf
    cases z
  | succ n ih =>
    intro a0 a1 a2 a3 h e0 hf
    unfold f_te_cut_L14 at hf
    refine sm_iload_n 3 rfl d_te_cut_14 ?_
    refine sm_iload_n 1 rfl d_te_cut_15 ?_
    refine sm_icmp_ge 110 d_te_cut_16 rfl (fun c5 => ?_) (fun c5 => ?_)
    · have hf := sm_ifT c5 hf
      refine sm_sub [0, 1] rfl ?_
      exact w_te_cut_L110 l lo hi d _ _ _ e0 hf
    · have hf := sm_ifF c5 hf
      refine sm_iload_n 3 rfl d_te_cut_19 ?_
      refine sm_sipush (v := 900) (by decide) d_te_cut_20 ?_
      refine sm_icmp_ge 110 d_te_cut_23 rfl (fun c6 => ?_) (fun c6 => ?_)
      · have hf := sm_ifT c6 hf
        refine sm_sub [0, 1] rfl ?_
        exact w_te_cut_L110 l lo hi d _ _ _ e0 hf
      · have hf := sm_ifF c6 hf
        refine sm_aload_n 0 rfl d_te_cut_26 ?_
        refine sm_getR (n := 1) fl_te_9 e0 rfl d_te_cut_27 ?_
        refine sm_iload_n 3 rfl d_te_cut_30 ?_
        obtain ⟨c7, hf⟩ := sm_gdE hf
        refine sm_bald (sm_at_arr (sm_inner e0 0 rfl rfl rfl)) c7 d_te_cut_31 ?_
        obtain ⟨r8, g9, c10, hf⟩ := sm_b2E hf
        refine sm_callS (As := [.int (h (a0 + 1) (a3 : Int32).toNatClampNeg)]) (rv := some (.int r8)) (h1 := g9) cvs_te_38 (m_te_kindOf l lo hi _ c10) rfl rfl d_te_cut_32 ?_
        refine sm_istore (lv' := [(4, .int r8), (0, .ref a0), (1, .int a1), (2, .int a2), (3, .int a3)]) d_te_cut_35 rfl rfl ?_
        refine sm_iload 0 rfl d_te_cut_37 ?_
        obtain ⟨r11, g12, c13, hf⟩ := sm_b2E hf
        refine sm_callS (As := [.int r8]) (rv := some (.int r11)) (h1 := g12) cvs_te_42 (m_te_isRun l lo hi _ c13) rfl rfl d_te_cut_39 ?_
        refine sm_if_eq 64 d_te_cut_42 rfl (fun c14 => ?_) (fun c14 => ?_)
        · have hf := sm_ifT c14 hf
          refine sm_sub [1, 2, 3, 4, 0] rfl ?_
          exact w_te_cut_L64 l lo hi d ih _ _ _ _ _ _ e0 hf
        · have hf := sm_ifF c14 hf
          refine sm_iload 0 rfl d_te_cut_45 ?_
          refine sm_iload_n 3 rfl d_te_cut_47 ?_
          refine sm_icmp_ne 64 d_te_cut_48 rfl (fun c15 => ?_) (fun c15 => ?_)
          · have hf := sm_ifF c15 hf
            refine sm_sub [1, 2, 3, 4, 0] rfl ?_
            exact w_te_cut_L64 l lo hi d ih _ _ _ _ _ _ e0 hf
          · have hf := sm_ifT c15 hf
            refine sm_aload_n 1 rfl d_te_cut_51 ?_
            refine sm_aload_n 1 rfl d_te_cut_52 ?_
            refine sm_getR (n := 1) fl_te_9 e0 rfl d_te_cut_53 ?_
            refine sm_iload_n 4 rfl d_te_cut_56 ?_
            obtain ⟨c16, hf⟩ := sm_gdE hf
            refine sm_bald (sm_at_arr (sm_inner e0 0 rfl rfl rfl)) c16 d_te_cut_57 ?_
            obtain ⟨g17, c18, hf⟩ := sm_bindE hf
            refine sm_callV (As := [.int (g12 (a0 + 1) (a3 : Int32).toNatClampNeg)]) (rv := none) (h1 := g17) (c := 8) cvv_te_46 rfl rfl e0 (m_te_lengthenToken l lo hi _ e0 c18) rfl rfl d_te_cut_58 ?_
            refine sm_goto 101 d_te_cut_61 rfl ?_
            refine sm_sub [1, 2, 4, 0] rfl ?_
            exact w_te_cut_L101 l lo hi d ih _ _ _ _ _ e0 hf
theorem m_te_cut (l : Launch) (lo hi d : Nat) {a0 : Nat} {a1 : Int32} {h h' : sm_H} (e0 : sm_at lo hi (0, 8, 0) a0) (hf : f_te_cut a0 a1 h = some h') : sm_Met l lo hi (d + 1) q_te_cut [.ref a0, .int a1] h none h' := by
  refine sm_Met.of (by decide +kernel) rfl ?_
  show sm_W l lo hi (d + 1) q_te_cut 0 [(0, .ref a0), (1, .int a1)] [] h none h'
  unfold f_te_cut at hf
  refine sm_aload_n 0 rfl d_te_cut_0 ?_
  refine sm_iconst (v := 0) (by decide) d_te_cut_1 ?_
  refine sm_putI fp_te_32 e0 rfl rfl d_te_cut_2 ?_
  refine sm_nmH (fun g1 w2 => ?_)
  have hf := sm_letV w2 hf
  refine sm_aload_n 0 rfl d_te_cut_5 ?_
  refine sm_iconst (v := 0) (by decide) d_te_cut_6 ?_
  refine sm_putI fp_te_35 e0 rfl rfl d_te_cut_7 ?_
  refine sm_nmH (fun g3 w4 => ?_)
  have hf := sm_letV w4 hf
  refine sm_iconst (v := 5) (by decide) d_te_cut_10 ?_
  refine sm_istore_n (lv' := [(2, .int 5), (0, .ref a0), (1, .int a1)]) d_te_cut_11 rfl rfl ?_
  refine sm_iconst (v := 0) (by decide) d_te_cut_12 ?_
  refine sm_istore_n (lv' := [(3, .int 0), (2, .int 5), (0, .ref a0), (1, .int a1)]) d_te_cut_13 rfl rfl ?_
  refine sm_sub [2, 3, 1, 0] rfl ?_
  exact w_te_cut_L14 l lo hi d sm_N _ _ _ _ _ e0 hf
theorem d_re_begin_0 : decode q_re_begin.2.1 0 = .ok (.aload_n 0, 1) := by decide +kernel
theorem d_re_begin_1 : decode q_re_begin.2.1 1 = .ok (.getfield 21, 3) := by decide +kernel
theorem d_re_begin_4 : decode q_re_begin.2.1 4 = .ok (.invokevirtual 29, 3) := by decide +kernel
theorem d_re_begin_7 : decode q_re_begin.2.1 7 = .ok (.aload_n 0, 1) := by decide +kernel
theorem d_re_begin_8 : decode q_re_begin.2.1 8 = .ok (.getfield 12, 3) := by decide +kernel
theorem d_re_begin_11 : decode q_re_begin.2.1 11 = .ok (.iload_n 1, 1) := by decide +kernel
theorem d_re_begin_12 : decode q_re_begin.2.1 12 = .ok (.invokevirtual 32, 3) := by decide +kernel
theorem d_re_begin_15 : decode q_re_begin.2.1 15 = .ok (.aload_n 0, 1) := by decide +kernel
theorem d_re_begin_16 : decode q_re_begin.2.1 16 = .ok (.iconst 0, 1) := by decide +kernel
theorem d_re_begin_17 : decode q_re_begin.2.1 17 = .ok (.putfield 36, 3) := by decide +kernel
theorem d_re_begin_20 : decode q_re_begin.2.1 20 = .ok (.aload_n 0, 1) := by decide +kernel
theorem d_re_begin_21 : decode q_re_begin.2.1 21 = .ok (.iconst (-1), 1) := by decide +kernel
theorem d_re_begin_22 : decode q_re_begin.2.1 22 = .ok (.putfield 25, 3) := by decide +kernel
theorem d_re_begin_25 : decode q_re_begin.2.1 25 = .ok (.aload_n 0, 1) := by decide +kernel
theorem d_re_begin_26 : decode q_re_begin.2.1 26 = .ok (.iconst 0, 1) := by decide +kernel
theorem d_re_begin_27 : decode q_re_begin.2.1 27 = .ok (.putfield 39, 3) := by decide +kernel
theorem d_re_begin_30 : decode q_re_begin.2.1 30 = .ok (.aload_n 0, 1) := by decide +kernel
theorem d_re_begin_31 : decode q_re_begin.2.1 31 = .ok (.iconst 0, 1) := by decide +kernel
theorem d_re_begin_32 : decode q_re_begin.2.1 32 = .ok (.putfield 43, 3) := by decide +kernel
theorem d_re_begin_35 : decode q_re_begin.2.1 35 = .ok (.return_, 1) := by decide +kernel
theorem m_re_begin (l : Launch) (lo hi d : Nat) (hS : sm_has lo hi) {a0 : Nat} {a1 : Int32} {h h' : sm_H} (e0 : sm_at lo hi (0, 5, 0) a0) (hf : f_re_begin a0 a1 h = some h') : sm_Met l lo hi (d + 2) q_re_begin [.ref a0, .int a1] h none h' := by
  refine sm_Met.of (by decide +kernel) rfl ?_
  show sm_W l lo hi (d + 2) q_re_begin 0 [(0, .ref a0), (1, .int a1)] [] h none h'
  unfold f_re_begin at hf
  refine sm_aload_n 0 rfl d_re_begin_0 ?_
  obtain ⟨c1, hf⟩ := sm_gdE hf
  obtain ⟨z2, v3⟩ := sm_isP_at hS c1
  refine sm_getD fl_re_21 e0 rfl z2 d_re_begin_1 ?_
  refine sm_nmR (fun p4 w5 => ?_)
  have hf := sm_letV w5 hf
  have v3 := sm_ev w5 v3
  obtain ⟨g6, c7, hf⟩ := sm_bindE hf
  refine sm_callV (As := []) (rv := none) (h1 := g6) (c := 4) cvv_re_29 rfl rfl v3 (m_pl_begin l lo hi _ v3 c7) rfl rfl d_re_begin_4 ?_
  refine sm_aload_n 0 rfl d_re_begin_7 ?_
  refine sm_getR (n := 1) fl_re_12 e0 rfl d_re_begin_8 ?_
  refine sm_iload_n 1 rfl d_re_begin_11 ?_
  obtain ⟨g8, c9, hf⟩ := sm_bindE hf
  refine sm_callV (As := [.int a1]) (rv := none) (h1 := g8) (c := 8) cvv_re_32 rfl rfl (sm_inner e0 0 rfl rfl rfl) (m_te_cut l lo hi _ (sm_inner e0 0 rfl rfl rfl) c9) rfl rfl d_re_begin_12 ?_
  refine sm_aload_n 0 rfl d_re_begin_15 ?_
  refine sm_iconst (v := 0) (by decide) d_re_begin_16 ?_
  refine sm_putI fp_re_36 e0 rfl rfl d_re_begin_17 ?_
  refine sm_nmH (fun g10 w11 => ?_)
  have hf := sm_letV w11 hf
  refine sm_aload_n 0 rfl d_re_begin_20 ?_
  refine sm_iconst (v := (-1)) (by decide) d_re_begin_21 ?_
  refine sm_putI fp_re_25 e0 rfl rfl d_re_begin_22 ?_
  refine sm_nmH (fun g12 w13 => ?_)
  have hf := sm_letV w13 hf
  refine sm_aload_n 0 rfl d_re_begin_25 ?_
  refine sm_iconst (v := 0) (by decide) d_re_begin_26 ?_
  refine sm_putZ fp_re_39 e0 rfl rfl (by decide) d_re_begin_27 ?_
  refine sm_nmH (fun g14 w15 => ?_)
  have hf := sm_letV w15 hf
  refine sm_aload_n 0 rfl d_re_begin_30 ?_
  refine sm_iconst (v := 0) (by decide) d_re_begin_31 ?_
  refine sm_putZ fp_re_43 e0 rfl rfl (by decide) d_re_begin_32 ?_
  refine sm_nmH (fun g16 w17 => ?_)
  have hf := sm_letV w17 hf
  obtain rfl := sm_ret1 hf
  exact sm_vret d_re_begin_35 rfl
theorem d_re_expectsItem_0 : decode q_re_expectsItem.2.1 0 = .ok (.aload_n 0, 1) := by decide +kernel
theorem d_re_expectsItem_1 : decode q_re_expectsItem.2.1 1 = .ok (.getfield 36, 3) := by decide +kernel
theorem d_re_expectsItem_4 : decode q_re_expectsItem.2.1 4 = .ok (.ifCond .ne 25, 3) := by decide +kernel
theorem d_re_expectsItem_7 : decode q_re_expectsItem.2.1 7 = .ok (.aload_n 0, 1) := by decide +kernel
theorem d_re_expectsItem_8 : decode q_re_expectsItem.2.1 8 = .ok (.getfield 12, 3) := by decide +kernel
theorem d_re_expectsItem_11 : decode q_re_expectsItem.2.1 11 = .ok (.getfield 46, 3) := by decide +kernel
theorem d_re_expectsItem_14 : decode q_re_expectsItem.2.1 14 = .ok (.aload_n 0, 1) := by decide +kernel
theorem d_re_expectsItem_15 : decode q_re_expectsItem.2.1 15 = .ok (.getfield 12, 3) := by decide +kernel
theorem d_re_expectsItem_18 : decode q_re_expectsItem.2.1 18 = .ok (.getfield 50, 3) := by decide +kernel
theorem d_re_expectsItem_21 : decode q_re_expectsItem.2.1 21 = .ok (.iaload, 1) := by decide +kernel
theorem d_re_expectsItem_22 : decode q_re_expectsItem.2.1 22 = .ok (.ifCond .eq 7, 3) := by decide +kernel
theorem d_re_expectsItem_25 : decode q_re_expectsItem.2.1 25 = .ok (.iconst 1, 1) := by decide +kernel
theorem d_re_expectsItem_26 : decode q_re_expectsItem.2.1 26 = .ok (.goto 4, 3) := by decide +kernel
theorem d_re_expectsItem_29 : decode q_re_expectsItem.2.1 29 = .ok (.iconst 0, 1) := by decide +kernel
theorem d_re_expectsItem_30 : decode q_re_expectsItem.2.1 30 = .ok (.ireturn, 1) := by decide +kernel
theorem w_re_expectsItem_L30 (l : Launch) (lo hi d : Nat) {h' : sm_H} {r0 : Int32} (s0 : Int32) (h : sm_H) (hf : f_re_expectsItem_L30 s0 h = some (r0, h')) : sm_W l lo hi (d) q_re_expectsItem 30 [] [.int s0] h (some (.int r0)) h' := by
  unfold f_re_expectsItem_L30 at hf
  obtain ⟨c4, hf⟩ := sm_gdE hf
  obtain ⟨rfl, rfl⟩ := sm_ret2 hf
  exact sm_bret c4 d_re_expectsItem_30 rfl
theorem m_re_expectsItem (l : Launch) (lo hi d : Nat) {a0 : Nat} {r0 : Int32} {h h' : sm_H} (e0 : sm_at lo hi (0, 5, 0) a0) (hf : f_re_expectsItem a0 h = some (r0, h')) : sm_Met l lo hi (d) q_re_expectsItem [.ref a0] h (some (.int r0)) h' := by
  refine sm_Met.of (by decide +kernel) rfl ?_
  show sm_W l lo hi (d) q_re_expectsItem 0 [(0, .ref a0)] [] h (some (.int r0)) h'
  unfold f_re_expectsItem at hf
  refine sm_aload_n 0 rfl d_re_expectsItem_0 ?_
  refine sm_getI fl_re_36 e0 rfl d_re_expectsItem_1 ?_
  refine sm_if_ne 29 d_re_expectsItem_4 rfl (fun c1 => ?_) (fun c1 => ?_)
  · have hf := sm_ifF c1 hf
    refine sm_iconst (v := 0) (by decide) d_re_expectsItem_29 ?_
    refine sm_sub [] rfl ?_
    exact w_re_expectsItem_L30 l lo hi d _ _ hf
  · have hf := sm_ifT c1 hf
    refine sm_aload_n 0 rfl d_re_expectsItem_7 ?_
    refine sm_getR (n := 1) fl_re_12 e0 rfl d_re_expectsItem_8 ?_
    refine sm_getR (n := 2) fl_re_46 (sm_inner e0 0 rfl rfl rfl) rfl d_re_expectsItem_11 ?_
    refine sm_aload_n 0 rfl d_re_expectsItem_14 ?_
    refine sm_getR (n := 1) fl_re_12 e0 rfl d_re_expectsItem_15 ?_
    refine sm_getI fl_re_50 (sm_inner e0 0 rfl rfl rfl) rfl d_re_expectsItem_18 ?_
    obtain ⟨c2, hf⟩ := sm_gdE hf
    refine sm_iald (sm_at_arr (sm_inner (sm_inner e0 0 rfl rfl rfl) 2 rfl rfl rfl)) c2 d_re_expectsItem_21 ?_
    refine sm_if_eq 29 d_re_expectsItem_22 rfl (fun c3 => ?_) (fun c3 => ?_)
    · have hf := sm_ifT c3 hf
      refine sm_iconst (v := 0) (by decide) d_re_expectsItem_29 ?_
      refine sm_sub [] rfl ?_
      exact w_re_expectsItem_L30 l lo hi d _ _ hf
    · have hf := sm_ifF c3 hf
      refine sm_iconst (v := 1) (by decide) d_re_expectsItem_25 ?_
      refine sm_goto 30 d_re_expectsItem_26 rfl ?_
      refine sm_sub [] rfl ?_
      exact w_re_expectsItem_L30 l lo hi d _ _ hf
theorem d_sc_with_0 : decode q_sc_with.2.1 0 = .ok (.iload_n 2, 1) := by decide +kernel
theorem d_sc_with_1 : decode q_sc_with.2.1 1 = .ok (.ifCond .eq 11, 3) := by decide +kernel
theorem d_sc_with_4 : decode q_sc_with.2.1 4 = .ok (.iload_n 0, 1) := by decide +kernel
theorem d_sc_with_5 : decode q_sc_with.2.1 5 = .ok (.iconst 1, 1) := by decide +kernel
theorem d_sc_with_6 : decode q_sc_with.2.1 6 = .ok (.iload_n 1, 1) := by decide +kernel
theorem d_sc_with_7 : decode q_sc_with.2.1 7 = .ok (.ishl, 1) := by decide +kernel
theorem d_sc_with_8 : decode q_sc_with.2.1 8 = .ok (.ior, 1) := by decide +kernel
theorem d_sc_with_9 : decode q_sc_with.2.1 9 = .ok (.goto 10, 3) := by decide +kernel
theorem d_sc_with_12 : decode q_sc_with.2.1 12 = .ok (.iload_n 0, 1) := by decide +kernel
theorem d_sc_with_13 : decode q_sc_with.2.1 13 = .ok (.iconst 1, 1) := by decide +kernel
theorem d_sc_with_14 : decode q_sc_with.2.1 14 = .ok (.iload_n 1, 1) := by decide +kernel
theorem d_sc_with_15 : decode q_sc_with.2.1 15 = .ok (.ishl, 1) := by decide +kernel
theorem d_sc_with_16 : decode q_sc_with.2.1 16 = .ok (.iconst (-1), 1) := by decide +kernel
theorem d_sc_with_17 : decode q_sc_with.2.1 17 = .ok (.ixor, 1) := by decide +kernel
theorem d_sc_with_18 : decode q_sc_with.2.1 18 = .ok (.iand, 1) := by decide +kernel
theorem d_sc_with_19 : decode q_sc_with.2.1 19 = .ok (.ireturn, 1) := by decide +kernel
theorem w_sc_with_L19 (l : Launch) (lo hi d : Nat) {h' : sm_H} {r0 : Int32} (s0 : Int32) (h : sm_H) (hf : f_sc_with_L19 s0 h = some (r0, h')) : sm_W l lo hi (d) q_sc_with 19 [] [.int s0] h (some (.int r0)) h' := by
  unfold f_sc_with_L19 at hf
  obtain ⟨rfl, rfl⟩ := sm_ret2 hf
  exact sm_iret d_sc_with_19 rfl
theorem m_sc_with (l : Launch) (lo hi d : Nat) {a0 : Int32} {a1 : Int32} {a2 : Int32} {r0 : Int32} {h h' : sm_H} (hf : f_sc_with a0 a1 a2 h = some (r0, h')) : sm_Met l lo hi (d) q_sc_with [.int a0, .int a1, .int a2] h (some (.int r0)) h' := by
  refine sm_Met.of (by decide +kernel) rfl ?_
  show sm_W l lo hi (d) q_sc_with 0 [(0, .int a0), (1, .int a1), (2, .int a2)] [] h (some (.int r0)) h'
  unfold f_sc_with at hf
  refine sm_iload_n 2 rfl d_sc_with_0 ?_
  refine sm_if_eq 12 d_sc_with_1 rfl (fun c1 => ?_) (fun c1 => ?_)
  · have hf := sm_ifT c1 hf
    refine sm_iload_n 0 rfl d_sc_with_12 ?_
    refine sm_iconst (v := 1) (by decide) d_sc_with_13 ?_
    refine sm_iload_n 1 rfl d_sc_with_14 ?_
    refine sm_ishl d_sc_with_15 ?_
    refine sm_iconst (v := (-1)) (by decide) d_sc_with_16 ?_
    refine sm_ixor d_sc_with_17 ?_
    refine sm_iand d_sc_with_18 ?_
    refine sm_sub [] rfl ?_
    exact w_sc_with_L19 l lo hi d _ _ hf
  · have hf := sm_ifF c1 hf
    refine sm_iload_n 0 rfl d_sc_with_4 ?_
    refine sm_iconst (v := 1) (by decide) d_sc_with_5 ?_
    refine sm_iload_n 1 rfl d_sc_with_6 ?_
    refine sm_ishl d_sc_with_7 ?_
    refine sm_ior d_sc_with_8 ?_
    refine sm_goto 19 d_sc_with_9 rfl ?_
    refine sm_sub [] rfl ?_
    exact w_sc_with_L19 l lo hi d _ _ hf
theorem d_pl_addDamper_0 : decode q_pl_addDamper.2.1 0 = .ok (.aload_n 0, 1) := by decide +kernel
theorem d_pl_addDamper_1 : decode q_pl_addDamper.2.1 1 = .ok (.getfield 50, 3) := by decide +kernel
theorem d_pl_addDamper_4 : decode q_pl_addDamper.2.1 4 = .ok (.bipush 16, 2) := by decide +kernel
theorem d_pl_addDamper_6 : decode q_pl_addDamper.2.1 6 = .ok (.if_icmp .ge 60, 3) := by decide +kernel
theorem d_pl_addDamper_9 : decode q_pl_addDamper.2.1 9 = .ok (.aload_n 0, 1) := by decide +kernel
theorem d_pl_addDamper_10 : decode q_pl_addDamper.2.1 10 = .ok (.getfield 9, 3) := by decide +kernel
theorem d_pl_addDamper_13 : decode q_pl_addDamper.2.1 13 = .ok (.aload_n 0, 1) := by decide +kernel
theorem d_pl_addDamper_14 : decode q_pl_addDamper.2.1 14 = .ok (.getfield 50, 3) := by decide +kernel
theorem d_pl_addDamper_17 : decode q_pl_addDamper.2.1 17 = .ok (.iload_n 1, 1) := by decide +kernel
theorem d_pl_addDamper_18 : decode q_pl_addDamper.2.1 18 = .ok (.iastore, 1) := by decide +kernel
theorem d_pl_addDamper_19 : decode q_pl_addDamper.2.1 19 = .ok (.aload_n 0, 1) := by decide +kernel
theorem d_pl_addDamper_20 : decode q_pl_addDamper.2.1 20 = .ok (.getfield 18, 3) := by decide +kernel
theorem d_pl_addDamper_23 : decode q_pl_addDamper.2.1 23 = .ok (.aload_n 0, 1) := by decide +kernel
theorem d_pl_addDamper_24 : decode q_pl_addDamper.2.1 24 = .ok (.getfield 50, 3) := by decide +kernel
theorem d_pl_addDamper_27 : decode q_pl_addDamper.2.1 27 = .ok (.iload_n 2, 1) := by decide +kernel
theorem d_pl_addDamper_28 : decode q_pl_addDamper.2.1 28 = .ok (.iastore, 1) := by decide +kernel
theorem d_pl_addDamper_29 : decode q_pl_addDamper.2.1 29 = .ok (.aload_n 0, 1) := by decide +kernel
theorem d_pl_addDamper_30 : decode q_pl_addDamper.2.1 30 = .ok (.getfield 15, 3) := by decide +kernel
theorem d_pl_addDamper_33 : decode q_pl_addDamper.2.1 33 = .ok (.aload_n 0, 1) := by decide +kernel
theorem d_pl_addDamper_34 : decode q_pl_addDamper.2.1 34 = .ok (.getfield 50, 3) := by decide +kernel
theorem d_pl_addDamper_37 : decode q_pl_addDamper.2.1 37 = .ok (.iload_n 3, 1) := by decide +kernel
theorem d_pl_addDamper_38 : decode q_pl_addDamper.2.1 38 = .ok (.iastore, 1) := by decide +kernel
theorem d_pl_addDamper_39 : decode q_pl_addDamper.2.1 39 = .ok (.aload_n 0, 1) := by decide +kernel
theorem d_pl_addDamper_40 : decode q_pl_addDamper.2.1 40 = .ok (.aload_n 0, 1) := by decide +kernel
theorem d_pl_addDamper_41 : decode q_pl_addDamper.2.1 41 = .ok (.getfield 65, 3) := by decide +kernel
theorem d_pl_addDamper_44 : decode q_pl_addDamper.2.1 44 = .ok (.aload_n 0, 1) := by decide +kernel
theorem d_pl_addDamper_45 : decode q_pl_addDamper.2.1 45 = .ok (.getfield 50, 3) := by decide +kernel
theorem d_pl_addDamper_48 : decode q_pl_addDamper.2.1 48 = .ok (.iload 4, 2) := by decide +kernel
theorem d_pl_addDamper_50 : decode q_pl_addDamper.2.1 50 = .ok (.invokestatic 69, 3) := by decide +kernel
theorem d_pl_addDamper_53 : decode q_pl_addDamper.2.1 53 = .ok (.putfield 65, 3) := by decide +kernel
theorem d_pl_addDamper_56 : decode q_pl_addDamper.2.1 56 = .ok (.aload_n 0, 1) := by decide +kernel
theorem d_pl_addDamper_57 : decode q_pl_addDamper.2.1 57 = .ok (.dup, 1) := by decide +kernel
theorem d_pl_addDamper_58 : decode q_pl_addDamper.2.1 58 = .ok (.getfield 50, 3) := by decide +kernel
theorem d_pl_addDamper_61 : decode q_pl_addDamper.2.1 61 = .ok (.iconst 1, 1) := by decide +kernel
theorem d_pl_addDamper_62 : decode q_pl_addDamper.2.1 62 = .ok (.iadd, 1) := by decide +kernel
theorem d_pl_addDamper_63 : decode q_pl_addDamper.2.1 63 = .ok (.putfield 50, 3) := by decide +kernel
theorem d_pl_addDamper_66 : decode q_pl_addDamper.2.1 66 = .ok (.return_, 1) := by decide +kernel
theorem m_pl_addDamper (l : Launch) (lo hi d : Nat) {a0 : Nat} {a1 : Int32} {a2 : Int32} {a3 : Int32} {a4 : Int32} {h h' : sm_H} (e0 : sm_at lo hi (0, 4, 0) a0) (hf : f_pl_addDamper a0 a1 a2 a3 a4 h = some h') : sm_Met l lo hi (d + 1) q_pl_addDamper [.ref a0, .int a1, .int a2, .int a3, .int a4] h none h' := by
  refine sm_Met.of (by decide +kernel) rfl ?_
  show sm_W l lo hi (d + 1) q_pl_addDamper 0 [(0, .ref a0), (1, .int a1), (2, .int a2), (3, .int a3), (4, .int a4)] [] h none h'
  unfold f_pl_addDamper at hf
  refine sm_aload_n 0 rfl d_pl_addDamper_0 ?_
  refine sm_getI fl_pl_50 e0 rfl d_pl_addDamper_1 ?_
  refine sm_bipush (v := 16) (by decide) d_pl_addDamper_4 ?_
  refine sm_icmp_ge 66 d_pl_addDamper_6 rfl (fun c1 => ?_) (fun c1 => ?_)
  · have hf := sm_ifT c1 hf
    obtain rfl := sm_ret1 hf
    exact sm_vret d_pl_addDamper_66 rfl
  · have hf := sm_ifF c1 hf
    refine sm_aload_n 0 rfl d_pl_addDamper_9 ?_
    refine sm_getR (n := 1) fl_pl_9 e0 rfl d_pl_addDamper_10 ?_
    refine sm_aload_n 0 rfl d_pl_addDamper_13 ?_
    refine sm_getI fl_pl_50 e0 rfl d_pl_addDamper_14 ?_
    refine sm_iload_n 1 rfl d_pl_addDamper_17 ?_
    obtain ⟨c2, hf⟩ := sm_gdE hf
    refine sm_iast (sm_at_arr (sm_inner e0 7 rfl rfl rfl)) c2 d_pl_addDamper_18 ?_
    refine sm_nmH (fun g3 w4 => ?_)
    have hf := sm_letV w4 hf
    refine sm_aload_n 0 rfl d_pl_addDamper_19 ?_
    refine sm_getR (n := 3) fl_pl_18 e0 rfl d_pl_addDamper_20 ?_
    refine sm_aload_n 0 rfl d_pl_addDamper_23 ?_
    refine sm_getI fl_pl_50 e0 rfl d_pl_addDamper_24 ?_
    refine sm_iload_n 2 rfl d_pl_addDamper_27 ?_
    obtain ⟨c5, hf⟩ := sm_gdE hf
    refine sm_iast (sm_at_arr (sm_inner e0 9 rfl rfl rfl)) c5 d_pl_addDamper_28 ?_
    refine sm_nmH (fun g6 w7 => ?_)
    have hf := sm_letV w7 hf
    refine sm_aload_n 0 rfl d_pl_addDamper_29 ?_
    refine sm_getR (n := 2) fl_pl_15 e0 rfl d_pl_addDamper_30 ?_
    refine sm_aload_n 0 rfl d_pl_addDamper_33 ?_
    refine sm_getI fl_pl_50 e0 rfl d_pl_addDamper_34 ?_
    refine sm_iload_n 3 rfl d_pl_addDamper_37 ?_
    obtain ⟨c8, hf⟩ := sm_gdE hf
    refine sm_iast (sm_at_arr (sm_inner e0 8 rfl rfl rfl)) c8 d_pl_addDamper_38 ?_
    refine sm_nmH (fun g9 w10 => ?_)
    have hf := sm_letV w10 hf
    refine sm_aload_n 0 rfl d_pl_addDamper_39 ?_
    refine sm_aload_n 0 rfl d_pl_addDamper_40 ?_
    refine sm_getI fl_pl_65 e0 rfl d_pl_addDamper_41 ?_
    refine sm_aload_n 0 rfl d_pl_addDamper_44 ?_
    refine sm_getI fl_pl_50 e0 rfl d_pl_addDamper_45 ?_
    refine sm_iload 4 rfl d_pl_addDamper_48 ?_
    obtain ⟨r11, g12, c13, hf⟩ := sm_b2E hf
    refine sm_callN (As := [.int (g9 a0 6), .int (g9 a0 1), .int a4]) (rv := some (.int r11)) (h1 := g12) cvn_pl_69 (m_sc_with l lo hi _ c13) rfl rfl d_pl_addDamper_50 ?_
    refine sm_putI fp_pl_65 e0 rfl rfl d_pl_addDamper_53 ?_
    refine sm_nmH (fun g14 w15 => ?_)
    have hf := sm_letV w15 hf
    refine sm_aload_n 0 rfl d_pl_addDamper_56 ?_
    refine sm_dup rfl d_pl_addDamper_57 ?_
    refine sm_getI fl_pl_50 e0 rfl d_pl_addDamper_58 ?_
    refine sm_iconst (v := 1) (by decide) d_pl_addDamper_61 ?_
    refine sm_iadd d_pl_addDamper_62 ?_
    refine sm_putI fp_pl_50 e0 rfl rfl d_pl_addDamper_63 ?_
    refine sm_nmH (fun g16 w17 => ?_)
    have hf := sm_letV w17 hf
    obtain rfl := sm_ret1 hf
    exact sm_vret d_pl_addDamper_66 rfl
theorem d_te_stop_0 : decode q_te_stop.2.1 0 = .ok (.aload_n 0, 1) := by decide +kernel
theorem d_te_stop_1 : decode q_te_stop.2.1 1 = .ok (.getfield 15, 3) := by decide +kernel
theorem d_te_stop_4 : decode q_te_stop.2.1 4 = .ok (.aload_n 0, 1) := by decide +kernel
theorem d_te_stop_5 : decode q_te_stop.2.1 5 = .ok (.getfield 35, 3) := by decide +kernel
theorem d_te_stop_8 : decode q_te_stop.2.1 8 = .ok (.iconst 4, 1) := by decide +kernel
theorem d_te_stop_9 : decode q_te_stop.2.1 9 = .ok (.iastore, 1) := by decide +kernel
theorem d_te_stop_10 : decode q_te_stop.2.1 10 = .ok (.return_, 1) := by decide +kernel
theorem m_te_stop (l : Launch) (lo hi d : Nat) {a0 : Nat} {h h' : sm_H} (e0 : sm_at lo hi (0, 8, 0) a0) (hf : f_te_stop a0 h = some h') : sm_Met l lo hi (d) q_te_stop [.ref a0] h none h' := by
  refine sm_Met.of (by decide +kernel) rfl ?_
  show sm_W l lo hi (d) q_te_stop 0 [(0, .ref a0)] [] h none h'
  unfold f_te_stop at hf
  refine sm_aload_n 0 rfl d_te_stop_0 ?_
  refine sm_getR (n := 2) fl_te_15 e0 rfl d_te_stop_1 ?_
  refine sm_aload_n 0 rfl d_te_stop_4 ?_
  refine sm_getI fl_te_35 e0 rfl d_te_stop_5 ?_
  refine sm_iconst (v := 4) (by decide) d_te_stop_8 ?_
  obtain ⟨c1, hf⟩ := sm_gdE hf
  refine sm_iast (sm_at_arr (sm_inner e0 2 rfl rfl rfl)) c1 d_te_stop_9 ?_
  refine sm_nmH (fun g2 w3 => ?_)
  have hf := sm_letV w3 hf
  obtain rfl := sm_ret1 hf
  exact sm_vret d_te_stop_10 rfl
theorem d_re_fail_0 : decode q_re_fail.2.1 0 = .ok (.aload_n 0, 1) := by decide +kernel
theorem d_re_fail_1 : decode q_re_fail.2.1 1 = .ok (.getfield 36, 3) := by decide +kernel
theorem d_re_fail_4 : decode q_re_fail.2.1 4 = .ok (.ifCond .ne 34, 3) := by decide +kernel
theorem d_re_fail_7 : decode q_re_fail.2.1 7 = .ok (.aload_n 0, 1) := by decide +kernel
theorem d_re_fail_8 : decode q_re_fail.2.1 8 = .ok (.iload_n 1, 1) := by decide +kernel
theorem d_re_fail_9 : decode q_re_fail.2.1 9 = .ok (.putfield 36, 3) := by decide +kernel
theorem d_re_fail_12 : decode q_re_fail.2.1 12 = .ok (.aload_n 0, 1) := by decide +kernel
theorem d_re_fail_13 : decode q_re_fail.2.1 13 = .ok (.aload_n 0, 1) := by decide +kernel
theorem d_re_fail_14 : decode q_re_fail.2.1 14 = .ok (.getfield 12, 3) := by decide +kernel
theorem d_re_fail_17 : decode q_re_fail.2.1 17 = .ok (.getfield 53, 3) := by decide +kernel
theorem d_re_fail_20 : decode q_re_fail.2.1 20 = .ok (.aload_n 0, 1) := by decide +kernel
theorem d_re_fail_21 : decode q_re_fail.2.1 21 = .ok (.getfield 12, 3) := by decide +kernel
theorem d_re_fail_24 : decode q_re_fail.2.1 24 = .ok (.getfield 50, 3) := by decide +kernel
theorem d_re_fail_27 : decode q_re_fail.2.1 27 = .ok (.iaload, 1) := by decide +kernel
theorem d_re_fail_28 : decode q_re_fail.2.1 28 = .ok (.putfield 25, 3) := by decide +kernel
theorem d_re_fail_31 : decode q_re_fail.2.1 31 = .ok (.aload_n 0, 1) := by decide +kernel
theorem d_re_fail_32 : decode q_re_fail.2.1 32 = .ok (.getfield 12, 3) := by decide +kernel
theorem d_re_fail_35 : decode q_re_fail.2.1 35 = .ok (.invokevirtual 56, 3) := by decide +kernel
theorem d_re_fail_38 : decode q_re_fail.2.1 38 = .ok (.return_, 1) := by decide +kernel
theorem m_re_fail (l : Launch) (lo hi d : Nat) {a0 : Nat} {a1 : Int32} {h h' : sm_H} (e0 : sm_at lo hi (0, 5, 0) a0) (hf : f_re_fail a0 a1 h = some h') : sm_Met l lo hi (d + 1) q_re_fail [.ref a0, .int a1] h none h' := by
  refine sm_Met.of (by decide +kernel) rfl ?_
  show sm_W l lo hi (d + 1) q_re_fail 0 [(0, .ref a0), (1, .int a1)] [] h none h'
  unfold f_re_fail at hf
  refine sm_aload_n 0 rfl d_re_fail_0 ?_
  refine sm_getI fl_re_36 e0 rfl d_re_fail_1 ?_
  refine sm_if_ne 38 d_re_fail_4 rfl (fun c1 => ?_) (fun c1 => ?_)
  · have hf := sm_ifF c1 hf
    obtain rfl := sm_ret1 hf
    exact sm_vret d_re_fail_38 rfl
  · have hf := sm_ifT c1 hf
    refine sm_aload_n 0 rfl d_re_fail_7 ?_
    refine sm_iload_n 1 rfl d_re_fail_8 ?_
    refine sm_putI fp_re_36 e0 rfl rfl d_re_fail_9 ?_
    refine sm_nmH (fun g2 w3 => ?_)
    have hf := sm_letV w3 hf
    refine sm_aload_n 0 rfl d_re_fail_12 ?_
    refine sm_aload_n 0 rfl d_re_fail_13 ?_
    refine sm_getR (n := 1) fl_re_12 e0 rfl d_re_fail_14 ?_
    refine sm_getR (n := 3) fl_re_53 (sm_inner e0 0 rfl rfl rfl) rfl d_re_fail_17 ?_
    refine sm_aload_n 0 rfl d_re_fail_20 ?_
    refine sm_getR (n := 1) fl_re_12 e0 rfl d_re_fail_21 ?_
    refine sm_getI fl_re_50 (sm_inner e0 0 rfl rfl rfl) rfl d_re_fail_24 ?_
    obtain ⟨c4, hf⟩ := sm_gdE hf
    refine sm_iald (sm_at_arr (sm_inner (sm_inner e0 0 rfl rfl rfl) 3 rfl rfl rfl)) c4 d_re_fail_27 ?_
    refine sm_putI fp_re_25 e0 rfl rfl d_re_fail_28 ?_
    refine sm_nmH (fun g5 w6 => ?_)
    have hf := sm_letV w6 hf
    refine sm_aload_n 0 rfl d_re_fail_31 ?_
    refine sm_getR (n := 1) fl_re_12 e0 rfl d_re_fail_32 ?_
    obtain ⟨g7, c8, hf⟩ := sm_bindE hf
    refine sm_callV (As := []) (rv := none) (h1 := g7) (c := 8) cvv_re_56 rfl rfl (sm_inner e0 0 rfl rfl rfl) (m_te_stop l lo hi _ (sm_inner e0 0 rfl rfl rfl) c8) rfl rfl d_re_fail_35 ?_
    obtain rfl := sm_ret1 hf
    exact sm_vret d_re_fail_38 rfl
theorem d_te_advance_0 : decode q_te_advance.2.1 0 = .ok (.aload_n 0, 1) := by decide +kernel
theorem d_te_advance_1 : decode q_te_advance.2.1 1 = .ok (.getfield 35, 3) := by decide +kernel
theorem d_te_advance_4 : decode q_te_advance.2.1 4 = .ok (.aload_n 0, 1) := by decide +kernel
theorem d_te_advance_5 : decode q_te_advance.2.1 5 = .ok (.getfield 32, 3) := by decide +kernel
theorem d_te_advance_8 : decode q_te_advance.2.1 8 = .ok (.iconst 1, 1) := by decide +kernel
theorem d_te_advance_9 : decode q_te_advance.2.1 9 = .ok (.isub, 1) := by decide +kernel
theorem d_te_advance_10 : decode q_te_advance.2.1 10 = .ok (.if_icmp .ge 13, 3) := by decide +kernel
theorem d_te_advance_13 : decode q_te_advance.2.1 13 = .ok (.aload_n 0, 1) := by decide +kernel
theorem d_te_advance_14 : decode q_te_advance.2.1 14 = .ok (.dup, 1) := by decide +kernel
theorem d_te_advance_15 : decode q_te_advance.2.1 15 = .ok (.getfield 35, 3) := by decide +kernel
theorem d_te_advance_18 : decode q_te_advance.2.1 18 = .ok (.iconst 1, 1) := by decide +kernel
theorem d_te_advance_19 : decode q_te_advance.2.1 19 = .ok (.iadd, 1) := by decide +kernel
theorem d_te_advance_20 : decode q_te_advance.2.1 20 = .ok (.putfield 35, 3) := by decide +kernel
theorem d_te_advance_23 : decode q_te_advance.2.1 23 = .ok (.return_, 1) := by decide +kernel
theorem m_te_advance (l : Launch) (lo hi d : Nat) {a0 : Nat} {h h' : sm_H} (e0 : sm_at lo hi (0, 8, 0) a0) (hf : f_te_advance a0 h = some h') : sm_Met l lo hi (d) q_te_advance [.ref a0] h none h' := by
  refine sm_Met.of (by decide +kernel) rfl ?_
  show sm_W l lo hi (d) q_te_advance 0 [(0, .ref a0)] [] h none h'
  unfold f_te_advance at hf
  refine sm_aload_n 0 rfl d_te_advance_0 ?_
  refine sm_getI fl_te_35 e0 rfl d_te_advance_1 ?_
  refine sm_aload_n 0 rfl d_te_advance_4 ?_
  refine sm_getI fl_te_32 e0 rfl d_te_advance_5 ?_
  refine sm_iconst (v := 1) (by decide) d_te_advance_8 ?_
  refine sm_isub d_te_advance_9 ?_
  refine sm_icmp_ge 23 d_te_advance_10 rfl (fun c1 => ?_) (fun c1 => ?_)
  · have hf := sm_ifT c1 hf
    obtain rfl := sm_ret1 hf
    exact sm_vret d_te_advance_23 rfl
  · have hf := sm_ifF c1 hf
    refine sm_aload_n 0 rfl d_te_advance_13 ?_
    refine sm_dup rfl d_te_advance_14 ?_
    refine sm_getI fl_te_35 e0 rfl d_te_advance_15 ?_
    refine sm_iconst (v := 1) (by decide) d_te_advance_18 ?_
    refine sm_iadd d_te_advance_19 ?_
    refine sm_putI fp_te_35 e0 rfl rfl d_te_advance_20 ?_
    refine sm_nmH (fun g2 w3 => ?_)
    have hf := sm_letV w3 hf
    obtain rfl := sm_ret1 hf
    exact sm_vret d_te_advance_23 rfl
theorem d_te_isWord_0 : decode q_te_isWord.2.1 0 = .ok (.aload_n 0, 1) := by decide +kernel
theorem d_te_isWord_1 : decode q_te_isWord.2.1 1 = .ok (.getfield 15, 3) := by decide +kernel
theorem d_te_isWord_4 : decode q_te_isWord.2.1 4 = .ok (.aload_n 0, 1) := by decide +kernel
theorem d_te_isWord_5 : decode q_te_isWord.2.1 5 = .ok (.getfield 35, 3) := by decide +kernel
theorem d_te_isWord_8 : decode q_te_isWord.2.1 8 = .ok (.iaload, 1) := by decide +kernel
theorem d_te_isWord_9 : decode q_te_isWord.2.1 9 = .ok (.iconst 1, 1) := by decide +kernel
theorem d_te_isWord_10 : decode q_te_isWord.2.1 10 = .ok (.if_icmp .ne 19, 3) := by decide +kernel
theorem d_te_isWord_13 : decode q_te_isWord.2.1 13 = .ok (.aload_n 0, 1) := by decide +kernel
theorem d_te_isWord_14 : decode q_te_isWord.2.1 14 = .ok (.getfield 22, 3) := by decide +kernel
theorem d_te_isWord_17 : decode q_te_isWord.2.1 17 = .ok (.aload_n 0, 1) := by decide +kernel
theorem d_te_isWord_18 : decode q_te_isWord.2.1 18 = .ok (.getfield 35, 3) := by decide +kernel
theorem d_te_isWord_21 : decode q_te_isWord.2.1 21 = .ok (.iaload, 1) := by decide +kernel
theorem d_te_isWord_22 : decode q_te_isWord.2.1 22 = .ok (.aload_n 1, 1) := by decide +kernel
theorem d_te_isWord_23 : decode q_te_isWord.2.1 23 = .ok (.invokevirtual 54, 3) := by decide +kernel
theorem d_te_isWord_26 : decode q_te_isWord.2.1 26 = .ok (.if_icmp .eq 5, 3) := by decide +kernel
theorem d_te_isWord_29 : decode q_te_isWord.2.1 29 = .ok (.iconst 0, 1) := by decide +kernel
theorem d_te_isWord_30 : decode q_te_isWord.2.1 30 = .ok (.ireturn, 1) := by decide +kernel
theorem d_te_isWord_31 : decode q_te_isWord.2.1 31 = .ok (.aload_n 0, 1) := by decide +kernel
theorem d_te_isWord_32 : decode q_te_isWord.2.1 32 = .ok (.getfield 19, 3) := by decide +kernel
theorem d_te_isWord_35 : decode q_te_isWord.2.1 35 = .ok (.aload_n 0, 1) := by decide +kernel
theorem d_te_isWord_36 : decode q_te_isWord.2.1 36 = .ok (.getfield 35, 3) := by decide +kernel
theorem d_te_isWord_39 : decode q_te_isWord.2.1 39 = .ok (.iaload, 1) := by decide +kernel
theorem d_te_isWord_40 : decode q_te_isWord.2.1 40 = .ok (.istore_n 2, 1) := by decide +kernel
theorem d_te_isWord_41 : decode q_te_isWord.2.1 41 = .ok (.iconst 0, 1) := by decide +kernel
theorem d_te_isWord_42 : decode q_te_isWord.2.1 42 = .ok (.istore_n 3, 1) := by decide +kernel
theorem d_te_isWord_43 : decode q_te_isWord.2.1 43 = .ok (.iload_n 3, 1) := by decide +kernel
theorem d_te_isWord_44 : decode q_te_isWord.2.1 44 = .ok (.aload_n 1, 1) := by decide +kernel
theorem d_te_isWord_45 : decode q_te_isWord.2.1 45 = .ok (.invokevirtual 54, 3) := by decide +kernel
theorem d_te_isWord_48 : decode q_te_isWord.2.1 48 = .ok (.if_icmp .ge 36, 3) := by decide +kernel
theorem d_te_isWord_51 : decode q_te_isWord.2.1 51 = .ok (.iload_n 2, 1) := by decide +kernel
theorem d_te_isWord_52 : decode q_te_isWord.2.1 52 = .ok (.iload_n 3, 1) := by decide +kernel
theorem d_te_isWord_53 : decode q_te_isWord.2.1 53 = .ok (.iadd, 1) := by decide +kernel
theorem d_te_isWord_54 : decode q_te_isWord.2.1 54 = .ok (.sipush 900, 3) := by decide +kernel
theorem d_te_isWord_57 : decode q_te_isWord.2.1 57 = .ok (.if_icmp .ge 27, 3) := by decide +kernel
theorem d_te_isWord_60 : decode q_te_isWord.2.1 60 = .ok (.aload_n 0, 1) := by decide +kernel
theorem d_te_isWord_61 : decode q_te_isWord.2.1 61 = .ok (.getfield 9, 3) := by decide +kernel
theorem d_te_isWord_64 : decode q_te_isWord.2.1 64 = .ok (.iload_n 2, 1) := by decide +kernel
theorem d_te_isWord_65 : decode q_te_isWord.2.1 65 = .ok (.iload_n 3, 1) := by decide +kernel
theorem d_te_isWord_66 : decode q_te_isWord.2.1 66 = .ok (.iadd, 1) := by decide +kernel
theorem d_te_isWord_67 : decode q_te_isWord.2.1 67 = .ok (.baload, 1) := by decide +kernel
theorem d_te_isWord_68 : decode q_te_isWord.2.1 68 = .ok (.aload_n 1, 1) := by decide +kernel
theorem d_te_isWord_69 : decode q_te_isWord.2.1 69 = .ok (.iload_n 3, 1) := by decide +kernel
theorem d_te_isWord_70 : decode q_te_isWord.2.1 70 = .ok (.invokevirtual 60, 3) := by decide +kernel
theorem d_te_isWord_73 : decode q_te_isWord.2.1 73 = .ok (.if_icmp .eq 5, 3) := by decide +kernel
theorem d_te_isWord_76 : decode q_te_isWord.2.1 76 = .ok (.iconst 0, 1) := by decide +kernel
theorem d_te_isWord_77 : decode q_te_isWord.2.1 77 = .ok (.ireturn, 1) := by decide +kernel
theorem d_te_isWord_78 : decode q_te_isWord.2.1 78 = .ok (.iinc 3 1, 3) := by decide +kernel
theorem d_te_isWord_81 : decode q_te_isWord.2.1 81 = .ok (.goto (-38), 3) := by decide +kernel
theorem d_te_isWord_84 : decode q_te_isWord.2.1 84 = .ok (.iconst 1, 1) := by decide +kernel
theorem d_te_isWord_85 : decode q_te_isWord.2.1 85 = .ok (.ireturn, 1) := by decide +kernel
theorem w_te_isWord_L43 (l : Launch) (lo hi d : Nat) {h' : sm_H} {r0 : Int32} : ∀ (n : Nat) (a0 : Nat) (a1 : Nat) (a2 : Int32) (a3 : Int32) (h : sm_H) (e0 : sm_at lo hi (0, 8, 0) a0) (e1 : Nat.ble (a1 + 1) 28 = true) (hf : f_te_isWord_L43 n a0 a1 a2 a3 h = some (r0, h')), sm_W l lo hi (d + 4) q_te_isWord 43 [(0, .ref a0), (1, .ref (5000 + a1)), (2, .int a2), (3, .int a3)] [] h (some (.int r0)) h' := by
  intro n
  induction n with
  | zero =>
    intro a0 a1 a2 a3 h e0 e1 hf
    have z : (none : Option (Int32 × sm_H)) = some _ := hf
    cases z
  | succ n ih =>
    intro a0 a1 a2 a3 h e0 e1 hf
    unfold f_te_isWord_L43 at hf
    refine sm_iload_n 3 rfl d_te_isWord_43 ?_
    refine sm_aload_n 1 rfl d_te_isWord_44 ?_
    refine sm_callJ (As := []) (rv := some (.int (nI (sm_sln a1)))) (h1 := h) cvv_te_54 (e1) (m_js_length l lo hi _ e1) rfl rfl d_te_isWord_45 ?_
    refine sm_icmp_ge 84 d_te_isWord_48 rfl (fun c8 => ?_) (fun c8 => ?_)
    · have hf := sm_ifT c8 hf
      refine sm_iconst (v := 1) (by decide) d_te_isWord_84 ?_
      obtain ⟨rfl, rfl⟩ := sm_ret2 hf
      exact sm_bret (by decide) d_te_isWord_85 rfl
    · have hf := sm_ifF c8 hf
      refine sm_iload_n 2 rfl d_te_isWord_51 ?_
      refine sm_iload_n 3 rfl d_te_isWord_52 ?_
      refine sm_iadd d_te_isWord_53 ?_
      refine sm_sipush (v := 900) (by decide) d_te_isWord_54 ?_
      refine sm_icmp_ge 84 d_te_isWord_57 rfl (fun c9 => ?_) (fun c9 => ?_)
      · have hf := sm_ifT c9 hf
        refine sm_iconst (v := 1) (by decide) d_te_isWord_84 ?_
        obtain ⟨rfl, rfl⟩ := sm_ret2 hf
        exact sm_bret (by decide) d_te_isWord_85 rfl
      · have hf := sm_ifF c9 hf
        refine sm_aload_n 0 rfl d_te_isWord_60 ?_
        refine sm_getR (n := 1) fl_te_9 e0 rfl d_te_isWord_61 ?_
        refine sm_iload_n 2 rfl d_te_isWord_64 ?_
        refine sm_iload_n 3 rfl d_te_isWord_65 ?_
        refine sm_iadd d_te_isWord_66 ?_
        obtain ⟨c10, hf⟩ := sm_gdE hf
        refine sm_bald (sm_at_arr (sm_inner e0 0 rfl rfl rfl)) c10 d_te_isWord_67 ?_
        refine sm_aload_n 1 rfl d_te_isWord_68 ?_
        refine sm_iload_n 3 rfl d_te_isWord_69 ?_
        obtain ⟨c11, hf⟩ := sm_gdE hf
        refine sm_callJ (As := [.int a3]) (rv := some (.int (sm_sch a1 (a3 : Int32).toNatClampNeg))) (h1 := h) cvv_te_60 (e1) (m_js_charAt l lo hi _ e1 c11) rfl rfl d_te_isWord_70 ?_
        refine sm_icmp_eq 78 d_te_isWord_73 rfl (fun c12 => ?_) (fun c12 => ?_)
        · have hf := sm_ifT c12 hf
          obtain ⟨x13, w14⟩ : ∃ v : Int32, v = a3 + 1 := ⟨_, rfl⟩
          have hf := sm_letV w14 hf
          refine sm_iinc (v := x13) (lv' := [(3, .int x13), (0, .ref a0), (1, .ref (5000 + a1)), (2, .int a2)]) 3 rfl (by rw [w14]; rfl) d_te_isWord_78 rfl rfl ?_
          refine sm_goto 43 d_te_isWord_81 rfl ?_
          refine sm_sub [1, 2, 3, 0] rfl ?_
          exact ih _ _ _ _ _ e0 e1 hf
        · have hf := sm_ifF c12 hf
          refine sm_iconst (v := 0) (by decide) d_te_isWord_76 ?_
          obtain ⟨rfl, rfl⟩ := sm_ret2 hf
          exact sm_bret (by decide) d_te_isWord_77 rfl
theorem m_te_isWord (l : Launch) (lo hi d : Nat) {a0 : Nat} {a1 : Nat} {r0 : Int32} {h h' : sm_H} (e0 : sm_at lo hi (0, 8, 0) a0) (e1 : Nat.ble (a1 + 1) 28 = true) (hf : f_te_isWord a0 a1 h = some (r0, h')) : sm_Met l lo hi (d + 4) q_te_isWord [.ref a0, .ref (5000 + a1)] h (some (.int r0)) h' := by
  refine sm_Met.of (by decide +kernel) rfl ?_
  show sm_W l lo hi (d + 4) q_te_isWord 0 [(0, .ref a0), (1, .ref (5000 + a1))] [] h (some (.int r0)) h'
  unfold f_te_isWord at hf
  refine sm_aload_n 0 rfl d_te_isWord_0 ?_
  refine sm_getR (n := 2) fl_te_15 e0 rfl d_te_isWord_1 ?_
  refine sm_aload_n 0 rfl d_te_isWord_4 ?_
  refine sm_getI fl_te_35 e0 rfl d_te_isWord_5 ?_
  obtain ⟨c1, hf⟩ := sm_gdE hf
  refine sm_iald (sm_at_arr (sm_inner e0 2 rfl rfl rfl)) c1 d_te_isWord_8 ?_
  refine sm_iconst (v := 1) (by decide) d_te_isWord_9 ?_
  refine sm_icmp_ne 29 d_te_isWord_10 rfl (fun c2 => ?_) (fun c2 => ?_)
  · have hf := sm_ifF c2 hf
    refine sm_iconst (v := 0) (by decide) d_te_isWord_29 ?_
    obtain ⟨rfl, rfl⟩ := sm_ret2 hf
    exact sm_bret (by decide) d_te_isWord_30 rfl
  · have hf := sm_ifT c2 hf
    refine sm_aload_n 0 rfl d_te_isWord_13 ?_
    refine sm_getR (n := 4) fl_te_22 e0 rfl d_te_isWord_14 ?_
    refine sm_aload_n 0 rfl d_te_isWord_17 ?_
    refine sm_getI fl_te_35 e0 rfl d_te_isWord_18 ?_
    obtain ⟨c3, hf⟩ := sm_gdE hf
    refine sm_iald (sm_at_arr (sm_inner e0 4 rfl rfl rfl)) c3 d_te_isWord_21 ?_
    refine sm_aload_n 1 rfl d_te_isWord_22 ?_
    refine sm_callJ (As := []) (rv := some (.int (nI (sm_sln a1)))) (h1 := h) cvv_te_54 (e1) (m_js_length l lo hi _ e1) rfl rfl d_te_isWord_23 ?_
    refine sm_icmp_eq 31 d_te_isWord_26 rfl (fun c4 => ?_) (fun c4 => ?_)
    · have hf := sm_ifT c4 hf
      refine sm_aload_n 0 rfl d_te_isWord_31 ?_
      refine sm_getR (n := 3) fl_te_19 e0 rfl d_te_isWord_32 ?_
      refine sm_aload_n 0 rfl d_te_isWord_35 ?_
      refine sm_getI fl_te_35 e0 rfl d_te_isWord_36 ?_
      obtain ⟨c5, hf⟩ := sm_gdE hf
      refine sm_iald (sm_at_arr (sm_inner e0 3 rfl rfl rfl)) c5 d_te_isWord_39 ?_
      refine sm_nmI (fun x6 w7 => ?_)
      have hf := sm_letV w7 hf
      refine sm_istore_n (lv' := [(2, .int x6), (0, .ref a0), (1, .ref (5000 + a1))]) d_te_isWord_40 rfl rfl ?_
      refine sm_iconst (v := 0) (by decide) d_te_isWord_41 ?_
      refine sm_istore_n (lv' := [(3, .int 0), (2, .int x6), (0, .ref a0), (1, .ref (5000 + a1))]) d_te_isWord_42 rfl rfl ?_
      refine sm_sub [2, 3, 1, 0] rfl ?_
      exact w_te_isWord_L43 l lo hi d sm_N _ _ _ _ _ e0 e1 hf
    · have hf := sm_ifF c4 hf
      refine sm_iconst (v := 0) (by decide) d_te_isWord_29 ?_
      obtain ⟨rfl, rfl⟩ := sm_ret2 hf
      exact sm_bret (by decide) d_te_isWord_30 rfl
theorem d_re_takeWord_0 : decode q_re_takeWord.2.1 0 = .ok (.aload_n 0, 1) := by decide +kernel
theorem d_re_takeWord_1 : decode q_re_takeWord.2.1 1 = .ok (.getfield 12, 3) := by decide +kernel
theorem d_re_takeWord_4 : decode q_re_takeWord.2.1 4 = .ok (.aload_n 1, 1) := by decide +kernel
theorem d_re_takeWord_5 : decode q_re_takeWord.2.1 5 = .ok (.invokevirtual 59, 3) := by decide +kernel
theorem d_re_takeWord_8 : decode q_re_takeWord.2.1 8 = .ok (.istore_n 2, 1) := by decide +kernel
theorem d_re_takeWord_9 : decode q_re_takeWord.2.1 9 = .ok (.iload_n 2, 1) := by decide +kernel
theorem d_re_takeWord_10 : decode q_re_takeWord.2.1 10 = .ok (.ifCond .eq 10, 3) := by decide +kernel
theorem d_re_takeWord_13 : decode q_re_takeWord.2.1 13 = .ok (.aload_n 0, 1) := by decide +kernel
theorem d_re_takeWord_14 : decode q_re_takeWord.2.1 14 = .ok (.getfield 12, 3) := by decide +kernel
theorem d_re_takeWord_17 : decode q_re_takeWord.2.1 17 = .ok (.invokevirtual 63, 3) := by decide +kernel
theorem d_re_takeWord_20 : decode q_re_takeWord.2.1 20 = .ok (.iload_n 2, 1) := by decide +kernel
theorem d_re_takeWord_21 : decode q_re_takeWord.2.1 21 = .ok (.ireturn, 1) := by decide +kernel
theorem w_re_takeWord_L20 (l : Launch) (lo hi d : Nat) {h' : sm_H} {r0 : Int32} (a2 : Int32) (h : sm_H) (hf : f_re_takeWord_L20 a2 h = some (r0, h')) : sm_W l lo hi (d + 5) q_re_takeWord 20 [(2, .int a2)] [] h (some (.int r0)) h' := by
  unfold f_re_takeWord_L20 at hf
  refine sm_iload_n 0 rfl d_re_takeWord_20 ?_
  obtain ⟨c7, hf⟩ := sm_gdE hf
  obtain ⟨rfl, rfl⟩ := sm_ret2 hf
  exact sm_bret c7 d_re_takeWord_21 rfl
theorem m_re_takeWord (l : Launch) (lo hi d : Nat) {a0 : Nat} {a1 : Nat} {r0 : Int32} {h h' : sm_H} (e0 : sm_at lo hi (0, 5, 0) a0) (e1 : Nat.ble (a1 + 1) 28 = true) (hf : f_re_takeWord a0 a1 h = some (r0, h')) : sm_Met l lo hi (d + 5) q_re_takeWord [.ref a0, .ref (5000 + a1)] h (some (.int r0)) h' := by
  refine sm_Met.of (by decide +kernel) rfl ?_
  show sm_W l lo hi (d + 5) q_re_takeWord 0 [(0, .ref a0), (1, .ref (5000 + a1))] [] h (some (.int r0)) h'
  unfold f_re_takeWord at hf
  refine sm_aload_n 0 rfl d_re_takeWord_0 ?_
  refine sm_getR (n := 1) fl_re_12 e0 rfl d_re_takeWord_1 ?_
  refine sm_aload_n 1 rfl d_re_takeWord_4 ?_
  obtain ⟨r1, g2, c3, hf⟩ := sm_b2E hf
  refine sm_callV (As := [.ref (5000 + a1)]) (rv := some (.int r1)) (h1 := g2) (c := 8) cvv_re_59 rfl rfl (sm_inner e0 0 rfl rfl rfl) (m_te_isWord l lo hi _ (sm_inner e0 0 rfl rfl rfl) e1 c3) rfl rfl d_re_takeWord_5 ?_
  refine sm_istore_n (lv' := [(2, .int r1), (0, .ref a0), (1, .ref (5000 + a1))]) d_re_takeWord_8 rfl rfl ?_
  refine sm_iload_n 0 rfl d_re_takeWord_9 ?_
  refine sm_if_eq 20 d_re_takeWord_10 rfl (fun c4 => ?_) (fun c4 => ?_)
  · have hf := sm_ifT c4 hf
    refine sm_sub [0] rfl ?_
    exact w_re_takeWord_L20 l lo hi d _ _ hf
  · have hf := sm_ifF c4 hf
    refine sm_aload_n 1 rfl d_re_takeWord_13 ?_
    refine sm_getR (n := 1) fl_re_12 e0 rfl d_re_takeWord_14 ?_
    obtain ⟨g5, c6, hf⟩ := sm_bindE hf
    refine sm_callV (As := []) (rv := none) (h1 := g5) (c := 8) cvv_re_63 rfl rfl (sm_inner e0 0 rfl rfl rfl) (m_te_advance l lo hi _ (sm_inner e0 0 rfl rfl rfl) c6) rfl rfl d_re_takeWord_17 ?_
    refine sm_sub [0] rfl ?_
    exact w_re_takeWord_L20 l lo hi d _ _ hf
theorem d_re_airKind_0 : decode q_re_airKind.2.1 0 = .ok (.aload_n 0, 1) := by decide +kernel
theorem d_re_airKind_1 : decode q_re_airKind.2.1 1 = .ok (.ldc 143, 2) := by decide +kernel
theorem d_re_airKind_3 : decode q_re_airKind.2.1 3 = .ok (.invokevirtual 79, 3) := by decide +kernel
theorem d_re_airKind_6 : decode q_re_airKind.2.1 6 = .ok (.ifCond .eq 5, 3) := by decide +kernel
theorem d_re_airKind_9 : decode q_re_airKind.2.1 9 = .ok (.iconst 0, 1) := by decide +kernel
theorem d_re_airKind_10 : decode q_re_airKind.2.1 10 = .ok (.ireturn, 1) := by decide +kernel
theorem d_re_airKind_11 : decode q_re_airKind.2.1 11 = .ok (.aload_n 0, 1) := by decide +kernel
theorem d_re_airKind_12 : decode q_re_airKind.2.1 12 = .ok (.ldc 145, 2) := by decide +kernel
theorem d_re_airKind_14 : decode q_re_airKind.2.1 14 = .ok (.invokevirtual 79, 3) := by decide +kernel
theorem d_re_airKind_17 : decode q_re_airKind.2.1 17 = .ok (.ifCond .ne 8, 3) := by decide +kernel
theorem d_re_airKind_20 : decode q_re_airKind.2.1 20 = .ok (.aload_n 0, 1) := by decide +kernel
theorem d_re_airKind_21 : decode q_re_airKind.2.1 21 = .ok (.iconst 1, 1) := by decide +kernel
theorem d_re_airKind_22 : decode q_re_airKind.2.1 22 = .ok (.invokevirtual 73, 3) := by decide +kernel
theorem d_re_airKind_25 : decode q_re_airKind.2.1 25 = .ok (.iconst 1, 1) := by decide +kernel
theorem d_re_airKind_26 : decode q_re_airKind.2.1 26 = .ok (.ireturn, 1) := by decide +kernel
theorem m_re_airKind (l : Launch) (lo hi d : Nat) {a0 : Nat} {r0 : Int32} {h h' : sm_H} (e0 : sm_at lo hi (0, 5, 0) a0) (hf : f_re_airKind a0 h = some (r0, h')) : sm_Met l lo hi (d + 6) q_re_airKind [.ref a0] h (some (.int r0)) h' := by
  refine sm_Met.of (by decide +kernel) rfl ?_
  show sm_W l lo hi (d + 6) q_re_airKind 0 [(0, .ref a0)] [] h (some (.int r0)) h'
  unfold f_re_airKind at hf
  refine sm_aload_n 0 rfl d_re_airKind_0 ?_
  refine sm_ldcS 2 (z := (143, "supply")) rfl rfl d_re_airKind_1 ?_
  obtain ⟨r1, g2, c3, hf⟩ := sm_b2E hf
  refine sm_callV (As := [.ref (5000 + 2)]) (rv := some (.int r1)) (h1 := g2) (c := 5) cvv_re_79 rfl rfl e0 (m_re_takeWord l lo hi _ e0 rfl c3) rfl rfl d_re_airKind_3 ?_
  refine sm_if_eq 11 d_re_airKind_6 rfl (fun c4 => ?_) (fun c4 => ?_)
  · have hf := sm_ifT c4 hf
    refine sm_aload_n 0 rfl d_re_airKind_11 ?_
    refine sm_ldcS 3 (z := (145, "exhaust")) rfl rfl d_re_airKind_12 ?_
    obtain ⟨r5, g6, c7, hf⟩ := sm_b2E hf
    refine sm_callV (As := [.ref (5000 + 3)]) (rv := some (.int r5)) (h1 := g6) (c := 5) cvv_re_79 rfl rfl e0 (m_re_takeWord l lo hi _ e0 rfl c7) rfl rfl d_re_airKind_14 ?_
    refine sm_if_ne 25 d_re_airKind_17 rfl (fun c8 => ?_) (fun c8 => ?_)
    · have hf := sm_ifF c8 hf
      refine sm_iconst (v := 1) (by decide) d_re_airKind_25 ?_
      obtain ⟨rfl, rfl⟩ := sm_ret2 hf
      exact sm_iret d_re_airKind_26 rfl
    · have hf := sm_ifT c8 hf
      refine sm_aload_n 0 rfl d_re_airKind_20 ?_
      refine sm_iconst (v := 1) (by decide) d_re_airKind_21 ?_
      obtain ⟨g9, c10, hf⟩ := sm_bindE hf
      refine sm_callV (As := [.int 1]) (rv := none) (h1 := g9) (c := 5) cvv_re_73 rfl rfl e0 (m_re_fail l lo hi _ e0 c10) rfl rfl d_re_airKind_22 ?_
      refine sm_iconst (v := 1) (by decide) d_re_airKind_25 ?_
      obtain ⟨rfl, rfl⟩ := sm_ret2 hf
      exact sm_iret d_re_airKind_26 rfl
  · have hf := sm_ifF c4 hf
    refine sm_iconst (v := 0) (by decide) d_re_airKind_9 ?_
    obtain ⟨rfl, rfl⟩ := sm_ret2 hf
    exact sm_iret d_re_airKind_10 rfl
theorem d_re_needNumber_0 : decode q_re_needNumber.2.1 0 = .ok (.aload_n 0, 1) := by decide +kernel
theorem d_re_needNumber_1 : decode q_re_needNumber.2.1 1 = .ok (.getfield 12, 3) := by decide +kernel
theorem d_re_needNumber_4 : decode q_re_needNumber.2.1 4 = .ok (.getfield 76, 3) := by decide +kernel
theorem d_re_needNumber_7 : decode q_re_needNumber.2.1 7 = .ok (.aload_n 0, 1) := by decide +kernel
theorem d_re_needNumber_8 : decode q_re_needNumber.2.1 8 = .ok (.getfield 12, 3) := by decide +kernel
theorem d_re_needNumber_11 : decode q_re_needNumber.2.1 11 = .ok (.getfield 50, 3) := by decide +kernel
theorem d_re_needNumber_14 : decode q_re_needNumber.2.1 14 = .ok (.iaload, 1) := by decide +kernel
theorem d_re_needNumber_15 : decode q_re_needNumber.2.1 15 = .ok (.istore_n 3, 1) := by decide +kernel
theorem d_re_needNumber_16 : decode q_re_needNumber.2.1 16 = .ok (.aload_n 0, 1) := by decide +kernel
theorem d_re_needNumber_17 : decode q_re_needNumber.2.1 17 = .ok (.getfield 12, 3) := by decide +kernel
theorem d_re_needNumber_20 : decode q_re_needNumber.2.1 20 = .ok (.getfield 46, 3) := by decide +kernel
theorem d_re_needNumber_23 : decode q_re_needNumber.2.1 23 = .ok (.aload_n 0, 1) := by decide +kernel
theorem d_re_needNumber_24 : decode q_re_needNumber.2.1 24 = .ok (.getfield 12, 3) := by decide +kernel
theorem d_re_needNumber_27 : decode q_re_needNumber.2.1 27 = .ok (.getfield 50, 3) := by decide +kernel
theorem d_re_needNumber_30 : decode q_re_needNumber.2.1 30 = .ok (.iaload, 1) := by decide +kernel
theorem d_re_needNumber_31 : decode q_re_needNumber.2.1 31 = .ok (.iconst 2, 1) := by decide +kernel
theorem d_re_needNumber_32 : decode q_re_needNumber.2.1 32 = .ok (.if_icmp .eq 10, 3) := by decide +kernel
theorem d_re_needNumber_35 : decode q_re_needNumber.2.1 35 = .ok (.aload_n 0, 1) := by decide +kernel
theorem d_re_needNumber_36 : decode q_re_needNumber.2.1 36 = .ok (.iconst 1, 1) := by decide +kernel
theorem d_re_needNumber_37 : decode q_re_needNumber.2.1 37 = .ok (.invokevirtual 73, 3) := by decide +kernel
theorem d_re_needNumber_40 : decode q_re_needNumber.2.1 40 = .ok (.iload_n 1, 1) := by decide +kernel
theorem d_re_needNumber_41 : decode q_re_needNumber.2.1 41 = .ok (.ireturn, 1) := by decide +kernel
theorem d_re_needNumber_42 : decode q_re_needNumber.2.1 42 = .ok (.iload_n 3, 1) := by decide +kernel
theorem d_re_needNumber_43 : decode q_re_needNumber.2.1 43 = .ok (.iload_n 1, 1) := by decide +kernel
theorem d_re_needNumber_44 : decode q_re_needNumber.2.1 44 = .ok (.if_icmp .lt 8, 3) := by decide +kernel
theorem d_re_needNumber_47 : decode q_re_needNumber.2.1 47 = .ok (.iload_n 3, 1) := by decide +kernel
theorem d_re_needNumber_48 : decode q_re_needNumber.2.1 48 = .ok (.iload_n 2, 1) := by decide +kernel
theorem d_re_needNumber_49 : decode q_re_needNumber.2.1 49 = .ok (.if_icmp .le 10, 3) := by decide +kernel
theorem d_re_needNumber_52 : decode q_re_needNumber.2.1 52 = .ok (.aload_n 0, 1) := by decide +kernel
theorem d_re_needNumber_53 : decode q_re_needNumber.2.1 53 = .ok (.iconst 2, 1) := by decide +kernel
theorem d_re_needNumber_54 : decode q_re_needNumber.2.1 54 = .ok (.invokevirtual 73, 3) := by decide +kernel
theorem d_re_needNumber_57 : decode q_re_needNumber.2.1 57 = .ok (.iload_n 1, 1) := by decide +kernel
theorem d_re_needNumber_58 : decode q_re_needNumber.2.1 58 = .ok (.ireturn, 1) := by decide +kernel
theorem d_re_needNumber_59 : decode q_re_needNumber.2.1 59 = .ok (.aload_n 0, 1) := by decide +kernel
theorem d_re_needNumber_60 : decode q_re_needNumber.2.1 60 = .ok (.getfield 12, 3) := by decide +kernel
theorem d_re_needNumber_63 : decode q_re_needNumber.2.1 63 = .ok (.invokevirtual 63, 3) := by decide +kernel
theorem d_re_needNumber_66 : decode q_re_needNumber.2.1 66 = .ok (.iload_n 3, 1) := by decide +kernel
theorem d_re_needNumber_67 : decode q_re_needNumber.2.1 67 = .ok (.ireturn, 1) := by decide +kernel
theorem w_re_needNumber_L52 (l : Launch) (lo hi d : Nat) {h' : sm_H} {r0 : Int32} (a0 : Nat) (a1 : Int32) (h : sm_H) (e0 : sm_at lo hi (0, 5, 0) a0) (hf : f_re_needNumber_L52 a0 a1 h = some (r0, h')) : sm_W l lo hi (d + 2) q_re_needNumber 52 [(0, .ref a0), (1, .int a1)] [] h (some (.int r0)) h' := by
  unfold f_re_needNumber_L52 at hf
  refine sm_aload_n 0 rfl d_re_needNumber_52 ?_
  refine sm_iconst (v := 2) (by decide) d_re_needNumber_53 ?_
  obtain ⟨g12, c13, hf⟩ := sm_bindE hf
  refine sm_callV (As := [.int 2]) (rv := none) (h1 := g12) (c := 5) cvv_re_73 rfl rfl e0 (m_re_fail l lo hi _ e0 c13) rfl rfl d_re_needNumber_54 ?_
  refine sm_iload_n 1 rfl d_re_needNumber_57 ?_
  obtain ⟨rfl, rfl⟩ := sm_ret2 hf
  exact sm_iret d_re_needNumber_58 rfl
theorem m_re_needNumber (l : Launch) (lo hi d : Nat) {a0 : Nat} {a1 : Int32} {a2 : Int32} {r0 : Int32} {h h' : sm_H} (e0 : sm_at lo hi (0, 5, 0) a0) (hf : f_re_needNumber a0 a1 a2 h = some (r0, h')) : sm_Met l lo hi (d + 2) q_re_needNumber [.ref a0, .int a1, .int a2] h (some (.int r0)) h' := by
  refine sm_Met.of (by decide +kernel) rfl ?_
  show sm_W l lo hi (d + 2) q_re_needNumber 0 [(0, .ref a0), (1, .int a1), (2, .int a2)] [] h (some (.int r0)) h'
  unfold f_re_needNumber at hf
  refine sm_aload_n 0 rfl d_re_needNumber_0 ?_
  refine sm_getR (n := 1) fl_re_12 e0 rfl d_re_needNumber_1 ?_
  refine sm_getR (n := 5) fl_re_76 (sm_inner e0 0 rfl rfl rfl) rfl d_re_needNumber_4 ?_
  refine sm_aload_n 0 rfl d_re_needNumber_7 ?_
  refine sm_getR (n := 1) fl_re_12 e0 rfl d_re_needNumber_8 ?_
  refine sm_getI fl_re_50 (sm_inner e0 0 rfl rfl rfl) rfl d_re_needNumber_11 ?_
  obtain ⟨c1, hf⟩ := sm_gdE hf
  refine sm_iald (sm_at_arr (sm_inner (sm_inner e0 0 rfl rfl rfl) 5 rfl rfl rfl)) c1 d_re_needNumber_14 ?_
  refine sm_nmI (fun x2 w3 => ?_)
  have hf := sm_letV w3 hf
  refine sm_istore_n (lv' := [(3, .int x2), (0, .ref a0), (1, .int a1), (2, .int a2)]) d_re_needNumber_15 rfl rfl ?_
  refine sm_aload_n 1 rfl d_re_needNumber_16 ?_
  refine sm_getR (n := 1) fl_re_12 e0 rfl d_re_needNumber_17 ?_
  refine sm_getR (n := 2) fl_re_46 (sm_inner e0 0 rfl rfl rfl) rfl d_re_needNumber_20 ?_
  refine sm_aload_n 1 rfl d_re_needNumber_23 ?_
  refine sm_getR (n := 1) fl_re_12 e0 rfl d_re_needNumber_24 ?_
  refine sm_getI fl_re_50 (sm_inner e0 0 rfl rfl rfl) rfl d_re_needNumber_27 ?_
  obtain ⟨c4, hf⟩ := sm_gdE hf
  refine sm_iald (sm_at_arr (sm_inner (sm_inner e0 0 rfl rfl rfl) 2 rfl rfl rfl)) c4 d_re_needNumber_30 ?_
  refine sm_iconst (v := 2) (by decide) d_re_needNumber_31 ?_
  refine sm_icmp_eq 42 d_re_needNumber_32 rfl (fun c5 => ?_) (fun c5 => ?_)
  · have hf := sm_ifT c5 hf
    refine sm_iload_n 0 rfl d_re_needNumber_42 ?_
    refine sm_iload_n 2 rfl d_re_needNumber_43 ?_
    refine sm_icmp_lt 52 d_re_needNumber_44 rfl (fun c6 => ?_) (fun c6 => ?_)
    · have hf := sm_ifT c6 hf
      refine sm_sub [1, 2] rfl ?_
      exact w_re_needNumber_L52 l lo hi d _ _ _ e0 hf
    · have hf := sm_ifF c6 hf
      refine sm_iload_n 0 rfl d_re_needNumber_47 ?_
      refine sm_iload_n 3 rfl d_re_needNumber_48 ?_
      refine sm_icmp_le 59 d_re_needNumber_49 rfl (fun c7 => ?_) (fun c7 => ?_)
      · have hf := sm_ifT c7 hf
        refine sm_aload_n 1 rfl d_re_needNumber_59 ?_
        refine sm_getR (n := 1) fl_re_12 e0 rfl d_re_needNumber_60 ?_
        obtain ⟨g8, c9, hf⟩ := sm_bindE hf
        refine sm_callV (As := []) (rv := none) (h1 := g8) (c := 8) cvv_re_63 rfl rfl (sm_inner e0 0 rfl rfl rfl) (m_te_advance l lo hi _ (sm_inner e0 0 rfl rfl rfl) c9) rfl rfl d_re_needNumber_63 ?_
        refine sm_iload_n 0 rfl d_re_needNumber_66 ?_
        obtain ⟨rfl, rfl⟩ := sm_ret2 hf
        exact sm_iret d_re_needNumber_67 rfl
      · have hf := sm_ifF c7 hf
        refine sm_sub [1, 2] rfl ?_
        exact w_re_needNumber_L52 l lo hi d _ _ _ e0 hf
  · have hf := sm_ifF c5 hf
    refine sm_aload_n 1 rfl d_re_needNumber_35 ?_
    refine sm_iconst (v := 1) (by decide) d_re_needNumber_36 ?_
    obtain ⟨g10, c11, hf⟩ := sm_bindE hf
    refine sm_callV (As := [.int 1]) (rv := none) (h1 := g10) (c := 5) cvv_re_73 rfl rfl e0 (m_re_fail l lo hi _ e0 c11) rfl rfl d_re_needNumber_37 ?_
    refine sm_iload_n 2 rfl d_re_needNumber_40 ?_
    obtain ⟨rfl, rfl⟩ := sm_ret2 hf
    exact sm_iret d_re_needNumber_41 rfl
theorem d_re_damperItem_0 : decode q_re_damperItem.2.1 0 = .ok (.aload_n 0, 1) := by decide +kernel
theorem d_re_damperItem_1 : decode q_re_damperItem.2.1 1 = .ok (.invokevirtual 147, 3) := by decide +kernel
theorem d_re_damperItem_4 : decode q_re_damperItem.2.1 4 = .ok (.istore_n 1, 1) := by decide +kernel
theorem d_re_damperItem_5 : decode q_re_damperItem.2.1 5 = .ok (.aload_n 0, 1) := by decide +kernel
theorem d_re_damperItem_6 : decode q_re_damperItem.2.1 6 = .ok (.iconst 0, 1) := by decide +kernel
theorem d_re_damperItem_7 : decode q_re_damperItem.2.1 7 = .ok (.aload_n 0, 1) := by decide +kernel
theorem d_re_damperItem_8 : decode q_re_damperItem.2.1 8 = .ok (.getfield 21, 3) := by decide +kernel
theorem d_re_damperItem_11 : decode q_re_damperItem.2.1 11 = .ok (.getfield 88, 3) := by decide +kernel
theorem d_re_damperItem_14 : decode q_re_damperItem.2.1 14 = .ok (.iconst 1, 1) := by decide +kernel
theorem d_re_damperItem_15 : decode q_re_damperItem.2.1 15 = .ok (.isub, 1) := by decide +kernel
theorem d_re_damperItem_16 : decode q_re_damperItem.2.1 16 = .ok (.invokevirtual 84, 3) := by decide +kernel
theorem d_re_damperItem_19 : decode q_re_damperItem.2.1 19 = .ok (.istore_n 2, 1) := by decide +kernel
theorem d_re_damperItem_20 : decode q_re_damperItem.2.1 20 = .ok (.aload_n 0, 1) := by decide +kernel
theorem d_re_damperItem_21 : decode q_re_damperItem.2.1 21 = .ok (.iconst 1, 1) := by decide +kernel
theorem d_re_damperItem_22 : decode q_re_damperItem.2.1 22 = .ok (.bipush 30, 2) := by decide +kernel
theorem d_re_damperItem_24 : decode q_re_damperItem.2.1 24 = .ok (.invokevirtual 84, 3) := by decide +kernel
theorem d_re_damperItem_27 : decode q_re_damperItem.2.1 27 = .ok (.istore_n 3, 1) := by decide +kernel
theorem d_re_damperItem_28 : decode q_re_damperItem.2.1 28 = .ok (.aload_n 0, 1) := by decide +kernel
theorem d_re_damperItem_29 : decode q_re_damperItem.2.1 29 = .ok (.ldc 151, 2) := by decide +kernel
theorem d_re_damperItem_31 : decode q_re_damperItem.2.1 31 = .ok (.invokevirtual 79, 3) := by decide +kernel
theorem d_re_damperItem_34 : decode q_re_damperItem.2.1 34 = .ok (.istore 4, 2) := by decide +kernel
theorem d_re_damperItem_36 : decode q_re_damperItem.2.1 36 = .ok (.aload_n 0, 1) := by decide +kernel
theorem d_re_damperItem_37 : decode q_re_damperItem.2.1 37 = .ok (.getfield 36, 3) := by decide +kernel
theorem d_re_damperItem_40 : decode q_re_damperItem.2.1 40 = .ok (.ifCond .ne 15, 3) := by decide +kernel
theorem d_re_damperItem_43 : decode q_re_damperItem.2.1 43 = .ok (.aload_n 0, 1) := by decide +kernel
theorem d_re_damperItem_44 : decode q_re_damperItem.2.1 44 = .ok (.getfield 21, 3) := by decide +kernel
theorem d_re_damperItem_47 : decode q_re_damperItem.2.1 47 = .ok (.iload_n 1, 1) := by decide +kernel
theorem d_re_damperItem_48 : decode q_re_damperItem.2.1 48 = .ok (.iload_n 2, 1) := by decide +kernel
theorem d_re_damperItem_49 : decode q_re_damperItem.2.1 49 = .ok (.iload_n 3, 1) := by decide +kernel
theorem d_re_damperItem_50 : decode q_re_damperItem.2.1 50 = .ok (.iload 4, 2) := by decide +kernel
theorem d_re_damperItem_52 : decode q_re_damperItem.2.1 52 = .ok (.invokevirtual 153, 3) := by decide +kernel
theorem d_re_damperItem_55 : decode q_re_damperItem.2.1 55 = .ok (.return_, 1) := by decide +kernel
theorem m_re_damperItem (l : Launch) (lo hi d : Nat) (hS : sm_has lo hi) {a0 : Nat} {h h' : sm_H} (e0 : sm_at lo hi (0, 5, 0) a0) (hf : f_re_damperItem a0 h = some h') : sm_Met l lo hi (d + 7) q_re_damperItem [.ref a0] h none h' := by
  refine sm_Met.of (by decide +kernel) rfl ?_
  show sm_W l lo hi (d + 7) q_re_damperItem 0 [(0, .ref a0)] [] h none h'
  unfold f_re_damperItem at hf
  refine sm_aload_n 0 rfl d_re_damperItem_0 ?_
  obtain ⟨r1, g2, c3, hf⟩ := sm_b2E hf
  refine sm_callV (As := []) (rv := some (.int r1)) (h1 := g2) (c := 5) cvv_re_147 rfl rfl e0 (m_re_airKind l lo hi _ e0 c3) rfl rfl d_re_damperItem_1 ?_
  refine sm_istore_n (lv' := [(1, .int r1), (0, .ref a0)]) d_re_damperItem_4 rfl rfl ?_
  refine sm_aload_n 1 rfl d_re_damperItem_5 ?_
  refine sm_iconst (v := 0) (by decide) d_re_damperItem_6 ?_
  refine sm_aload_n 1 rfl d_re_damperItem_7 ?_
  obtain ⟨c4, hf⟩ := sm_gdE hf
  obtain ⟨z5, v6⟩ := sm_isP_at hS c4
  refine sm_getD fl_re_21 e0 rfl z5 d_re_damperItem_8 ?_
  refine sm_nmR (fun p7 w8 => ?_)
  have hf := sm_letV w8 hf
  have v6 := sm_ev w8 v6
  refine sm_getI fl_re_88 v6 rfl d_re_damperItem_11 ?_
  refine sm_iconst (v := 1) (by decide) d_re_damperItem_14 ?_
  refine sm_isub d_re_damperItem_15 ?_
  obtain ⟨r9, g10, c11, hf⟩ := sm_b2E hf
  refine sm_callV (As := [.int 0, .int ((g2 p7 0) - 1)]) (rv := some (.int r9)) (h1 := g10) (c := 5) cvv_re_84 rfl rfl e0 (m_re_needNumber l lo hi _ e0 c11) rfl rfl d_re_damperItem_16 ?_
  refine sm_istore_n (lv' := [(2, .int r9), (1, .int r1), (0, .ref a0)]) d_re_damperItem_19 rfl rfl ?_
  refine sm_aload_n 2 rfl d_re_damperItem_20 ?_
  refine sm_iconst (v := 1) (by decide) d_re_damperItem_21 ?_
  refine sm_bipush (v := 30) (by decide) d_re_damperItem_22 ?_
  obtain ⟨r12, g13, c14, hf⟩ := sm_b2E hf
  refine sm_callV (As := [.int 1, .int 30]) (rv := some (.int r12)) (h1 := g13) (c := 5) cvv_re_84 rfl rfl e0 (m_re_needNumber l lo hi _ e0 c14) rfl rfl d_re_damperItem_24 ?_
  refine sm_istore_n (lv' := [(3, .int r12), (2, .int r9), (1, .int r1), (0, .ref a0)]) d_re_damperItem_27 rfl rfl ?_
  refine sm_aload_n 3 rfl d_re_damperItem_28 ?_
  refine sm_ldcS 4 (z := (151, "open")) rfl rfl d_re_damperItem_29 ?_
  obtain ⟨r15, g16, c17, hf⟩ := sm_b2E hf
  refine sm_callV (As := [.ref (5000 + 4)]) (rv := some (.int r15)) (h1 := g16) (c := 5) cvv_re_79 rfl rfl e0 (m_re_takeWord l lo hi _ e0 rfl c17) rfl rfl d_re_damperItem_31 ?_
  refine sm_istore (lv' := [(4, .int r15), (3, .int r12), (2, .int r9), (1, .int r1), (0, .ref a0)]) d_re_damperItem_34 rfl rfl ?_
  refine sm_aload_n 4 rfl d_re_damperItem_36 ?_
  refine sm_getI fl_re_36 e0 rfl d_re_damperItem_37 ?_
  refine sm_if_ne 55 d_re_damperItem_40 rfl (fun c18 => ?_) (fun c18 => ?_)
  · have hf := sm_ifF c18 hf
    obtain rfl := sm_ret1 hf
    exact sm_vret d_re_damperItem_55 rfl
  · have hf := sm_ifT c18 hf
    refine sm_aload_n 4 rfl d_re_damperItem_43 ?_
    obtain ⟨c19, hf⟩ := sm_gdE hf
    obtain ⟨z20, v21⟩ := sm_isP_at hS c19
    refine sm_getD fl_re_21 e0 rfl z20 d_re_damperItem_44 ?_
    refine sm_nmR (fun p22 w23 => ?_)
    have hf := sm_letV w23 hf
    have v21 := sm_ev w23 v21
    refine sm_iload_n 3 rfl d_re_damperItem_47 ?_
    refine sm_iload_n 2 rfl d_re_damperItem_48 ?_
    refine sm_iload_n 1 rfl d_re_damperItem_49 ?_
    refine sm_iload 0 rfl d_re_damperItem_50 ?_
    obtain ⟨g24, c25, hf⟩ := sm_bindE hf
    refine sm_callV (As := [.int r1, .int r9, .int r12, .int r15]) (rv := none) (h1 := g24) (c := 4) cvv_re_153 rfl rfl v21 (m_pl_addDamper l lo hi _ v21 c25) rfl rfl d_re_damperItem_52 ?_
    obtain rfl := sm_ret1 hf
    exact sm_vret d_re_damperItem_55 rfl
theorem d_pl_addDoor_0 : decode q_pl_addDoor.2.1 0 = .ok (.aload_n 0, 1) := by decide +kernel
theorem d_pl_addDoor_1 : decode q_pl_addDoor.2.1 1 = .ok (.getfield 56, 3) := by decide +kernel
theorem d_pl_addDoor_4 : decode q_pl_addDoor.2.1 4 = .ok (.bipush 10, 2) := by decide +kernel
theorem d_pl_addDoor_6 : decode q_pl_addDoor.2.1 6 = .ok (.if_icmp .ge 43, 3) := by decide +kernel
theorem d_pl_addDoor_9 : decode q_pl_addDoor.2.1 9 = .ok (.aload_n 0, 1) := by decide +kernel
theorem d_pl_addDoor_10 : decode q_pl_addDoor.2.1 10 = .ok (.getfield 27, 3) := by decide +kernel
theorem d_pl_addDoor_13 : decode q_pl_addDoor.2.1 13 = .ok (.aload_n 0, 1) := by decide +kernel
theorem d_pl_addDoor_14 : decode q_pl_addDoor.2.1 14 = .ok (.getfield 56, 3) := by decide +kernel
theorem d_pl_addDoor_17 : decode q_pl_addDoor.2.1 17 = .ok (.iload_n 1, 1) := by decide +kernel
theorem d_pl_addDoor_18 : decode q_pl_addDoor.2.1 18 = .ok (.iastore, 1) := by decide +kernel
theorem d_pl_addDoor_19 : decode q_pl_addDoor.2.1 19 = .ok (.aload_n 0, 1) := by decide +kernel
theorem d_pl_addDoor_20 : decode q_pl_addDoor.2.1 20 = .ok (.getfield 30, 3) := by decide +kernel
theorem d_pl_addDoor_23 : decode q_pl_addDoor.2.1 23 = .ok (.aload_n 0, 1) := by decide +kernel
theorem d_pl_addDoor_24 : decode q_pl_addDoor.2.1 24 = .ok (.getfield 56, 3) := by decide +kernel
theorem d_pl_addDoor_27 : decode q_pl_addDoor.2.1 27 = .ok (.iload_n 2, 1) := by decide +kernel
theorem d_pl_addDoor_28 : decode q_pl_addDoor.2.1 28 = .ok (.iastore, 1) := by decide +kernel
theorem d_pl_addDoor_29 : decode q_pl_addDoor.2.1 29 = .ok (.aload_n 0, 1) := by decide +kernel
theorem d_pl_addDoor_30 : decode q_pl_addDoor.2.1 30 = .ok (.getfield 33, 3) := by decide +kernel
theorem d_pl_addDoor_33 : decode q_pl_addDoor.2.1 33 = .ok (.aload_n 0, 1) := by decide +kernel
theorem d_pl_addDoor_34 : decode q_pl_addDoor.2.1 34 = .ok (.getfield 56, 3) := by decide +kernel
theorem d_pl_addDoor_37 : decode q_pl_addDoor.2.1 37 = .ok (.iload_n 3, 1) := by decide +kernel
theorem d_pl_addDoor_38 : decode q_pl_addDoor.2.1 38 = .ok (.iastore, 1) := by decide +kernel
theorem d_pl_addDoor_39 : decode q_pl_addDoor.2.1 39 = .ok (.aload_n 0, 1) := by decide +kernel
theorem d_pl_addDoor_40 : decode q_pl_addDoor.2.1 40 = .ok (.dup, 1) := by decide +kernel
theorem d_pl_addDoor_41 : decode q_pl_addDoor.2.1 41 = .ok (.getfield 56, 3) := by decide +kernel
theorem d_pl_addDoor_44 : decode q_pl_addDoor.2.1 44 = .ok (.iconst 1, 1) := by decide +kernel
theorem d_pl_addDoor_45 : decode q_pl_addDoor.2.1 45 = .ok (.iadd, 1) := by decide +kernel
theorem d_pl_addDoor_46 : decode q_pl_addDoor.2.1 46 = .ok (.putfield 56, 3) := by decide +kernel
theorem d_pl_addDoor_49 : decode q_pl_addDoor.2.1 49 = .ok (.return_, 1) := by decide +kernel
theorem m_pl_addDoor (l : Launch) (lo hi d : Nat) {a0 : Nat} {a1 : Int32} {a2 : Int32} {a3 : Int32} {h h' : sm_H} (e0 : sm_at lo hi (0, 4, 0) a0) (hf : f_pl_addDoor a0 a1 a2 a3 h = some h') : sm_Met l lo hi (d) q_pl_addDoor [.ref a0, .int a1, .int a2, .int a3] h none h' := by
  refine sm_Met.of (by decide +kernel) rfl ?_
  show sm_W l lo hi (d) q_pl_addDoor 0 [(0, .ref a0), (1, .int a1), (2, .int a2), (3, .int a3)] [] h none h'
  unfold f_pl_addDoor at hf
  refine sm_aload_n 0 rfl d_pl_addDoor_0 ?_
  refine sm_getI fl_pl_56 e0 rfl d_pl_addDoor_1 ?_
  refine sm_bipush (v := 10) (by decide) d_pl_addDoor_4 ?_
  refine sm_icmp_ge 49 d_pl_addDoor_6 rfl (fun c1 => ?_) (fun c1 => ?_)
  · have hf := sm_ifT c1 hf
    obtain rfl := sm_ret1 hf
    exact sm_vret d_pl_addDoor_49 rfl
  · have hf := sm_ifF c1 hf
    refine sm_aload_n 0 rfl d_pl_addDoor_9 ?_
    refine sm_getR (n := 6) fl_pl_27 e0 rfl d_pl_addDoor_10 ?_
    refine sm_aload_n 0 rfl d_pl_addDoor_13 ?_
    refine sm_getI fl_pl_56 e0 rfl d_pl_addDoor_14 ?_
    refine sm_iload_n 1 rfl d_pl_addDoor_17 ?_
    obtain ⟨c2, hf⟩ := sm_gdE hf
    refine sm_iast (sm_at_arr (sm_inner e0 12 rfl rfl rfl)) c2 d_pl_addDoor_18 ?_
    refine sm_nmH (fun g3 w4 => ?_)
    have hf := sm_letV w4 hf
    refine sm_aload_n 0 rfl d_pl_addDoor_19 ?_
    refine sm_getR (n := 7) fl_pl_30 e0 rfl d_pl_addDoor_20 ?_
    refine sm_aload_n 0 rfl d_pl_addDoor_23 ?_
    refine sm_getI fl_pl_56 e0 rfl d_pl_addDoor_24 ?_
    refine sm_iload_n 2 rfl d_pl_addDoor_27 ?_
    obtain ⟨c5, hf⟩ := sm_gdE hf
    refine sm_iast (sm_at_arr (sm_inner e0 13 rfl rfl rfl)) c5 d_pl_addDoor_28 ?_
    refine sm_nmH (fun g6 w7 => ?_)
    have hf := sm_letV w7 hf
    refine sm_aload_n 0 rfl d_pl_addDoor_29 ?_
    refine sm_getR (n := 8) fl_pl_33 e0 rfl d_pl_addDoor_30 ?_
    refine sm_aload_n 0 rfl d_pl_addDoor_33 ?_
    refine sm_getI fl_pl_56 e0 rfl d_pl_addDoor_34 ?_
    refine sm_iload_n 3 rfl d_pl_addDoor_37 ?_
    obtain ⟨c8, hf⟩ := sm_gdE hf
    refine sm_iast (sm_at_arr (sm_inner e0 14 rfl rfl rfl)) c8 d_pl_addDoor_38 ?_
    refine sm_nmH (fun g9 w10 => ?_)
    have hf := sm_letV w10 hf
    refine sm_aload_n 0 rfl d_pl_addDoor_39 ?_
    refine sm_dup rfl d_pl_addDoor_40 ?_
    refine sm_getI fl_pl_56 e0 rfl d_pl_addDoor_41 ?_
    refine sm_iconst (v := 1) (by decide) d_pl_addDoor_44 ?_
    refine sm_iadd d_pl_addDoor_45 ?_
    refine sm_putI fp_pl_56 e0 rfl rfl d_pl_addDoor_46 ?_
    refine sm_nmH (fun g11 w12 => ?_)
    have hf := sm_letV w12 hf
    obtain rfl := sm_ret1 hf
    exact sm_vret d_pl_addDoor_49 rfl
theorem d_re_doorItem_0 : decode q_re_doorItem.2.1 0 = .ok (.aload_n 0, 1) := by decide +kernel
theorem d_re_doorItem_1 : decode q_re_doorItem.2.1 1 = .ok (.iconst 0, 1) := by decide +kernel
theorem d_re_doorItem_2 : decode q_re_doorItem.2.1 2 = .ok (.aload_n 0, 1) := by decide +kernel
theorem d_re_doorItem_3 : decode q_re_doorItem.2.1 3 = .ok (.getfield 21, 3) := by decide +kernel
theorem d_re_doorItem_6 : decode q_re_doorItem.2.1 6 = .ok (.getfield 88, 3) := by decide +kernel
theorem d_re_doorItem_9 : decode q_re_doorItem.2.1 9 = .ok (.iconst 1, 1) := by decide +kernel
theorem d_re_doorItem_10 : decode q_re_doorItem.2.1 10 = .ok (.isub, 1) := by decide +kernel
theorem d_re_doorItem_11 : decode q_re_doorItem.2.1 11 = .ok (.invokevirtual 84, 3) := by decide +kernel
theorem d_re_doorItem_14 : decode q_re_doorItem.2.1 14 = .ok (.istore_n 1, 1) := by decide +kernel
theorem d_re_doorItem_15 : decode q_re_doorItem.2.1 15 = .ok (.aload_n 0, 1) := by decide +kernel
theorem d_re_doorItem_16 : decode q_re_doorItem.2.1 16 = .ok (.iconst 1, 1) := by decide +kernel
theorem d_re_doorItem_17 : decode q_re_doorItem.2.1 17 = .ok (.bipush 50, 2) := by decide +kernel
theorem d_re_doorItem_19 : decode q_re_doorItem.2.1 19 = .ok (.invokevirtual 84, 3) := by decide +kernel
theorem d_re_doorItem_22 : decode q_re_doorItem.2.1 22 = .ok (.istore_n 2, 1) := by decide +kernel
theorem d_re_doorItem_23 : decode q_re_doorItem.2.1 23 = .ok (.aload_n 0, 1) := by decide +kernel
theorem d_re_doorItem_24 : decode q_re_doorItem.2.1 24 = .ok (.bipush 51, 2) := by decide +kernel
theorem d_re_doorItem_26 : decode q_re_doorItem.2.1 26 = .ok (.sipush 500, 3) := by decide +kernel
theorem d_re_doorItem_29 : decode q_re_doorItem.2.1 29 = .ok (.invokevirtual 84, 3) := by decide +kernel
theorem d_re_doorItem_32 : decode q_re_doorItem.2.1 32 = .ok (.istore_n 3, 1) := by decide +kernel
theorem d_re_doorItem_33 : decode q_re_doorItem.2.1 33 = .ok (.aload_n 0, 1) := by decide +kernel
theorem d_re_doorItem_34 : decode q_re_doorItem.2.1 34 = .ok (.getfield 36, 3) := by decide +kernel
theorem d_re_doorItem_37 : decode q_re_doorItem.2.1 37 = .ok (.ifCond .ne 13, 3) := by decide +kernel
theorem d_re_doorItem_40 : decode q_re_doorItem.2.1 40 = .ok (.aload_n 0, 1) := by decide +kernel
theorem d_re_doorItem_41 : decode q_re_doorItem.2.1 41 = .ok (.getfield 21, 3) := by decide +kernel
theorem d_re_doorItem_44 : decode q_re_doorItem.2.1 44 = .ok (.iload_n 1, 1) := by decide +kernel
theorem d_re_doorItem_45 : decode q_re_doorItem.2.1 45 = .ok (.iload_n 2, 1) := by decide +kernel
theorem d_re_doorItem_46 : decode q_re_doorItem.2.1 46 = .ok (.iload_n 3, 1) := by decide +kernel
theorem d_re_doorItem_47 : decode q_re_doorItem.2.1 47 = .ok (.invokevirtual 171, 3) := by decide +kernel
theorem d_re_doorItem_50 : decode q_re_doorItem.2.1 50 = .ok (.return_, 1) := by decide +kernel
theorem m_re_doorItem (l : Launch) (lo hi d : Nat) (hS : sm_has lo hi) {a0 : Nat} {h h' : sm_H} (e0 : sm_at lo hi (0, 5, 0) a0) (hf : f_re_doorItem a0 h = some h') : sm_Met l lo hi (d + 3) q_re_doorItem [.ref a0] h none h' := by
  refine sm_Met.of (by decide +kernel) rfl ?_
  show sm_W l lo hi (d + 3) q_re_doorItem 0 [(0, .ref a0)] [] h none h'
  unfold f_re_doorItem at hf
  refine sm_aload_n 0 rfl d_re_doorItem_0 ?_
  refine sm_iconst (v := 0) (by decide) d_re_doorItem_1 ?_
  refine sm_aload_n 0 rfl d_re_doorItem_2 ?_
  obtain ⟨c1, hf⟩ := sm_gdE hf
  obtain ⟨z2, v3⟩ := sm_isP_at hS c1
  refine sm_getD fl_re_21 e0 rfl z2 d_re_doorItem_3 ?_
  refine sm_nmR (fun p4 w5 => ?_)
  have hf := sm_letV w5 hf
  have v3 := sm_ev w5 v3
  refine sm_getI fl_re_88 v3 rfl d_re_doorItem_6 ?_
  refine sm_iconst (v := 1) (by decide) d_re_doorItem_9 ?_
  refine sm_isub d_re_doorItem_10 ?_
  obtain ⟨r6, g7, c8, hf⟩ := sm_b2E hf
  refine sm_callV (As := [.int 0, .int ((h p4 0) - 1)]) (rv := some (.int r6)) (h1 := g7) (c := 5) cvv_re_84 rfl rfl e0 (m_re_needNumber l lo hi _ e0 c8) rfl rfl d_re_doorItem_11 ?_
  refine sm_istore_n (lv' := [(1, .int r6), (0, .ref a0)]) d_re_doorItem_14 rfl rfl ?_
  refine sm_aload_n 1 rfl d_re_doorItem_15 ?_
  refine sm_iconst (v := 1) (by decide) d_re_doorItem_16 ?_
  refine sm_bipush (v := 50) (by decide) d_re_doorItem_17 ?_
  obtain ⟨r9, g10, c11, hf⟩ := sm_b2E hf
  refine sm_callV (As := [.int 1, .int 50]) (rv := some (.int r9)) (h1 := g10) (c := 5) cvv_re_84 rfl rfl e0 (m_re_needNumber l lo hi _ e0 c11) rfl rfl d_re_doorItem_19 ?_
  refine sm_istore_n (lv' := [(2, .int r9), (1, .int r6), (0, .ref a0)]) d_re_doorItem_22 rfl rfl ?_
  refine sm_aload_n 2 rfl d_re_doorItem_23 ?_
  refine sm_bipush (v := 51) (by decide) d_re_doorItem_24 ?_
  refine sm_sipush (v := 500) (by decide) d_re_doorItem_26 ?_
  obtain ⟨r12, g13, c14, hf⟩ := sm_b2E hf
  refine sm_callV (As := [.int 51, .int 500]) (rv := some (.int r12)) (h1 := g13) (c := 5) cvv_re_84 rfl rfl e0 (m_re_needNumber l lo hi _ e0 c14) rfl rfl d_re_doorItem_29 ?_
  refine sm_istore_n (lv' := [(3, .int r12), (2, .int r9), (1, .int r6), (0, .ref a0)]) d_re_doorItem_32 rfl rfl ?_
  refine sm_aload_n 3 rfl d_re_doorItem_33 ?_
  refine sm_getI fl_re_36 e0 rfl d_re_doorItem_34 ?_
  refine sm_if_ne 50 d_re_doorItem_37 rfl (fun c15 => ?_) (fun c15 => ?_)
  · have hf := sm_ifF c15 hf
    obtain rfl := sm_ret1 hf
    exact sm_vret d_re_doorItem_50 rfl
  · have hf := sm_ifT c15 hf
    refine sm_aload_n 3 rfl d_re_doorItem_40 ?_
    obtain ⟨c16, hf⟩ := sm_gdE hf
    obtain ⟨z17, v18⟩ := sm_isP_at hS c16
    refine sm_getD fl_re_21 e0 rfl z17 d_re_doorItem_41 ?_
    refine sm_nmR (fun p19 w20 => ?_)
    have hf := sm_letV w20 hf
    have v18 := sm_ev w20 v18
    refine sm_iload_n 2 rfl d_re_doorItem_44 ?_
    refine sm_iload_n 1 rfl d_re_doorItem_45 ?_
    refine sm_iload_n 0 rfl d_re_doorItem_46 ?_
    obtain ⟨g21, c22, hf⟩ := sm_bindE hf
    refine sm_callV (As := [.int r6, .int r9, .int r12]) (rv := none) (h1 := g21) (c := 4) cvv_re_171 rfl rfl v18 (m_pl_addDoor l lo hi _ v18 c22) rfl rfl d_re_doorItem_47 ?_
    obtain rfl := sm_ret1 hf
    exact sm_vret d_re_doorItem_50 rfl
theorem d_pl_addFan_0 : decode q_pl_addFan.2.1 0 = .ok (.aload_n 0, 1) := by decide +kernel
theorem d_pl_addFan_1 : decode q_pl_addFan.2.1 1 = .ok (.getfield 53, 3) := by decide +kernel
theorem d_pl_addFan_4 : decode q_pl_addFan.2.1 4 = .ok (.bipush 6, 2) := by decide +kernel
theorem d_pl_addFan_6 : decode q_pl_addFan.2.1 6 = .ok (.if_icmp .ge 60, 3) := by decide +kernel
theorem d_pl_addFan_9 : decode q_pl_addFan.2.1 9 = .ok (.aload_n 0, 1) := by decide +kernel
theorem d_pl_addFan_10 : decode q_pl_addFan.2.1 10 = .ok (.getfield 9, 3) := by decide +kernel
theorem d_pl_addFan_13 : decode q_pl_addFan.2.1 13 = .ok (.bipush 16, 2) := by decide +kernel
theorem d_pl_addFan_15 : decode q_pl_addFan.2.1 15 = .ok (.aload_n 0, 1) := by decide +kernel
theorem d_pl_addFan_16 : decode q_pl_addFan.2.1 16 = .ok (.getfield 53, 3) := by decide +kernel
theorem d_pl_addFan_19 : decode q_pl_addFan.2.1 19 = .ok (.iadd, 1) := by decide +kernel
theorem d_pl_addFan_20 : decode q_pl_addFan.2.1 20 = .ok (.iload_n 1, 1) := by decide +kernel
theorem d_pl_addFan_21 : decode q_pl_addFan.2.1 21 = .ok (.iastore, 1) := by decide +kernel
theorem d_pl_addFan_22 : decode q_pl_addFan.2.1 22 = .ok (.aload_n 0, 1) := by decide +kernel
theorem d_pl_addFan_23 : decode q_pl_addFan.2.1 23 = .ok (.getfield 15, 3) := by decide +kernel
theorem d_pl_addFan_26 : decode q_pl_addFan.2.1 26 = .ok (.bipush 16, 2) := by decide +kernel
theorem d_pl_addFan_28 : decode q_pl_addFan.2.1 28 = .ok (.aload_n 0, 1) := by decide +kernel
theorem d_pl_addFan_29 : decode q_pl_addFan.2.1 29 = .ok (.getfield 53, 3) := by decide +kernel
theorem d_pl_addFan_32 : decode q_pl_addFan.2.1 32 = .ok (.iadd, 1) := by decide +kernel
theorem d_pl_addFan_33 : decode q_pl_addFan.2.1 33 = .ok (.iload_n 3, 1) := by decide +kernel
theorem d_pl_addFan_34 : decode q_pl_addFan.2.1 34 = .ok (.iastore, 1) := by decide +kernel
theorem d_pl_addFan_35 : decode q_pl_addFan.2.1 35 = .ok (.aload_n 0, 1) := by decide +kernel
theorem d_pl_addFan_36 : decode q_pl_addFan.2.1 36 = .ok (.getfield 21, 3) := by decide +kernel
theorem d_pl_addFan_39 : decode q_pl_addFan.2.1 39 = .ok (.aload_n 0, 1) := by decide +kernel
theorem d_pl_addFan_40 : decode q_pl_addFan.2.1 40 = .ok (.getfield 53, 3) := by decide +kernel
theorem d_pl_addFan_43 : decode q_pl_addFan.2.1 43 = .ok (.iload_n 2, 1) := by decide +kernel
theorem d_pl_addFan_44 : decode q_pl_addFan.2.1 44 = .ok (.iastore, 1) := by decide +kernel
theorem d_pl_addFan_45 : decode q_pl_addFan.2.1 45 = .ok (.aload_n 0, 1) := by decide +kernel
theorem d_pl_addFan_46 : decode q_pl_addFan.2.1 46 = .ok (.getfield 24, 3) := by decide +kernel
theorem d_pl_addFan_49 : decode q_pl_addFan.2.1 49 = .ok (.aload_n 0, 1) := by decide +kernel
theorem d_pl_addFan_50 : decode q_pl_addFan.2.1 50 = .ok (.getfield 53, 3) := by decide +kernel
theorem d_pl_addFan_53 : decode q_pl_addFan.2.1 53 = .ok (.iload 4, 2) := by decide +kernel
theorem d_pl_addFan_55 : decode q_pl_addFan.2.1 55 = .ok (.iastore, 1) := by decide +kernel
theorem d_pl_addFan_56 : decode q_pl_addFan.2.1 56 = .ok (.aload_n 0, 1) := by decide +kernel
theorem d_pl_addFan_57 : decode q_pl_addFan.2.1 57 = .ok (.dup, 1) := by decide +kernel
theorem d_pl_addFan_58 : decode q_pl_addFan.2.1 58 = .ok (.getfield 53, 3) := by decide +kernel
theorem d_pl_addFan_61 : decode q_pl_addFan.2.1 61 = .ok (.iconst 1, 1) := by decide +kernel
theorem d_pl_addFan_62 : decode q_pl_addFan.2.1 62 = .ok (.iadd, 1) := by decide +kernel
theorem d_pl_addFan_63 : decode q_pl_addFan.2.1 63 = .ok (.putfield 53, 3) := by decide +kernel
theorem d_pl_addFan_66 : decode q_pl_addFan.2.1 66 = .ok (.return_, 1) := by decide +kernel
theorem m_pl_addFan (l : Launch) (lo hi d : Nat) {a0 : Nat} {a1 : Int32} {a2 : Int32} {a3 : Int32} {a4 : Int32} {h h' : sm_H} (e0 : sm_at lo hi (0, 4, 0) a0) (hf : f_pl_addFan a0 a1 a2 a3 a4 h = some h') : sm_Met l lo hi (d) q_pl_addFan [.ref a0, .int a1, .int a2, .int a3, .int a4] h none h' := by
  refine sm_Met.of (by decide +kernel) rfl ?_
  show sm_W l lo hi (d) q_pl_addFan 0 [(0, .ref a0), (1, .int a1), (2, .int a2), (3, .int a3), (4, .int a4)] [] h none h'
  unfold f_pl_addFan at hf
  refine sm_aload_n 0 rfl d_pl_addFan_0 ?_
  refine sm_getI fl_pl_53 e0 rfl d_pl_addFan_1 ?_
  refine sm_bipush (v := 6) (by decide) d_pl_addFan_4 ?_
  refine sm_icmp_ge 66 d_pl_addFan_6 rfl (fun c1 => ?_) (fun c1 => ?_)
  · have hf := sm_ifT c1 hf
    obtain rfl := sm_ret1 hf
    exact sm_vret d_pl_addFan_66 rfl
  · have hf := sm_ifF c1 hf
    refine sm_aload_n 0 rfl d_pl_addFan_9 ?_
    refine sm_getR (n := 1) fl_pl_9 e0 rfl d_pl_addFan_10 ?_
    refine sm_bipush (v := 16) (by decide) d_pl_addFan_13 ?_
    refine sm_aload_n 0 rfl d_pl_addFan_15 ?_
    refine sm_getI fl_pl_53 e0 rfl d_pl_addFan_16 ?_
    refine sm_iadd d_pl_addFan_19 ?_
    refine sm_iload_n 1 rfl d_pl_addFan_20 ?_
    obtain ⟨c2, hf⟩ := sm_gdE hf
    refine sm_iast (sm_at_arr (sm_inner e0 7 rfl rfl rfl)) c2 d_pl_addFan_21 ?_
    refine sm_nmH (fun g3 w4 => ?_)
    have hf := sm_letV w4 hf
    refine sm_aload_n 0 rfl d_pl_addFan_22 ?_
    refine sm_getR (n := 2) fl_pl_15 e0 rfl d_pl_addFan_23 ?_
    refine sm_bipush (v := 16) (by decide) d_pl_addFan_26 ?_
    refine sm_aload_n 0 rfl d_pl_addFan_28 ?_
    refine sm_getI fl_pl_53 e0 rfl d_pl_addFan_29 ?_
    refine sm_iadd d_pl_addFan_32 ?_
    refine sm_iload_n 3 rfl d_pl_addFan_33 ?_
    obtain ⟨c5, hf⟩ := sm_gdE hf
    refine sm_iast (sm_at_arr (sm_inner e0 8 rfl rfl rfl)) c5 d_pl_addFan_34 ?_
    refine sm_nmH (fun g6 w7 => ?_)
    have hf := sm_letV w7 hf
    refine sm_aload_n 0 rfl d_pl_addFan_35 ?_
    refine sm_getR (n := 4) fl_pl_21 e0 rfl d_pl_addFan_36 ?_
    refine sm_aload_n 0 rfl d_pl_addFan_39 ?_
    refine sm_getI fl_pl_53 e0 rfl d_pl_addFan_40 ?_
    refine sm_iload_n 2 rfl d_pl_addFan_43 ?_
    obtain ⟨c8, hf⟩ := sm_gdE hf
    refine sm_iast (sm_at_arr (sm_inner e0 10 rfl rfl rfl)) c8 d_pl_addFan_44 ?_
    refine sm_nmH (fun g9 w10 => ?_)
    have hf := sm_letV w10 hf
    refine sm_aload_n 0 rfl d_pl_addFan_45 ?_
    refine sm_getR (n := 5) fl_pl_24 e0 rfl d_pl_addFan_46 ?_
    refine sm_aload_n 0 rfl d_pl_addFan_49 ?_
    refine sm_getI fl_pl_53 e0 rfl d_pl_addFan_50 ?_
    refine sm_iload 4 rfl d_pl_addFan_53 ?_
    obtain ⟨c11, hf⟩ := sm_gdE hf
    refine sm_iast (sm_at_arr (sm_inner e0 11 rfl rfl rfl)) c11 d_pl_addFan_55 ?_
    refine sm_nmH (fun g12 w13 => ?_)
    have hf := sm_letV w13 hf
    refine sm_aload_n 0 rfl d_pl_addFan_56 ?_
    refine sm_dup rfl d_pl_addFan_57 ?_
    refine sm_getI fl_pl_53 e0 rfl d_pl_addFan_58 ?_
    refine sm_iconst (v := 1) (by decide) d_pl_addFan_61 ?_
    refine sm_iadd d_pl_addFan_62 ?_
    refine sm_putI fp_pl_53 e0 rfl rfl d_pl_addFan_63 ?_
    refine sm_nmH (fun g14 w15 => ?_)
    have hf := sm_letV w15 hf
    obtain rfl := sm_ret1 hf
    exact sm_vret d_pl_addFan_66 rfl
theorem d_sc_has_0 : decode q_sc_has.2.1 0 = .ok (.iload_n 0, 1) := by decide +kernel
theorem d_sc_has_1 : decode q_sc_has.2.1 1 = .ok (.iload_n 1, 1) := by decide +kernel
theorem d_sc_has_2 : decode q_sc_has.2.1 2 = .ok (.ishr, 1) := by decide +kernel
theorem d_sc_has_3 : decode q_sc_has.2.1 3 = .ok (.iconst 1, 1) := by decide +kernel
theorem d_sc_has_4 : decode q_sc_has.2.1 4 = .ok (.iand, 1) := by decide +kernel
theorem d_sc_has_5 : decode q_sc_has.2.1 5 = .ok (.ifCond .eq 7, 3) := by decide +kernel
theorem d_sc_has_8 : decode q_sc_has.2.1 8 = .ok (.iconst 1, 1) := by decide +kernel
theorem d_sc_has_9 : decode q_sc_has.2.1 9 = .ok (.goto 4, 3) := by decide +kernel
theorem d_sc_has_12 : decode q_sc_has.2.1 12 = .ok (.iconst 0, 1) := by decide +kernel
theorem d_sc_has_13 : decode q_sc_has.2.1 13 = .ok (.ireturn, 1) := by decide +kernel
theorem w_sc_has_L13 (l : Launch) (lo hi d : Nat) {h' : sm_H} {r0 : Int32} (s0 : Int32) (h : sm_H) (hf : f_sc_has_L13 s0 h = some (r0, h')) : sm_W l lo hi (d) q_sc_has 13 [] [.int s0] h (some (.int r0)) h' := by
  unfold f_sc_has_L13 at hf
  obtain ⟨c2, hf⟩ := sm_gdE hf
  obtain ⟨rfl, rfl⟩ := sm_ret2 hf
  exact sm_bret c2 d_sc_has_13 rfl
theorem m_sc_has (l : Launch) (lo hi d : Nat) {a0 : Int32} {a1 : Int32} {r0 : Int32} {h h' : sm_H} (hf : f_sc_has a0 a1 h = some (r0, h')) : sm_Met l lo hi (d) q_sc_has [.int a0, .int a1] h (some (.int r0)) h' := by
  refine sm_Met.of (by decide +kernel) rfl ?_
  show sm_W l lo hi (d) q_sc_has 0 [(0, .int a0), (1, .int a1)] [] h (some (.int r0)) h'
  unfold f_sc_has at hf
  refine sm_iload_n 0 rfl d_sc_has_0 ?_
  refine sm_iload_n 1 rfl d_sc_has_1 ?_
  refine sm_ishr d_sc_has_2 ?_
  refine sm_iconst (v := 1) (by decide) d_sc_has_3 ?_
  refine sm_iand d_sc_has_4 ?_
  refine sm_if_eq 12 d_sc_has_5 rfl (fun c1 => ?_) (fun c1 => ?_)
  · have hf := sm_ifT c1 hf
    refine sm_iconst (v := 0) (by decide) d_sc_has_12 ?_
    refine sm_sub [] rfl ?_
    exact w_sc_has_L13 l lo hi d _ _ hf
  · have hf := sm_ifF c1 hf
    refine sm_iconst (v := 1) (by decide) d_sc_has_8 ?_
    refine sm_goto 13 d_sc_has_9 rfl ?_
    refine sm_sub [] rfl ?_
    exact w_sc_has_L13 l lo hi d _ _ hf
theorem d_re_listedDamper_0 : decode q_re_listedDamper.2.1 0 = .ok (.aload_n 0, 1) := by decide +kernel
theorem d_re_listedDamper_1 : decode q_re_listedDamper.2.1 1 = .ok (.getfield 12, 3) := by decide +kernel
theorem d_re_listedDamper_4 : decode q_re_listedDamper.2.1 4 = .ok (.getfield 76, 3) := by decide +kernel
theorem d_re_listedDamper_7 : decode q_re_listedDamper.2.1 7 = .ok (.aload_n 0, 1) := by decide +kernel
theorem d_re_listedDamper_8 : decode q_re_listedDamper.2.1 8 = .ok (.getfield 12, 3) := by decide +kernel
theorem d_re_listedDamper_11 : decode q_re_listedDamper.2.1 11 = .ok (.getfield 50, 3) := by decide +kernel
theorem d_re_listedDamper_14 : decode q_re_listedDamper.2.1 14 = .ok (.iaload, 1) := by decide +kernel
theorem d_re_listedDamper_15 : decode q_re_listedDamper.2.1 15 = .ok (.istore_n 3, 1) := by decide +kernel
theorem d_re_listedDamper_16 : decode q_re_listedDamper.2.1 16 = .ok (.iload_n 3, 1) := by decide +kernel
theorem d_re_listedDamper_17 : decode q_re_listedDamper.2.1 17 = .ok (.aload_n 0, 1) := by decide +kernel
theorem d_re_listedDamper_18 : decode q_re_listedDamper.2.1 18 = .ok (.getfield 21, 3) := by decide +kernel
theorem d_re_listedDamper_21 : decode q_re_listedDamper.2.1 21 = .ok (.getfield 92, 3) := by decide +kernel
theorem d_re_listedDamper_24 : decode q_re_listedDamper.2.1 24 = .ok (.if_icmp .ge 24, 3) := by decide +kernel
theorem d_re_listedDamper_27 : decode q_re_listedDamper.2.1 27 = .ok (.aload_n 0, 1) := by decide +kernel
theorem d_re_listedDamper_28 : decode q_re_listedDamper.2.1 28 = .ok (.getfield 21, 3) := by decide +kernel
theorem d_re_listedDamper_31 : decode q_re_listedDamper.2.1 31 = .ok (.getfield 166, 3) := by decide +kernel
theorem d_re_listedDamper_34 : decode q_re_listedDamper.2.1 34 = .ok (.iload_n 3, 1) := by decide +kernel
theorem d_re_listedDamper_35 : decode q_re_listedDamper.2.1 35 = .ok (.iaload, 1) := by decide +kernel
theorem d_re_listedDamper_36 : decode q_re_listedDamper.2.1 36 = .ok (.iload_n 1, 1) := by decide +kernel
theorem d_re_listedDamper_37 : decode q_re_listedDamper.2.1 37 = .ok (.if_icmp .ne 11, 3) := by decide +kernel
theorem d_re_listedDamper_40 : decode q_re_listedDamper.2.1 40 = .ok (.iload_n 2, 1) := by decide +kernel
theorem d_re_listedDamper_41 : decode q_re_listedDamper.2.1 41 = .ok (.iload_n 3, 1) := by decide +kernel
theorem d_re_listedDamper_42 : decode q_re_listedDamper.2.1 42 = .ok (.invokestatic 167, 3) := by decide +kernel
theorem d_re_listedDamper_45 : decode q_re_listedDamper.2.1 45 = .ok (.ifCond .eq 10, 3) := by decide +kernel
theorem d_re_listedDamper_48 : decode q_re_listedDamper.2.1 48 = .ok (.aload_n 0, 1) := by decide +kernel
theorem d_re_listedDamper_49 : decode q_re_listedDamper.2.1 49 = .ok (.iconst 2, 1) := by decide +kernel
theorem d_re_listedDamper_50 : decode q_re_listedDamper.2.1 50 = .ok (.invokevirtual 73, 3) := by decide +kernel
theorem d_re_listedDamper_53 : decode q_re_listedDamper.2.1 53 = .ok (.iconst 0, 1) := by decide +kernel
theorem d_re_listedDamper_54 : decode q_re_listedDamper.2.1 54 = .ok (.ireturn, 1) := by decide +kernel
theorem d_re_listedDamper_55 : decode q_re_listedDamper.2.1 55 = .ok (.aload_n 0, 1) := by decide +kernel
theorem d_re_listedDamper_56 : decode q_re_listedDamper.2.1 56 = .ok (.getfield 12, 3) := by decide +kernel
theorem d_re_listedDamper_59 : decode q_re_listedDamper.2.1 59 = .ok (.invokevirtual 63, 3) := by decide +kernel
theorem d_re_listedDamper_62 : decode q_re_listedDamper.2.1 62 = .ok (.iconst 1, 1) := by decide +kernel
theorem d_re_listedDamper_63 : decode q_re_listedDamper.2.1 63 = .ok (.iload_n 3, 1) := by decide +kernel
theorem d_re_listedDamper_64 : decode q_re_listedDamper.2.1 64 = .ok (.ishl, 1) := by decide +kernel
theorem d_re_listedDamper_65 : decode q_re_listedDamper.2.1 65 = .ok (.ireturn, 1) := by decide +kernel
theorem w_re_listedDamper_L48 (l : Launch) (lo hi d : Nat) (hS : sm_has lo hi) {h' : sm_H} {r0 : Int32} (a0 : Nat) (h : sm_H) (e0 : sm_at lo hi (0, 5, 0) a0) (hf : f_re_listedDamper_L48 a0 h = some (r0, h')) : sm_W l lo hi (d + 2) q_re_listedDamper 48 [(0, .ref a0)] [] h (some (.int r0)) h' := by
  unfold f_re_listedDamper_L48 at hf
  refine sm_aload_n 0 rfl d_re_listedDamper_48 ?_
  refine sm_iconst (v := 2) (by decide) d_re_listedDamper_49 ?_
  obtain ⟨g23, c24, hf⟩ := sm_bindE hf
  refine sm_callV (As := [.int 2]) (rv := none) (h1 := g23) (c := 5) cvv_re_73 rfl rfl e0 (m_re_fail l lo hi _ e0 c24) rfl rfl d_re_listedDamper_50 ?_
  refine sm_iconst (v := 0) (by decide) d_re_listedDamper_53 ?_
  obtain ⟨rfl, rfl⟩ := sm_ret2 hf
  exact sm_iret d_re_listedDamper_54 rfl
theorem m_re_listedDamper (l : Launch) (lo hi d : Nat) (hS : sm_has lo hi) {a0 : Nat} {a1 : Int32} {a2 : Int32} {r0 : Int32} {h h' : sm_H} (e0 : sm_at lo hi (0, 5, 0) a0) (hf : f_re_listedDamper a0 a1 a2 h = some (r0, h')) : sm_Met l lo hi (d + 2) q_re_listedDamper [.ref a0, .int a1, .int a2] h (some (.int r0)) h' := by
  refine sm_Met.of (by decide +kernel) rfl ?_
  show sm_W l lo hi (d + 2) q_re_listedDamper 0 [(0, .ref a0), (1, .int a1), (2, .int a2)] [] h (some (.int r0)) h'
  unfold f_re_listedDamper at hf
  refine sm_aload_n 0 rfl d_re_listedDamper_0 ?_
  refine sm_getR (n := 1) fl_re_12 e0 rfl d_re_listedDamper_1 ?_
  refine sm_getR (n := 5) fl_re_76 (sm_inner e0 0 rfl rfl rfl) rfl d_re_listedDamper_4 ?_
  refine sm_aload_n 0 rfl d_re_listedDamper_7 ?_
  refine sm_getR (n := 1) fl_re_12 e0 rfl d_re_listedDamper_8 ?_
  refine sm_getI fl_re_50 (sm_inner e0 0 rfl rfl rfl) rfl d_re_listedDamper_11 ?_
  obtain ⟨c1, hf⟩ := sm_gdE hf
  refine sm_iald (sm_at_arr (sm_inner (sm_inner e0 0 rfl rfl rfl) 5 rfl rfl rfl)) c1 d_re_listedDamper_14 ?_
  refine sm_nmI (fun x2 w3 => ?_)
  have hf := sm_letV w3 hf
  refine sm_istore_n (lv' := [(3, .int x2), (0, .ref a0), (1, .int a1), (2, .int a2)]) d_re_listedDamper_15 rfl rfl ?_
  refine sm_iload_n 0 rfl d_re_listedDamper_16 ?_
  refine sm_aload_n 1 rfl d_re_listedDamper_17 ?_
  obtain ⟨c4, hf⟩ := sm_gdE hf
  obtain ⟨z5, v6⟩ := sm_isP_at hS c4
  refine sm_getD fl_re_21 e0 rfl z5 d_re_listedDamper_18 ?_
  refine sm_nmR (fun p7 w8 => ?_)
  have hf := sm_letV w8 hf
  have v6 := sm_ev w8 v6
  refine sm_getI fl_re_92 v6 rfl d_re_listedDamper_21 ?_
  refine sm_icmp_ge 48 d_re_listedDamper_24 rfl (fun c9 => ?_) (fun c9 => ?_)
  · have hf := sm_ifT c9 hf
    refine sm_sub [1] rfl ?_
    exact w_re_listedDamper_L48 l lo hi d hS _ _ e0 hf
  · have hf := sm_ifF c9 hf
    refine sm_aload_n 1 rfl d_re_listedDamper_27 ?_
    obtain ⟨c10, hf⟩ := sm_gdE hf
    obtain ⟨z11, v12⟩ := sm_isP_at hS c10
    refine sm_getD fl_re_21 e0 rfl z11 d_re_listedDamper_28 ?_
    refine sm_nmR (fun p13 w14 => ?_)
    have hf := sm_letV w14 hf
    have v12 := sm_ev w14 v12
    refine sm_getR (n := 1) fl_re_166 v12 rfl d_re_listedDamper_31 ?_
    refine sm_iload_n 0 rfl d_re_listedDamper_34 ?_
    obtain ⟨c15, hf⟩ := sm_gdE hf
    refine sm_iald (sm_at_arr (sm_inner v12 7 rfl rfl rfl)) c15 d_re_listedDamper_35 ?_
    refine sm_iload_n 2 rfl d_re_listedDamper_36 ?_
    refine sm_icmp_ne 48 d_re_listedDamper_37 rfl (fun c16 => ?_) (fun c16 => ?_)
    · have hf := sm_ifF c16 hf
      refine sm_sub [1] rfl ?_
      exact w_re_listedDamper_L48 l lo hi d hS _ _ e0 hf
    · have hf := sm_ifT c16 hf
      refine sm_iload_n 3 rfl d_re_listedDamper_40 ?_
      refine sm_iload_n 0 rfl d_re_listedDamper_41 ?_
      obtain ⟨r17, g18, c19, hf⟩ := sm_b2E hf
      refine sm_callN (As := [.int a2, .int x2]) (rv := some (.int r17)) (h1 := g18) cvn_re_167 (m_sc_has l lo hi _ c19) rfl rfl d_re_listedDamper_42 ?_
      refine sm_if_eq 55 d_re_listedDamper_45 rfl (fun c20 => ?_) (fun c20 => ?_)
      · have hf := sm_ifT c20 hf
        refine sm_aload_n 1 rfl d_re_listedDamper_55 ?_
        refine sm_getR (n := 1) fl_re_12 e0 rfl d_re_listedDamper_56 ?_
        obtain ⟨g21, c22, hf⟩ := sm_bindE hf
        refine sm_callV (As := []) (rv := none) (h1 := g21) (c := 8) cvv_re_63 rfl rfl (sm_inner e0 0 rfl rfl rfl) (m_te_advance l lo hi _ (sm_inner e0 0 rfl rfl rfl) c22) rfl rfl d_re_listedDamper_59 ?_
        refine sm_iconst (v := 1) (by decide) d_re_listedDamper_62 ?_
        refine sm_iload_n 0 rfl d_re_listedDamper_63 ?_
        refine sm_ishl d_re_listedDamper_64 ?_
        obtain ⟨rfl, rfl⟩ := sm_ret2 hf
        exact sm_iret d_re_listedDamper_65 rfl
      · have hf := sm_ifF c20 hf
        refine sm_sub [1] rfl ?_
        exact w_re_listedDamper_L48 l lo hi d hS _ _ e0 hf
theorem d_re_fanItem_0 : decode q_re_fanItem.2.1 0 = .ok (.aload_n 0, 1) := by decide +kernel
theorem d_re_fanItem_1 : decode q_re_fanItem.2.1 1 = .ok (.ldc 157, 2) := by decide +kernel
theorem d_re_fanItem_3 : decode q_re_fanItem.2.1 3 = .ok (.invokevirtual 79, 3) := by decide +kernel
theorem d_re_fanItem_6 : decode q_re_fanItem.2.1 6 = .ok (.ifCond .eq 7, 3) := by decide +kernel
theorem d_re_fanItem_9 : decode q_re_fanItem.2.1 9 = .ok (.iconst 2, 1) := by decide +kernel
theorem d_re_fanItem_10 : decode q_re_fanItem.2.1 10 = .ok (.goto 7, 3) := by decide +kernel
theorem d_re_fanItem_13 : decode q_re_fanItem.2.1 13 = .ok (.aload_n 0, 1) := by decide +kernel
theorem d_re_fanItem_14 : decode q_re_fanItem.2.1 14 = .ok (.invokevirtual 147, 3) := by decide +kernel
theorem d_re_fanItem_17 : decode q_re_fanItem.2.1 17 = .ok (.istore_n 1, 1) := by decide +kernel
theorem d_re_fanItem_18 : decode q_re_fanItem.2.1 18 = .ok (.aload_n 0, 1) := by decide +kernel
theorem d_re_fanItem_19 : decode q_re_fanItem.2.1 19 = .ok (.iconst 1, 1) := by decide +kernel
theorem d_re_fanItem_20 : decode q_re_fanItem.2.1 20 = .ok (.sipush 999, 3) := by decide +kernel
theorem d_re_fanItem_23 : decode q_re_fanItem.2.1 23 = .ok (.invokevirtual 84, 3) := by decide +kernel
theorem d_re_fanItem_26 : decode q_re_fanItem.2.1 26 = .ok (.istore_n 2, 1) := by decide +kernel
theorem d_re_fanItem_27 : decode q_re_fanItem.2.1 27 = .ok (.aload_n 0, 1) := by decide +kernel
theorem d_re_fanItem_28 : decode q_re_fanItem.2.1 28 = .ok (.iconst 1, 1) := by decide +kernel
theorem d_re_fanItem_29 : decode q_re_fanItem.2.1 29 = .ok (.bipush 30, 2) := by decide +kernel
theorem d_re_fanItem_31 : decode q_re_fanItem.2.1 31 = .ok (.invokevirtual 84, 3) := by decide +kernel
theorem d_re_fanItem_34 : decode q_re_fanItem.2.1 34 = .ok (.istore_n 3, 1) := by decide +kernel
theorem d_re_fanItem_35 : decode q_re_fanItem.2.1 35 = .ok (.iconst 0, 1) := by decide +kernel
theorem d_re_fanItem_36 : decode q_re_fanItem.2.1 36 = .ok (.istore 4, 2) := by decide +kernel
theorem d_re_fanItem_38 : decode q_re_fanItem.2.1 38 = .ok (.iconst 0, 1) := by decide +kernel
theorem d_re_fanItem_39 : decode q_re_fanItem.2.1 39 = .ok (.istore 5, 2) := by decide +kernel
theorem d_re_fanItem_41 : decode q_re_fanItem.2.1 41 = .ok (.iload 5, 2) := by decide +kernel
theorem d_re_fanItem_43 : decode q_re_fanItem.2.1 43 = .ok (.bipush 16, 2) := by decide +kernel
theorem d_re_fanItem_45 : decode q_re_fanItem.2.1 45 = .ok (.if_icmp .gt 40, 3) := by decide +kernel
theorem d_re_fanItem_48 : decode q_re_fanItem.2.1 48 = .ok (.aload_n 0, 1) := by decide +kernel
theorem d_re_fanItem_49 : decode q_re_fanItem.2.1 49 = .ok (.getfield 12, 3) := by decide +kernel
theorem d_re_fanItem_52 : decode q_re_fanItem.2.1 52 = .ok (.getfield 46, 3) := by decide +kernel
theorem d_re_fanItem_55 : decode q_re_fanItem.2.1 55 = .ok (.aload_n 0, 1) := by decide +kernel
theorem d_re_fanItem_56 : decode q_re_fanItem.2.1 56 = .ok (.getfield 12, 3) := by decide +kernel
theorem d_re_fanItem_59 : decode q_re_fanItem.2.1 59 = .ok (.getfield 50, 3) := by decide +kernel
theorem d_re_fanItem_62 : decode q_re_fanItem.2.1 62 = .ok (.iaload, 1) := by decide +kernel
theorem d_re_fanItem_63 : decode q_re_fanItem.2.1 63 = .ok (.iconst 2, 1) := by decide +kernel
theorem d_re_fanItem_64 : decode q_re_fanItem.2.1 64 = .ok (.if_icmp .ne 21, 3) := by decide +kernel
theorem d_re_fanItem_67 : decode q_re_fanItem.2.1 67 = .ok (.iload 4, 2) := by decide +kernel
theorem d_re_fanItem_69 : decode q_re_fanItem.2.1 69 = .ok (.aload_n 0, 1) := by decide +kernel
theorem d_re_fanItem_70 : decode q_re_fanItem.2.1 70 = .ok (.iload_n 1, 1) := by decide +kernel
theorem d_re_fanItem_71 : decode q_re_fanItem.2.1 71 = .ok (.iload 4, 2) := by decide +kernel
theorem d_re_fanItem_73 : decode q_re_fanItem.2.1 73 = .ok (.invokevirtual 159, 3) := by decide +kernel
theorem d_re_fanItem_76 : decode q_re_fanItem.2.1 76 = .ok (.ior, 1) := by decide +kernel
theorem d_re_fanItem_77 : decode q_re_fanItem.2.1 77 = .ok (.istore 4, 2) := by decide +kernel
theorem d_re_fanItem_79 : decode q_re_fanItem.2.1 79 = .ok (.iinc 5 1, 3) := by decide +kernel
theorem d_re_fanItem_82 : decode q_re_fanItem.2.1 82 = .ok (.goto (-41), 3) := by decide +kernel
theorem d_re_fanItem_85 : decode q_re_fanItem.2.1 85 = .ok (.aload_n 0, 1) := by decide +kernel
theorem d_re_fanItem_86 : decode q_re_fanItem.2.1 86 = .ok (.getfield 36, 3) := by decide +kernel
theorem d_re_fanItem_89 : decode q_re_fanItem.2.1 89 = .ok (.ifCond .ne 15, 3) := by decide +kernel
theorem d_re_fanItem_92 : decode q_re_fanItem.2.1 92 = .ok (.aload_n 0, 1) := by decide +kernel
theorem d_re_fanItem_93 : decode q_re_fanItem.2.1 93 = .ok (.getfield 21, 3) := by decide +kernel
theorem d_re_fanItem_96 : decode q_re_fanItem.2.1 96 = .ok (.iload_n 1, 1) := by decide +kernel
theorem d_re_fanItem_97 : decode q_re_fanItem.2.1 97 = .ok (.iload_n 2, 1) := by decide +kernel
theorem d_re_fanItem_98 : decode q_re_fanItem.2.1 98 = .ok (.iload_n 3, 1) := by decide +kernel
theorem d_re_fanItem_99 : decode q_re_fanItem.2.1 99 = .ok (.iload 4, 2) := by decide +kernel
theorem d_re_fanItem_101 : decode q_re_fanItem.2.1 101 = .ok (.invokevirtual 162, 3) := by decide +kernel
theorem d_re_fanItem_104 : decode q_re_fanItem.2.1 104 = .ok (.return_, 1) := by decide +kernel
theorem w_re_fanItem_L85 (l : Launch) (lo hi d : Nat) (hS : sm_has lo hi) {h' : sm_H} (a0 : Nat) (a1 : Int32) (a2 : Int32) (a3 : Int32) (a4 : Int32) (h : sm_H) (e0 : sm_at lo hi (0, 5, 0) a0) (hf : f_re_fanItem_L85 a0 a1 a2 a3 a4 h = some h') : sm_W l lo hi (d + 7) q_re_fanItem 85 [(0, .ref a0), (1, .int a1), (2, .int a2), (3, .int a3), (4, .int a4)] [] h none h' := by
  unfold f_re_fanItem_L85 at hf
  refine sm_aload_n 0 rfl d_re_fanItem_85 ?_
  refine sm_getI fl_re_36 e0 rfl d_re_fanItem_86 ?_
  refine sm_if_ne 104 d_re_fanItem_89 rfl (fun c24 => ?_) (fun c24 => ?_)
  · have hf := sm_ifF c24 hf
    obtain rfl := sm_ret1 hf
    exact sm_vret d_re_fanItem_104 rfl
  · have hf := sm_ifT c24 hf
    refine sm_aload_n 0 rfl d_re_fanItem_92 ?_
    obtain ⟨c25, hf⟩ := sm_gdE hf
    obtain ⟨z26, v27⟩ := sm_isP_at hS c25
    refine sm_getD fl_re_21 e0 rfl z26 d_re_fanItem_93 ?_
    refine sm_nmR (fun p28 w29 => ?_)
    have hf := sm_letV w29 hf
    have v27 := sm_ev w29 v27
    refine sm_iload_n 1 rfl d_re_fanItem_96 ?_
    refine sm_iload_n 2 rfl d_re_fanItem_97 ?_
    refine sm_iload_n 3 rfl d_re_fanItem_98 ?_
    refine sm_iload 4 rfl d_re_fanItem_99 ?_
    obtain ⟨g30, c31, hf⟩ := sm_bindE hf
    refine sm_callV (As := [.int a1, .int a2, .int a3, .int a4]) (rv := none) (h1 := g30) (c := 4) cvv_re_162 rfl rfl v27 (m_pl_addFan l lo hi _ v27 c31) rfl rfl d_re_fanItem_101 ?_
    obtain rfl := sm_ret1 hf
    exact sm_vret d_re_fanItem_104 rfl
theorem w_re_fanItem_L41 (l : Launch) (lo hi d : Nat) (hS : sm_has lo hi) {h' : sm_H} : ∀ (n : Nat) (a0 : Nat) (a1 : Int32) (a2 : Int32) (a3 : Int32) (a4 : Int32) (a5 : Int32) (h : sm_H) (e0 : sm_at lo hi (0, 5, 0) a0) (hf : f_re_fanItem_L41 n a0 a1 a2 a3 a4 a5 h = some h'), sm_W l lo hi (d + 7) q_re_fanItem 41 [(0, .ref a0), (1, .int a1), (2, .int a2), (3, .int a3), (4, .int a4), (5, .int a5)] [] h none h' := by
  intro n
  induction n with
  | zero =>
    intro a0 a1 a2 a3 a4 a5 h e0 hf
    have z : (none : Option sm_H) = some _ := hf
    cases z
  | succ n ih =>
    intro a0 a1 a2 a3 a4 a5 h e0 hf
    unfold f_re_fanItem_L41 at hf
    refine sm_iload 5 rfl d_re_fanItem_41 ?_
    refine sm_bipush (v := 16) (by decide) d_re_fanItem_43 ?_
    refine sm_icmp_gt 85 d_re_fanItem_45 rfl (fun c14 => ?_) (fun c14 => ?_)
    · have hf := sm_ifT c14 hf
      refine sm_sub [0, 1, 2, 3, 4] rfl ?_
      exact w_re_fanItem_L85 l lo hi d hS _ _ _ _ _ _ e0 hf
    · have hf := sm_ifF c14 hf
      refine sm_aload_n 0 rfl d_re_fanItem_48 ?_
      refine sm_getR (n := 1) fl_re_12 e0 rfl d_re_fanItem_49 ?_
      refine sm_getR (n := 2) fl_re_46 (sm_inner e0 0 rfl rfl rfl) rfl d_re_fanItem_52 ?_
      refine sm_aload_n 0 rfl d_re_fanItem_55 ?_
      refine sm_getR (n := 1) fl_re_12 e0 rfl d_re_fanItem_56 ?_
      refine sm_getI fl_re_50 (sm_inner e0 0 rfl rfl rfl) rfl d_re_fanItem_59 ?_
      obtain ⟨c15, hf⟩ := sm_gdE hf
      refine sm_iald (sm_at_arr (sm_inner (sm_inner e0 0 rfl rfl rfl) 2 rfl rfl rfl)) c15 d_re_fanItem_62 ?_
      refine sm_iconst (v := 2) (by decide) d_re_fanItem_63 ?_
      refine sm_icmp_ne 85 d_re_fanItem_64 rfl (fun c16 => ?_) (fun c16 => ?_)
      · have hf := sm_ifF c16 hf
        refine sm_sub [0, 1, 2, 3, 4] rfl ?_
        exact w_re_fanItem_L85 l lo hi d hS _ _ _ _ _ _ e0 hf
      · have hf := sm_ifT c16 hf
        refine sm_iload 4 rfl d_re_fanItem_67 ?_
        refine sm_aload_n 0 rfl d_re_fanItem_69 ?_
        refine sm_iload_n 1 rfl d_re_fanItem_70 ?_
        refine sm_iload 4 rfl d_re_fanItem_71 ?_
        obtain ⟨r17, g18, c19, hf⟩ := sm_b2E hf
        refine sm_callV (As := [.int a1, .int a4]) (rv := some (.int r17)) (h1 := g18) (c := 5) cvv_re_159 rfl rfl e0 (m_re_listedDamper l lo hi _ hS e0 c19) rfl rfl d_re_fanItem_73 ?_
        refine sm_ior d_re_fanItem_76 ?_
        refine sm_nmI (fun x20 w21 => ?_)
        have hf := sm_letV w21 hf
        refine sm_istore (lv' := [(4, .int x20), (0, .ref a0), (1, .int a1), (2, .int a2), (3, .int a3), (5, .int a5)]) d_re_fanItem_77 rfl rfl ?_
        obtain ⟨x22, w23⟩ : ∃ v : Int32, v = a5 + 1 := ⟨_, rfl⟩
        have hf := sm_letV w23 hf
        refine sm_iinc (v := x22) (lv' := [(5, .int x22), (4, .int x20), (0, .ref a0), (1, .int a1), (2, .int a2), (3, .int a3)]) 5 rfl (by rw [w23]; rfl) d_re_fanItem_79 rfl rfl ?_
        refine sm_goto 41 d_re_fanItem_82 rfl ?_
        refine sm_sub [2, 3, 4, 5, 1, 0] rfl ?_
        exact ih _ _ _ _ _ _ _ e0 hf
theorem w_re_fanItem_L17 (l : Launch) (lo hi d : Nat) (hS : sm_has lo hi) {h' : sm_H} (a0 : Nat) (s0 : Int32) (h : sm_H) (e0 : sm_at lo hi (0, 5, 0) a0) (hf : f_re_fanItem_L17 a0 s0 h = some h') : sm_W l lo hi (d + 7) q_re_fanItem 17 [(0, .ref a0)] [.int s0] h none h' := by
  unfold f_re_fanItem_L17 at hf
  refine sm_istore_n (lv' := [(1, .int s0), (0, .ref a0)]) d_re_fanItem_17 rfl rfl ?_
  refine sm_aload_n 1 rfl d_re_fanItem_18 ?_
  refine sm_iconst (v := 1) (by decide) d_re_fanItem_19 ?_
  refine sm_sipush (v := 999) (by decide) d_re_fanItem_20 ?_
  obtain ⟨r8, g9, c10, hf⟩ := sm_b2E hf
  refine sm_callV (As := [.int 1, .int 999]) (rv := some (.int r8)) (h1 := g9) (c := 5) cvv_re_84 rfl rfl e0 (m_re_needNumber l lo hi _ e0 c10) rfl rfl d_re_fanItem_23 ?_
  refine sm_istore_n (lv' := [(2, .int r8), (1, .int s0), (0, .ref a0)]) d_re_fanItem_26 rfl rfl ?_
  refine sm_aload_n 2 rfl d_re_fanItem_27 ?_
  refine sm_iconst (v := 1) (by decide) d_re_fanItem_28 ?_
  refine sm_bipush (v := 30) (by decide) d_re_fanItem_29 ?_
  obtain ⟨r11, g12, c13, hf⟩ := sm_b2E hf
  refine sm_callV (As := [.int 1, .int 30]) (rv := some (.int r11)) (h1 := g12) (c := 5) cvv_re_84 rfl rfl e0 (m_re_needNumber l lo hi _ e0 c13) rfl rfl d_re_fanItem_31 ?_
  refine sm_istore_n (lv' := [(3, .int r11), (2, .int r8), (1, .int s0), (0, .ref a0)]) d_re_fanItem_34 rfl rfl ?_
  refine sm_iconst (v := 0) (by decide) d_re_fanItem_35 ?_
  refine sm_istore (lv' := [(4, .int 0), (3, .int r11), (2, .int r8), (1, .int s0), (0, .ref a0)]) d_re_fanItem_36 rfl rfl ?_
  refine sm_iconst (v := 0) (by decide) d_re_fanItem_38 ?_
  refine sm_istore (lv' := [(5, .int 0), (4, .int 0), (3, .int r11), (2, .int r8), (1, .int s0), (0, .ref a0)]) d_re_fanItem_39 rfl rfl ?_
  refine sm_sub [5, 4, 3, 2, 1, 0] rfl ?_
  exact w_re_fanItem_L41 l lo hi d hS sm_N _ _ _ _ _ _ _ e0 hf
theorem m_re_fanItem (l : Launch) (lo hi d : Nat) (hS : sm_has lo hi) {a0 : Nat} {h h' : sm_H} (e0 : sm_at lo hi (0, 5, 0) a0) (hf : f_re_fanItem a0 h = some h') : sm_Met l lo hi (d + 7) q_re_fanItem [.ref a0] h none h' := by
  refine sm_Met.of (by decide +kernel) rfl ?_
  show sm_W l lo hi (d + 7) q_re_fanItem 0 [(0, .ref a0)] [] h none h'
  unfold f_re_fanItem at hf
  refine sm_aload_n 0 rfl d_re_fanItem_0 ?_
  refine sm_ldcS 6 (z := (157, "stair")) rfl rfl d_re_fanItem_1 ?_
  obtain ⟨r1, g2, c3, hf⟩ := sm_b2E hf
  refine sm_callV (As := [.ref (5000 + 6)]) (rv := some (.int r1)) (h1 := g2) (c := 5) cvv_re_79 rfl rfl e0 (m_re_takeWord l lo hi _ e0 rfl c3) rfl rfl d_re_fanItem_3 ?_
  refine sm_if_eq 13 d_re_fanItem_6 rfl (fun c4 => ?_) (fun c4 => ?_)
  · have hf := sm_ifT c4 hf
    refine sm_aload_n 0 rfl d_re_fanItem_13 ?_
    obtain ⟨r5, g6, c7, hf⟩ := sm_b2E hf
    refine sm_callV (As := []) (rv := some (.int r5)) (h1 := g6) (c := 5) cvv_re_147 rfl rfl e0 (m_re_airKind l lo hi _ e0 c7) rfl rfl d_re_fanItem_14 ?_
    exact w_re_fanItem_L17 l lo hi d hS _ _ _ e0 hf
  · have hf := sm_ifF c4 hf
    refine sm_iconst (v := 2) (by decide) d_re_fanItem_9 ?_
    refine sm_goto 17 d_re_fanItem_10 rfl ?_
    exact w_re_fanItem_L17 l lo hi d hS _ _ _ e0 hf
theorem d_te_isSign_0 : decode q_te_isSign.2.1 0 = .ok (.aload_n 0, 1) := by decide +kernel
theorem d_te_isSign_1 : decode q_te_isSign.2.1 1 = .ok (.getfield 15, 3) := by decide +kernel
theorem d_te_isSign_4 : decode q_te_isSign.2.1 4 = .ok (.aload_n 0, 1) := by decide +kernel
theorem d_te_isSign_5 : decode q_te_isSign.2.1 5 = .ok (.getfield 35, 3) := by decide +kernel
theorem d_te_isSign_8 : decode q_te_isSign.2.1 8 = .ok (.iaload, 1) := by decide +kernel
theorem d_te_isSign_9 : decode q_te_isSign.2.1 9 = .ok (.iconst 3, 1) := by decide +kernel
theorem d_te_isSign_10 : decode q_te_isSign.2.1 10 = .ok (.if_icmp .ne 25, 3) := by decide +kernel
theorem d_te_isSign_13 : decode q_te_isSign.2.1 13 = .ok (.aload_n 0, 1) := by decide +kernel
theorem d_te_isSign_14 : decode q_te_isSign.2.1 14 = .ok (.getfield 9, 3) := by decide +kernel
theorem d_te_isSign_17 : decode q_te_isSign.2.1 17 = .ok (.aload_n 0, 1) := by decide +kernel
theorem d_te_isSign_18 : decode q_te_isSign.2.1 18 = .ok (.getfield 19, 3) := by decide +kernel
theorem d_te_isSign_21 : decode q_te_isSign.2.1 21 = .ok (.aload_n 0, 1) := by decide +kernel
theorem d_te_isSign_22 : decode q_te_isSign.2.1 22 = .ok (.getfield 35, 3) := by decide +kernel
theorem d_te_isSign_25 : decode q_te_isSign.2.1 25 = .ok (.iaload, 1) := by decide +kernel
theorem d_te_isSign_26 : decode q_te_isSign.2.1 26 = .ok (.baload, 1) := by decide +kernel
theorem d_te_isSign_27 : decode q_te_isSign.2.1 27 = .ok (.iload_n 1, 1) := by decide +kernel
theorem d_te_isSign_28 : decode q_te_isSign.2.1 28 = .ok (.if_icmp .ne 7, 3) := by decide +kernel
theorem d_te_isSign_31 : decode q_te_isSign.2.1 31 = .ok (.iconst 1, 1) := by decide +kernel
theorem d_te_isSign_32 : decode q_te_isSign.2.1 32 = .ok (.goto 4, 3) := by decide +kernel
theorem d_te_isSign_35 : decode q_te_isSign.2.1 35 = .ok (.iconst 0, 1) := by decide +kernel
theorem d_te_isSign_36 : decode q_te_isSign.2.1 36 = .ok (.ireturn, 1) := by decide +kernel
theorem w_te_isSign_L36 (l : Launch) (lo hi d : Nat) {h' : sm_H} {r0 : Int32} (s0 : Int32) (h : sm_H) (hf : f_te_isSign_L36 s0 h = some (r0, h')) : sm_W l lo hi (d) q_te_isSign 36 [] [.int s0] h (some (.int r0)) h' := by
  unfold f_te_isSign_L36 at hf
  obtain ⟨c6, hf⟩ := sm_gdE hf
  obtain ⟨rfl, rfl⟩ := sm_ret2 hf
  exact sm_bret c6 d_te_isSign_36 rfl
theorem m_te_isSign (l : Launch) (lo hi d : Nat) {a0 : Nat} {a1 : Int32} {r0 : Int32} {h h' : sm_H} (e0 : sm_at lo hi (0, 8, 0) a0) (hf : f_te_isSign a0 a1 h = some (r0, h')) : sm_Met l lo hi (d) q_te_isSign [.ref a0, .int a1] h (some (.int r0)) h' := by
  refine sm_Met.of (by decide +kernel) rfl ?_
  show sm_W l lo hi (d) q_te_isSign 0 [(0, .ref a0), (1, .int a1)] [] h (some (.int r0)) h'
  unfold f_te_isSign at hf
  refine sm_aload_n 0 rfl d_te_isSign_0 ?_
  refine sm_getR (n := 2) fl_te_15 e0 rfl d_te_isSign_1 ?_
  refine sm_aload_n 0 rfl d_te_isSign_4 ?_
  refine sm_getI fl_te_35 e0 rfl d_te_isSign_5 ?_
  obtain ⟨c1, hf⟩ := sm_gdE hf
  refine sm_iald (sm_at_arr (sm_inner e0 2 rfl rfl rfl)) c1 d_te_isSign_8 ?_
  refine sm_iconst (v := 3) (by decide) d_te_isSign_9 ?_
  refine sm_icmp_ne 35 d_te_isSign_10 rfl (fun c2 => ?_) (fun c2 => ?_)
  · have hf := sm_ifF c2 hf
    refine sm_iconst (v := 0) (by decide) d_te_isSign_35 ?_
    refine sm_sub [] rfl ?_
    exact w_te_isSign_L36 l lo hi d _ _ hf
  · have hf := sm_ifT c2 hf
    refine sm_aload_n 0 rfl d_te_isSign_13 ?_
    refine sm_getR (n := 1) fl_te_9 e0 rfl d_te_isSign_14 ?_
    refine sm_aload_n 0 rfl d_te_isSign_17 ?_
    refine sm_getR (n := 3) fl_te_19 e0 rfl d_te_isSign_18 ?_
    refine sm_aload_n 0 rfl d_te_isSign_21 ?_
    refine sm_getI fl_te_35 e0 rfl d_te_isSign_22 ?_
    obtain ⟨c3, hf⟩ := sm_gdE hf
    refine sm_iald (sm_at_arr (sm_inner e0 3 rfl rfl rfl)) c3 d_te_isSign_25 ?_
    obtain ⟨c4, hf⟩ := sm_gdE hf
    refine sm_bald (sm_at_arr (sm_inner e0 0 rfl rfl rfl)) c4 d_te_isSign_26 ?_
    refine sm_iload_n 1 rfl d_te_isSign_27 ?_
    refine sm_icmp_ne 35 d_te_isSign_28 rfl (fun c5 => ?_) (fun c5 => ?_)
    · have hf := sm_ifF c5 hf
      refine sm_iconst (v := 0) (by decide) d_te_isSign_35 ?_
      refine sm_sub [] rfl ?_
      exact w_te_isSign_L36 l lo hi d _ _ hf
    · have hf := sm_ifT c5 hf
      refine sm_iconst (v := 1) (by decide) d_te_isSign_31 ?_
      refine sm_goto 36 d_te_isSign_32 rfl ?_
      refine sm_sub [] rfl ?_
      exact w_te_isSign_L36 l lo hi d _ _ hf
theorem d_re_takeSign_0 : decode q_re_takeSign.2.1 0 = .ok (.aload_n 0, 1) := by decide +kernel
theorem d_re_takeSign_1 : decode q_re_takeSign.2.1 1 = .ok (.getfield 12, 3) := by decide +kernel
theorem d_re_takeSign_4 : decode q_re_takeSign.2.1 4 = .ok (.iload_n 1, 1) := by decide +kernel
theorem d_re_takeSign_5 : decode q_re_takeSign.2.1 5 = .ok (.invokevirtual 66, 3) := by decide +kernel
theorem d_re_takeSign_8 : decode q_re_takeSign.2.1 8 = .ok (.istore_n 2, 1) := by decide +kernel
theorem d_re_takeSign_9 : decode q_re_takeSign.2.1 9 = .ok (.iload_n 2, 1) := by decide +kernel
theorem d_re_takeSign_10 : decode q_re_takeSign.2.1 10 = .ok (.ifCond .eq 10, 3) := by decide +kernel
theorem d_re_takeSign_13 : decode q_re_takeSign.2.1 13 = .ok (.aload_n 0, 1) := by decide +kernel
theorem d_re_takeSign_14 : decode q_re_takeSign.2.1 14 = .ok (.getfield 12, 3) := by decide +kernel
theorem d_re_takeSign_17 : decode q_re_takeSign.2.1 17 = .ok (.invokevirtual 63, 3) := by decide +kernel
theorem d_re_takeSign_20 : decode q_re_takeSign.2.1 20 = .ok (.iload_n 2, 1) := by decide +kernel
theorem d_re_takeSign_21 : decode q_re_takeSign.2.1 21 = .ok (.ireturn, 1) := by decide +kernel
theorem w_re_takeSign_L20 (l : Launch) (lo hi d : Nat) {h' : sm_H} {r0 : Int32} (a2 : Int32) (h : sm_H) (hf : f_re_takeSign_L20 a2 h = some (r0, h')) : sm_W l lo hi (d + 1) q_re_takeSign 20 [(2, .int a2)] [] h (some (.int r0)) h' := by
  unfold f_re_takeSign_L20 at hf
  refine sm_iload_n 0 rfl d_re_takeSign_20 ?_
  obtain ⟨c7, hf⟩ := sm_gdE hf
  obtain ⟨rfl, rfl⟩ := sm_ret2 hf
  exact sm_bret c7 d_re_takeSign_21 rfl
theorem m_re_takeSign (l : Launch) (lo hi d : Nat) {a0 : Nat} {a1 : Int32} {r0 : Int32} {h h' : sm_H} (e0 : sm_at lo hi (0, 5, 0) a0) (hf : f_re_takeSign a0 a1 h = some (r0, h')) : sm_Met l lo hi (d + 1) q_re_takeSign [.ref a0, .int a1] h (some (.int r0)) h' := by
  refine sm_Met.of (by decide +kernel) rfl ?_
  show sm_W l lo hi (d + 1) q_re_takeSign 0 [(0, .ref a0), (1, .int a1)] [] h (some (.int r0)) h'
  unfold f_re_takeSign at hf
  refine sm_aload_n 0 rfl d_re_takeSign_0 ?_
  refine sm_getR (n := 1) fl_re_12 e0 rfl d_re_takeSign_1 ?_
  refine sm_iload_n 1 rfl d_re_takeSign_4 ?_
  obtain ⟨r1, g2, c3, hf⟩ := sm_b2E hf
  refine sm_callV (As := [.int a1]) (rv := some (.int r1)) (h1 := g2) (c := 8) cvv_re_66 rfl rfl (sm_inner e0 0 rfl rfl rfl) (m_te_isSign l lo hi _ (sm_inner e0 0 rfl rfl rfl) c3) rfl rfl d_re_takeSign_5 ?_
  refine sm_istore_n (lv' := [(2, .int r1), (0, .ref a0), (1, .int a1)]) d_re_takeSign_8 rfl rfl ?_
  refine sm_iload_n 0 rfl d_re_takeSign_9 ?_
  refine sm_if_eq 20 d_re_takeSign_10 rfl (fun c4 => ?_) (fun c4 => ?_)
  · have hf := sm_ifT c4 hf
    refine sm_sub [0] rfl ?_
    exact w_re_takeSign_L20 l lo hi d _ _ hf
  · have hf := sm_ifF c4 hf
    refine sm_aload_n 1 rfl d_re_takeSign_13 ?_
    refine sm_getR (n := 1) fl_re_12 e0 rfl d_re_takeSign_14 ?_
    obtain ⟨g5, c6, hf⟩ := sm_bindE hf
    refine sm_callV (As := []) (rv := none) (h1 := g5) (c := 8) cvv_re_63 rfl rfl (sm_inner e0 0 rfl rfl rfl) (m_te_advance l lo hi _ (sm_inner e0 0 rfl rfl rfl) c6) rfl rfl d_re_takeSign_17 ?_
    refine sm_sub [0] rfl ?_
    exact w_re_takeSign_L20 l lo hi d _ _ hf
theorem d_re_needSign_0 : decode q_re_needSign.2.1 0 = .ok (.aload_n 0, 1) := by decide +kernel
theorem d_re_needSign_1 : decode q_re_needSign.2.1 1 = .ok (.iload_n 1, 1) := by decide +kernel
theorem d_re_needSign_2 : decode q_re_needSign.2.1 2 = .ok (.invokevirtual 70, 3) := by decide +kernel
theorem d_re_needSign_5 : decode q_re_needSign.2.1 5 = .ok (.ifCond .ne 8, 3) := by decide +kernel
theorem d_re_needSign_8 : decode q_re_needSign.2.1 8 = .ok (.aload_n 0, 1) := by decide +kernel
theorem d_re_needSign_9 : decode q_re_needSign.2.1 9 = .ok (.iconst 1, 1) := by decide +kernel
theorem d_re_needSign_10 : decode q_re_needSign.2.1 10 = .ok (.invokevirtual 73, 3) := by decide +kernel
theorem d_re_needSign_13 : decode q_re_needSign.2.1 13 = .ok (.return_, 1) := by decide +kernel
theorem m_re_needSign (l : Launch) (lo hi d : Nat) {a0 : Nat} {a1 : Int32} {h h' : sm_H} (e0 : sm_at lo hi (0, 5, 0) a0) (hf : f_re_needSign a0 a1 h = some h') : sm_Met l lo hi (d + 2) q_re_needSign [.ref a0, .int a1] h none h' := by
  refine sm_Met.of (by decide +kernel) rfl ?_
  show sm_W l lo hi (d + 2) q_re_needSign 0 [(0, .ref a0), (1, .int a1)] [] h none h'
  unfold f_re_needSign at hf
  refine sm_aload_n 0 rfl d_re_needSign_0 ?_
  refine sm_iload_n 1 rfl d_re_needSign_1 ?_
  obtain ⟨r1, g2, c3, hf⟩ := sm_b2E hf
  refine sm_callV (As := [.int a1]) (rv := some (.int r1)) (h1 := g2) (c := 5) cvv_re_70 rfl rfl e0 (m_re_takeSign l lo hi _ e0 c3) rfl rfl d_re_needSign_2 ?_
  refine sm_if_ne 13 d_re_needSign_5 rfl (fun c4 => ?_) (fun c4 => ?_)
  · have hf := sm_ifF c4 hf
    obtain rfl := sm_ret1 hf
    exact sm_vret d_re_needSign_13 rfl
  · have hf := sm_ifT c4 hf
    refine sm_aload_n 0 rfl d_re_needSign_8 ?_
    refine sm_iconst (v := 1) (by decide) d_re_needSign_9 ?_
    obtain ⟨g5, c6, hf⟩ := sm_bindE hf
    refine sm_callV (As := [.int 1]) (rv := none) (h1 := g5) (c := 5) cvv_re_73 rfl rfl e0 (m_re_fail l lo hi _ e0 c6) rfl rfl d_re_needSign_10 ?_
    obtain rfl := sm_ret1 hf
    exact sm_vret d_re_needSign_13 rfl
theorem d_re_objectsOf_0 : decode q_re_objectsOf.2.1 0 = .ok (.iload_n 1, 1) := by decide +kernel
theorem d_re_objectsOf_1 : decode q_re_objectsOf.2.1 1 = .ok (.ifCond .eq 8, 3) := by decide +kernel
theorem d_re_objectsOf_4 : decode q_re_objectsOf.2.1 4 = .ok (.iload_n 1, 1) := by decide +kernel
theorem d_re_objectsOf_5 : decode q_re_objectsOf.2.1 5 = .ok (.iconst 1, 1) := by decide +kernel
theorem d_re_objectsOf_6 : decode q_re_objectsOf.2.1 6 = .ok (.if_icmp .ne 11, 3) := by decide +kernel
theorem d_re_objectsOf_9 : decode q_re_objectsOf.2.1 9 = .ok (.aload_n 0, 1) := by decide +kernel
theorem d_re_objectsOf_10 : decode q_re_objectsOf.2.1 10 = .ok (.getfield 21, 3) := by decide +kernel
theorem d_re_objectsOf_13 : decode q_re_objectsOf.2.1 13 = .ok (.getfield 92, 3) := by decide +kernel
theorem d_re_objectsOf_16 : decode q_re_objectsOf.2.1 16 = .ok (.ireturn, 1) := by decide +kernel
theorem d_re_objectsOf_17 : decode q_re_objectsOf.2.1 17 = .ok (.iload_n 1, 1) := by decide +kernel
theorem d_re_objectsOf_18 : decode q_re_objectsOf.2.1 18 = .ok (.iconst 2, 1) := by decide +kernel
theorem d_re_objectsOf_19 : decode q_re_objectsOf.2.1 19 = .ok (.if_icmp .eq 8, 3) := by decide +kernel
theorem d_re_objectsOf_22 : decode q_re_objectsOf.2.1 22 = .ok (.iload_n 1, 1) := by decide +kernel
theorem d_re_objectsOf_23 : decode q_re_objectsOf.2.1 23 = .ok (.iconst 3, 1) := by decide +kernel
theorem d_re_objectsOf_24 : decode q_re_objectsOf.2.1 24 = .ok (.if_icmp .ne 13, 3) := by decide +kernel
theorem d_re_objectsOf_27 : decode q_re_objectsOf.2.1 27 = .ok (.aload_n 0, 1) := by decide +kernel
theorem d_re_objectsOf_28 : decode q_re_objectsOf.2.1 28 = .ok (.getfield 21, 3) := by decide +kernel
theorem d_re_objectsOf_31 : decode q_re_objectsOf.2.1 31 = .ok (.getfield 104, 3) := by decide +kernel
theorem d_re_objectsOf_34 : decode q_re_objectsOf.2.1 34 = .ok (.goto 10, 3) := by decide +kernel
theorem d_re_objectsOf_37 : decode q_re_objectsOf.2.1 37 = .ok (.aload_n 0, 1) := by decide +kernel
theorem d_re_objectsOf_38 : decode q_re_objectsOf.2.1 38 = .ok (.getfield 21, 3) := by decide +kernel
theorem d_re_objectsOf_41 : decode q_re_objectsOf.2.1 41 = .ok (.getfield 88, 3) := by decide +kernel
theorem d_re_objectsOf_44 : decode q_re_objectsOf.2.1 44 = .ok (.ireturn, 1) := by decide +kernel
theorem w_re_objectsOf_L9 (l : Launch) (lo hi d : Nat) (hS : sm_has lo hi) {h' : sm_H} {r0 : Int32} (a0 : Nat) (h : sm_H) (e0 : sm_at lo hi (0, 5, 0) a0) (hf : f_re_objectsOf_L9 a0 h = some (r0, h')) : sm_W l lo hi (d) q_re_objectsOf 9 [(0, .ref a0)] [] h (some (.int r0)) h' := by
  unfold f_re_objectsOf_L9 at hf
  refine sm_aload_n 0 rfl d_re_objectsOf_9 ?_
  obtain ⟨c15, hf⟩ := sm_gdE hf
  obtain ⟨z16, v17⟩ := sm_isP_at hS c15
  refine sm_getD fl_re_21 e0 rfl z16 d_re_objectsOf_10 ?_
  refine sm_nmR (fun p18 w19 => ?_)
  have hf := sm_letV w19 hf
  have v17 := sm_ev w19 v17
  refine sm_getI fl_re_92 v17 rfl d_re_objectsOf_13 ?_
  obtain ⟨rfl, rfl⟩ := sm_ret2 hf
  exact sm_iret d_re_objectsOf_16 rfl
theorem w_re_objectsOf_L44 (l : Launch) (lo hi d : Nat) (hS : sm_has lo hi) {h' : sm_H} {r0 : Int32} (s0 : Int32) (h : sm_H) (hf : f_re_objectsOf_L44 s0 h = some (r0, h')) : sm_W l lo hi (d) q_re_objectsOf 44 [] [.int s0] h (some (.int r0)) h' := by
  unfold f_re_objectsOf_L44 at hf
  obtain ⟨rfl, rfl⟩ := sm_ret2 hf
  exact sm_iret d_re_objectsOf_44 rfl
theorem w_re_objectsOf_L27 (l : Launch) (lo hi d : Nat) (hS : sm_has lo hi) {h' : sm_H} {r0 : Int32} (a0 : Nat) (h : sm_H) (e0 : sm_at lo hi (0, 5, 0) a0) (hf : f_re_objectsOf_L27 a0 h = some (r0, h')) : sm_W l lo hi (d) q_re_objectsOf 27 [(0, .ref a0)] [] h (some (.int r0)) h' := by
  unfold f_re_objectsOf_L27 at hf
  refine sm_aload_n 0 rfl d_re_objectsOf_27 ?_
  obtain ⟨c10, hf⟩ := sm_gdE hf
  obtain ⟨z11, v12⟩ := sm_isP_at hS c10
  refine sm_getD fl_re_21 e0 rfl z11 d_re_objectsOf_28 ?_
  refine sm_nmR (fun p13 w14 => ?_)
  have hf := sm_letV w14 hf
  have v12 := sm_ev w14 v12
  refine sm_getI fl_re_104 v12 rfl d_re_objectsOf_31 ?_
  refine sm_goto 44 d_re_objectsOf_34 rfl ?_
  refine sm_sub [] rfl ?_
  exact w_re_objectsOf_L44 l lo hi d hS _ _ hf
theorem m_re_objectsOf (l : Launch) (lo hi d : Nat) (hS : sm_has lo hi) {a0 : Nat} {a1 : Int32} {r0 : Int32} {h h' : sm_H} (e0 : sm_at lo hi (0, 5, 0) a0) (hf : f_re_objectsOf a0 a1 h = some (r0, h')) : sm_Met l lo hi (d) q_re_objectsOf [.ref a0, .int a1] h (some (.int r0)) h' := by
  refine sm_Met.of (by decide +kernel) rfl ?_
  show sm_W l lo hi (d) q_re_objectsOf 0 [(0, .ref a0), (1, .int a1)] [] h (some (.int r0)) h'
  unfold f_re_objectsOf at hf
  refine sm_iload_n 1 rfl d_re_objectsOf_0 ?_
  refine sm_if_eq 9 d_re_objectsOf_1 rfl (fun c1 => ?_) (fun c1 => ?_)
  · have hf := sm_ifT c1 hf
    refine sm_sub [0] rfl ?_
    exact w_re_objectsOf_L9 l lo hi d hS _ _ e0 hf
  · have hf := sm_ifF c1 hf
    refine sm_iload_n 1 rfl d_re_objectsOf_4 ?_
    refine sm_iconst (v := 1) (by decide) d_re_objectsOf_5 ?_
    refine sm_icmp_ne 17 d_re_objectsOf_6 rfl (fun c2 => ?_) (fun c2 => ?_)
    · have hf := sm_ifF c2 hf
      refine sm_iload_n 1 rfl d_re_objectsOf_17 ?_
      refine sm_iconst (v := 2) (by decide) d_re_objectsOf_18 ?_
      refine sm_icmp_eq 27 d_re_objectsOf_19 rfl (fun c3 => ?_) (fun c3 => ?_)
      · have hf := sm_ifT c3 hf
        refine sm_sub [0] rfl ?_
        exact w_re_objectsOf_L27 l lo hi d hS _ _ e0 hf
      · have hf := sm_ifF c3 hf
        refine sm_iload_n 1 rfl d_re_objectsOf_22 ?_
        refine sm_iconst (v := 3) (by decide) d_re_objectsOf_23 ?_
        refine sm_icmp_ne 37 d_re_objectsOf_24 rfl (fun c4 => ?_) (fun c4 => ?_)
        · have hf := sm_ifF c4 hf
          refine sm_aload_n 0 rfl d_re_objectsOf_37 ?_
          obtain ⟨c5, hf⟩ := sm_gdE hf
          obtain ⟨z6, v7⟩ := sm_isP_at hS c5
          refine sm_getD fl_re_21 e0 rfl z6 d_re_objectsOf_38 ?_
          refine sm_nmR (fun p8 w9 => ?_)
          have hf := sm_letV w9 hf
          have v7 := sm_ev w9 v7
          refine sm_getI fl_re_88 v7 rfl d_re_objectsOf_41 ?_
          refine sm_sub [] rfl ?_
          exact w_re_objectsOf_L44 l lo hi d hS _ _ hf
        · have hf := sm_ifT c4 hf
          refine sm_sub [0] rfl ?_
          exact w_re_objectsOf_L27 l lo hi d hS _ _ e0 hf
    · have hf := sm_ifT c2 hf
      refine sm_sub [0] rfl ?_
      exact w_re_objectsOf_L9 l lo hi d hS _ _ e0 hf
theorem d_re_verbHere_0 : decode q_re_verbHere.2.1 0 = .ok (.aload_n 0, 1) := by decide +kernel
theorem d_re_verbHere_1 : decode q_re_verbHere.2.1 1 = .ok (.getfield 12, 3) := by decide +kernel
theorem d_re_verbHere_4 : decode q_re_verbHere.2.1 4 = .ok (.ldc 151, 2) := by decide +kernel
theorem d_re_verbHere_6 : decode q_re_verbHere.2.1 6 = .ok (.invokevirtual 59, 3) := by decide +kernel
theorem d_re_verbHere_9 : decode q_re_verbHere.2.1 9 = .ok (.ifCond .eq 7, 3) := by decide +kernel
theorem d_re_verbHere_12 : decode q_re_verbHere.2.1 12 = .ok (.iconst 0, 1) := by decide +kernel
theorem d_re_verbHere_13 : decode q_re_verbHere.2.1 13 = .ok (.goto 118, 3) := by decide +kernel
theorem d_re_verbHere_16 : decode q_re_verbHere.2.1 16 = .ok (.aload_n 0, 1) := by decide +kernel
theorem d_re_verbHere_17 : decode q_re_verbHere.2.1 17 = .ok (.getfield 12, 3) := by decide +kernel
theorem d_re_verbHere_20 : decode q_re_verbHere.2.1 20 = .ok (.ldc 227, 2) := by decide +kernel
theorem d_re_verbHere_22 : decode q_re_verbHere.2.1 22 = .ok (.invokevirtual 59, 3) := by decide +kernel
theorem d_re_verbHere_25 : decode q_re_verbHere.2.1 25 = .ok (.ifCond .eq 7, 3) := by decide +kernel
theorem d_re_verbHere_28 : decode q_re_verbHere.2.1 28 = .ok (.iconst 1, 1) := by decide +kernel
theorem d_re_verbHere_29 : decode q_re_verbHere.2.1 29 = .ok (.goto 102, 3) := by decide +kernel
theorem d_re_verbHere_32 : decode q_re_verbHere.2.1 32 = .ok (.aload_n 0, 1) := by decide +kernel
theorem d_re_verbHere_33 : decode q_re_verbHere.2.1 33 = .ok (.getfield 12, 3) := by decide +kernel
theorem d_re_verbHere_36 : decode q_re_verbHere.2.1 36 = .ok (.ldc 229, 2) := by decide +kernel
theorem d_re_verbHere_38 : decode q_re_verbHere.2.1 38 = .ok (.invokevirtual 59, 3) := by decide +kernel
theorem d_re_verbHere_41 : decode q_re_verbHere.2.1 41 = .ok (.ifCond .eq 7, 3) := by decide +kernel
theorem d_re_verbHere_44 : decode q_re_verbHere.2.1 44 = .ok (.iconst 2, 1) := by decide +kernel
theorem d_re_verbHere_45 : decode q_re_verbHere.2.1 45 = .ok (.goto 86, 3) := by decide +kernel
theorem d_re_verbHere_48 : decode q_re_verbHere.2.1 48 = .ok (.aload_n 0, 1) := by decide +kernel
theorem d_re_verbHere_49 : decode q_re_verbHere.2.1 49 = .ok (.getfield 12, 3) := by decide +kernel
theorem d_re_verbHere_52 : decode q_re_verbHere.2.1 52 = .ok (.ldc 230, 2) := by decide +kernel
theorem d_re_verbHere_54 : decode q_re_verbHere.2.1 54 = .ok (.invokevirtual 59, 3) := by decide +kernel
theorem d_re_verbHere_57 : decode q_re_verbHere.2.1 57 = .ok (.ifCond .eq 7, 3) := by decide +kernel
theorem d_re_verbHere_60 : decode q_re_verbHere.2.1 60 = .ok (.iconst 3, 1) := by decide +kernel
theorem d_re_verbHere_61 : decode q_re_verbHere.2.1 61 = .ok (.goto 70, 3) := by decide +kernel
theorem d_re_verbHere_64 : decode q_re_verbHere.2.1 64 = .ok (.aload_n 0, 1) := by decide +kernel
theorem d_re_verbHere_65 : decode q_re_verbHere.2.1 65 = .ok (.getfield 12, 3) := by decide +kernel
theorem d_re_verbHere_68 : decode q_re_verbHere.2.1 68 = .ok (.ldc 231, 2) := by decide +kernel
theorem d_re_verbHere_70 : decode q_re_verbHere.2.1 70 = .ok (.invokevirtual 59, 3) := by decide +kernel
theorem d_re_verbHere_73 : decode q_re_verbHere.2.1 73 = .ok (.ifCond .eq 7, 3) := by decide +kernel
theorem d_re_verbHere_76 : decode q_re_verbHere.2.1 76 = .ok (.iconst 4, 1) := by decide +kernel
theorem d_re_verbHere_77 : decode q_re_verbHere.2.1 77 = .ok (.goto 54, 3) := by decide +kernel
theorem d_re_verbHere_80 : decode q_re_verbHere.2.1 80 = .ok (.aload_n 0, 1) := by decide +kernel
theorem d_re_verbHere_81 : decode q_re_verbHere.2.1 81 = .ok (.getfield 12, 3) := by decide +kernel
theorem d_re_verbHere_84 : decode q_re_verbHere.2.1 84 = .ok (.ldc 233, 2) := by decide +kernel
theorem d_re_verbHere_86 : decode q_re_verbHere.2.1 86 = .ok (.invokevirtual 59, 3) := by decide +kernel
theorem d_re_verbHere_89 : decode q_re_verbHere.2.1 89 = .ok (.ifCond .eq 7, 3) := by decide +kernel
theorem d_re_verbHere_92 : decode q_re_verbHere.2.1 92 = .ok (.iconst 5, 1) := by decide +kernel
theorem d_re_verbHere_93 : decode q_re_verbHere.2.1 93 = .ok (.goto 38, 3) := by decide +kernel
theorem d_re_verbHere_96 : decode q_re_verbHere.2.1 96 = .ok (.aload_n 0, 1) := by decide +kernel
theorem d_re_verbHere_97 : decode q_re_verbHere.2.1 97 = .ok (.getfield 12, 3) := by decide +kernel
theorem d_re_verbHere_100 : decode q_re_verbHere.2.1 100 = .ok (.ldc 235, 2) := by decide +kernel
theorem d_re_verbHere_102 : decode q_re_verbHere.2.1 102 = .ok (.invokevirtual 59, 3) := by decide +kernel
theorem d_re_verbHere_105 : decode q_re_verbHere.2.1 105 = .ok (.ifCond .eq 8, 3) := by decide +kernel
theorem d_re_verbHere_108 : decode q_re_verbHere.2.1 108 = .ok (.bipush 6, 2) := by decide +kernel
theorem d_re_verbHere_110 : decode q_re_verbHere.2.1 110 = .ok (.goto 21, 3) := by decide +kernel
theorem d_re_verbHere_113 : decode q_re_verbHere.2.1 113 = .ok (.aload_n 0, 1) := by decide +kernel
theorem d_re_verbHere_114 : decode q_re_verbHere.2.1 114 = .ok (.getfield 12, 3) := by decide +kernel
theorem d_re_verbHere_117 : decode q_re_verbHere.2.1 117 = .ok (.ldc 237, 2) := by decide +kernel
theorem d_re_verbHere_119 : decode q_re_verbHere.2.1 119 = .ok (.invokevirtual 59, 3) := by decide +kernel
theorem d_re_verbHere_122 : decode q_re_verbHere.2.1 122 = .ok (.ifCond .eq 8, 3) := by decide +kernel
theorem d_re_verbHere_125 : decode q_re_verbHere.2.1 125 = .ok (.bipush 7, 2) := by decide +kernel
theorem d_re_verbHere_127 : decode q_re_verbHere.2.1 127 = .ok (.goto 4, 3) := by decide +kernel
theorem d_re_verbHere_130 : decode q_re_verbHere.2.1 130 = .ok (.iconst (-1), 1) := by decide +kernel
theorem d_re_verbHere_131 : decode q_re_verbHere.2.1 131 = .ok (.ireturn, 1) := by decide +kernel
theorem w_re_verbHere_L131 (l : Launch) (lo hi d : Nat) {h' : sm_H} {r0 : Int32} (s0 : Int32) (h : sm_H) (hf : f_re_verbHere_L131 s0 h = some (r0, h')) : sm_W l lo hi (d + 5) q_re_verbHere 131 [] [.int s0] h (some (.int r0)) h' := by
  unfold f_re_verbHere_L131 at hf
  obtain ⟨rfl, rfl⟩ := sm_ret2 hf
  exact sm_iret d_re_verbHere_131 rfl
theorem m_re_verbHere (l : Launch) (lo hi d : Nat) {a0 : Nat} {r0 : Int32} {h h' : sm_H} (e0 : sm_at lo hi (0, 5, 0) a0) (hf : f_re_verbHere a0 h = some (r0, h')) : sm_Met l lo hi (d + 5) q_re_verbHere [.ref a0] h (some (.int r0)) h' := by
  refine sm_Met.of (by decide +kernel) rfl ?_
  show sm_W l lo hi (d + 5) q_re_verbHere 0 [(0, .ref a0)] [] h (some (.int r0)) h'
  unfold f_re_verbHere at hf
  refine sm_aload_n 0 rfl d_re_verbHere_0 ?_
  refine sm_getR (n := 1) fl_re_12 e0 rfl d_re_verbHere_1 ?_
  refine sm_ldcS 4 (z := (151, "open")) rfl rfl d_re_verbHere_4 ?_
  obtain ⟨r1, g2, c3, hf⟩ := sm_b2E hf
  refine sm_callV (As := [.ref (5000 + 4)]) (rv := some (.int r1)) (h1 := g2) (c := 8) cvv_re_59 rfl rfl (sm_inner e0 0 rfl rfl rfl) (m_te_isWord l lo hi _ (sm_inner e0 0 rfl rfl rfl) rfl c3) rfl rfl d_re_verbHere_6 ?_
  refine sm_if_eq 16 d_re_verbHere_9 rfl (fun c4 => ?_) (fun c4 => ?_)
  · have hf := sm_ifT c4 hf
    refine sm_aload_n 0 rfl d_re_verbHere_16 ?_
    refine sm_getR (n := 1) fl_re_12 e0 rfl d_re_verbHere_17 ?_
    refine sm_ldcS 21 (z := (227, "shut")) rfl rfl d_re_verbHere_20 ?_
    obtain ⟨r5, g6, c7, hf⟩ := sm_b2E hf
    refine sm_callV (As := [.ref (5000 + 21)]) (rv := some (.int r5)) (h1 := g6) (c := 8) cvv_re_59 rfl rfl (sm_inner e0 0 rfl rfl rfl) (m_te_isWord l lo hi _ (sm_inner e0 0 rfl rfl rfl) rfl c7) rfl rfl d_re_verbHere_22 ?_
    refine sm_if_eq 32 d_re_verbHere_25 rfl (fun c8 => ?_) (fun c8 => ?_)
    · have hf := sm_ifT c8 hf
      refine sm_aload_n 0 rfl d_re_verbHere_32 ?_
      refine sm_getR (n := 1) fl_re_12 e0 rfl d_re_verbHere_33 ?_
      refine sm_ldcS 22 (z := (229, "start")) rfl rfl d_re_verbHere_36 ?_
      obtain ⟨r9, g10, c11, hf⟩ := sm_b2E hf
      refine sm_callV (As := [.ref (5000 + 22)]) (rv := some (.int r9)) (h1 := g10) (c := 8) cvv_re_59 rfl rfl (sm_inner e0 0 rfl rfl rfl) (m_te_isWord l lo hi _ (sm_inner e0 0 rfl rfl rfl) rfl c11) rfl rfl d_re_verbHere_38 ?_
      refine sm_if_eq 48 d_re_verbHere_41 rfl (fun c12 => ?_) (fun c12 => ?_)
      · have hf := sm_ifT c12 hf
        refine sm_aload_n 0 rfl d_re_verbHere_48 ?_
        refine sm_getR (n := 1) fl_re_12 e0 rfl d_re_verbHere_49 ?_
        refine sm_ldcS 23 (z := (230, "stop")) rfl rfl d_re_verbHere_52 ?_
        obtain ⟨r13, g14, c15, hf⟩ := sm_b2E hf
        refine sm_callV (As := [.ref (5000 + 23)]) (rv := some (.int r13)) (h1 := g14) (c := 8) cvv_re_59 rfl rfl (sm_inner e0 0 rfl rfl rfl) (m_te_isWord l lo hi _ (sm_inner e0 0 rfl rfl rfl) rfl c15) rfl rfl d_re_verbHere_54 ?_
        refine sm_if_eq 64 d_re_verbHere_57 rfl (fun c16 => ?_) (fun c16 => ?_)
        · have hf := sm_ifT c16 hf
          refine sm_aload_n 0 rfl d_re_verbHere_64 ?_
          refine sm_getR (n := 1) fl_re_12 e0 rfl d_re_verbHere_65 ?_
          refine sm_ldcS 24 (z := (231, "extract")) rfl rfl d_re_verbHere_68 ?_
          obtain ⟨r17, g18, c19, hf⟩ := sm_b2E hf
          refine sm_callV (As := [.ref (5000 + 24)]) (rv := some (.int r17)) (h1 := g18) (c := 8) cvv_re_59 rfl rfl (sm_inner e0 0 rfl rfl rfl) (m_te_isWord l lo hi _ (sm_inner e0 0 rfl rfl rfl) rfl c19) rfl rfl d_re_verbHere_70 ?_
          refine sm_if_eq 80 d_re_verbHere_73 rfl (fun c20 => ?_) (fun c20 => ?_)
          · have hf := sm_ifT c20 hf
            refine sm_aload_n 0 rfl d_re_verbHere_80 ?_
            refine sm_getR (n := 1) fl_re_12 e0 rfl d_re_verbHere_81 ?_
            refine sm_ldcS 25 (z := (233, "press")) rfl rfl d_re_verbHere_84 ?_
            obtain ⟨r21, g22, c23, hf⟩ := sm_b2E hf
            refine sm_callV (As := [.ref (5000 + 25)]) (rv := some (.int r21)) (h1 := g22) (c := 8) cvv_re_59 rfl rfl (sm_inner e0 0 rfl rfl rfl) (m_te_isWord l lo hi _ (sm_inner e0 0 rfl rfl rfl) rfl c23) rfl rfl d_re_verbHere_86 ?_
            refine sm_if_eq 96 d_re_verbHere_89 rfl (fun c24 => ?_) (fun c24 => ?_)
            · have hf := sm_ifT c24 hf
              refine sm_aload_n 0 rfl d_re_verbHere_96 ?_
              refine sm_getR (n := 1) fl_re_12 e0 rfl d_re_verbHere_97 ?_
              refine sm_ldcS 26 (z := (235, "close")) rfl rfl d_re_verbHere_100 ?_
              obtain ⟨r25, g26, c27, hf⟩ := sm_b2E hf
              refine sm_callV (As := [.ref (5000 + 26)]) (rv := some (.int r25)) (h1 := g26) (c := 8) cvv_re_59 rfl rfl (sm_inner e0 0 rfl rfl rfl) (m_te_isWord l lo hi _ (sm_inner e0 0 rfl rfl rfl) rfl c27) rfl rfl d_re_verbHere_102 ?_
              refine sm_if_eq 113 d_re_verbHere_105 rfl (fun c28 => ?_) (fun c28 => ?_)
              · have hf := sm_ifT c28 hf
                refine sm_aload_n 0 rfl d_re_verbHere_113 ?_
                refine sm_getR (n := 1) fl_re_12 e0 rfl d_re_verbHere_114 ?_
                refine sm_ldcS 27 (z := (237, "purge")) rfl rfl d_re_verbHere_117 ?_
                obtain ⟨r29, g30, c31, hf⟩ := sm_b2E hf
                refine sm_callV (As := [.ref (5000 + 27)]) (rv := some (.int r29)) (h1 := g30) (c := 8) cvv_re_59 rfl rfl (sm_inner e0 0 rfl rfl rfl) (m_te_isWord l lo hi _ (sm_inner e0 0 rfl rfl rfl) rfl c31) rfl rfl d_re_verbHere_119 ?_
                refine sm_if_eq 130 d_re_verbHere_122 rfl (fun c32 => ?_) (fun c32 => ?_)
                · have hf := sm_ifT c32 hf
                  refine sm_iconst (v := (-1)) (by decide) d_re_verbHere_130 ?_
                  refine sm_sub [] rfl ?_
                  exact w_re_verbHere_L131 l lo hi d _ _ hf
                · have hf := sm_ifF c32 hf
                  refine sm_bipush (v := 7) (by decide) d_re_verbHere_125 ?_
                  refine sm_goto 131 d_re_verbHere_127 rfl ?_
                  refine sm_sub [] rfl ?_
                  exact w_re_verbHere_L131 l lo hi d _ _ hf
              · have hf := sm_ifF c28 hf
                refine sm_bipush (v := 6) (by decide) d_re_verbHere_108 ?_
                refine sm_goto 131 d_re_verbHere_110 rfl ?_
                refine sm_sub [] rfl ?_
                exact w_re_verbHere_L131 l lo hi d _ _ hf
            · have hf := sm_ifF c24 hf
              refine sm_iconst (v := 5) (by decide) d_re_verbHere_92 ?_
              refine sm_goto 131 d_re_verbHere_93 rfl ?_
              refine sm_sub [] rfl ?_
              exact w_re_verbHere_L131 l lo hi d _ _ hf
          · have hf := sm_ifF c20 hf
            refine sm_iconst (v := 4) (by decide) d_re_verbHere_76 ?_
            refine sm_goto 131 d_re_verbHere_77 rfl ?_
            refine sm_sub [] rfl ?_
            exact w_re_verbHere_L131 l lo hi d _ _ hf
        · have hf := sm_ifF c16 hf
          refine sm_iconst (v := 3) (by decide) d_re_verbHere_60 ?_
          refine sm_goto 131 d_re_verbHere_61 rfl ?_
          refine sm_sub [] rfl ?_
          exact w_re_verbHere_L131 l lo hi d _ _ hf
      · have hf := sm_ifF c12 hf
        refine sm_iconst (v := 2) (by decide) d_re_verbHere_44 ?_
        refine sm_goto 131 d_re_verbHere_45 rfl ?_
        refine sm_sub [] rfl ?_
        exact w_re_verbHere_L131 l lo hi d _ _ hf
    · have hf := sm_ifF c8 hf
      refine sm_iconst (v := 1) (by decide) d_re_verbHere_28 ?_
      refine sm_goto 131 d_re_verbHere_29 rfl ?_
      refine sm_sub [] rfl ?_
      exact w_re_verbHere_L131 l lo hi d _ _ hf
  · have hf := sm_ifF c4 hf
    refine sm_iconst (v := 0) (by decide) d_re_verbHere_12 ?_
    refine sm_goto 131 d_re_verbHere_13 rfl ?_
    refine sm_sub [] rfl ?_
    exact w_re_verbHere_L131 l lo hi d _ _ hf
theorem d_ru_addAction_0 : decode q_ru_addAction.2.1 0 = .ok (.aload_n 0, 1) := by decide +kernel
theorem d_ru_addAction_1 : decode q_ru_addAction.2.1 1 = .ok (.getfield 37, 3) := by decide +kernel
theorem d_ru_addAction_4 : decode q_ru_addAction.2.1 4 = .ok (.bipush 96, 2) := by decide +kernel
theorem d_ru_addAction_6 : decode q_ru_addAction.2.1 6 = .ok (.if_icmp .ge 33, 3) := by decide +kernel
theorem d_ru_addAction_9 : decode q_ru_addAction.2.1 9 = .ok (.aload_n 0, 1) := by decide +kernel
theorem d_ru_addAction_10 : decode q_ru_addAction.2.1 10 = .ok (.getfield 21, 3) := by decide +kernel
theorem d_ru_addAction_13 : decode q_ru_addAction.2.1 13 = .ok (.aload_n 0, 1) := by decide +kernel
theorem d_ru_addAction_14 : decode q_ru_addAction.2.1 14 = .ok (.getfield 37, 3) := by decide +kernel
theorem d_ru_addAction_17 : decode q_ru_addAction.2.1 17 = .ok (.iload_n 1, 1) := by decide +kernel
theorem d_ru_addAction_18 : decode q_ru_addAction.2.1 18 = .ok (.iastore, 1) := by decide +kernel
theorem d_ru_addAction_19 : decode q_ru_addAction.2.1 19 = .ok (.aload_n 0, 1) := by decide +kernel
theorem d_ru_addAction_20 : decode q_ru_addAction.2.1 20 = .ok (.getfield 24, 3) := by decide +kernel
theorem d_ru_addAction_23 : decode q_ru_addAction.2.1 23 = .ok (.aload_n 0, 1) := by decide +kernel
theorem d_ru_addAction_24 : decode q_ru_addAction.2.1 24 = .ok (.getfield 37, 3) := by decide +kernel
theorem d_ru_addAction_27 : decode q_ru_addAction.2.1 27 = .ok (.iload_n 2, 1) := by decide +kernel
theorem d_ru_addAction_28 : decode q_ru_addAction.2.1 28 = .ok (.iastore, 1) := by decide +kernel
theorem d_ru_addAction_29 : decode q_ru_addAction.2.1 29 = .ok (.aload_n 0, 1) := by decide +kernel
theorem d_ru_addAction_30 : decode q_ru_addAction.2.1 30 = .ok (.dup, 1) := by decide +kernel
theorem d_ru_addAction_31 : decode q_ru_addAction.2.1 31 = .ok (.getfield 37, 3) := by decide +kernel
theorem d_ru_addAction_34 : decode q_ru_addAction.2.1 34 = .ok (.iconst 1, 1) := by decide +kernel
theorem d_ru_addAction_35 : decode q_ru_addAction.2.1 35 = .ok (.iadd, 1) := by decide +kernel
theorem d_ru_addAction_36 : decode q_ru_addAction.2.1 36 = .ok (.putfield 37, 3) := by decide +kernel
theorem d_ru_addAction_39 : decode q_ru_addAction.2.1 39 = .ok (.return_, 1) := by decide +kernel
theorem m_ru_addAction (l : Launch) (lo hi d : Nat) {a0 : Nat} {a1 : Int32} {a2 : Int32} {h h' : sm_H} (e0 : sm_at lo hi (0, 6, 0) a0) (hf : f_ru_addAction a0 a1 a2 h = some h') : sm_Met l lo hi (d) q_ru_addAction [.ref a0, .int a1, .int a2] h none h' := by
  refine sm_Met.of (by decide +kernel) rfl ?_
  show sm_W l lo hi (d) q_ru_addAction 0 [(0, .ref a0), (1, .int a1), (2, .int a2)] [] h none h'
  unfold f_ru_addAction at hf
  refine sm_aload_n 0 rfl d_ru_addAction_0 ?_
  refine sm_getI fl_ru_37 e0 rfl d_ru_addAction_1 ?_
  refine sm_bipush (v := 96) (by decide) d_ru_addAction_4 ?_
  refine sm_icmp_ge 39 d_ru_addAction_6 rfl (fun c1 => ?_) (fun c1 => ?_)
  · have hf := sm_ifT c1 hf
    obtain rfl := sm_ret1 hf
    exact sm_vret d_ru_addAction_39 rfl
  · have hf := sm_ifF c1 hf
    refine sm_aload_n 0 rfl d_ru_addAction_9 ?_
    refine sm_getR (n := 4) fl_ru_21 e0 rfl d_ru_addAction_10 ?_
    refine sm_aload_n 0 rfl d_ru_addAction_13 ?_
    refine sm_getI fl_ru_37 e0 rfl d_ru_addAction_14 ?_
    refine sm_iload_n 1 rfl d_ru_addAction_17 ?_
    obtain ⟨c2, hf⟩ := sm_gdE hf
    refine sm_iast (sm_at_arr (sm_inner e0 6 rfl rfl rfl)) c2 d_ru_addAction_18 ?_
    refine sm_nmH (fun g3 w4 => ?_)
    have hf := sm_letV w4 hf
    refine sm_aload_n 0 rfl d_ru_addAction_19 ?_
    refine sm_getR (n := 5) fl_ru_24 e0 rfl d_ru_addAction_20 ?_
    refine sm_aload_n 0 rfl d_ru_addAction_23 ?_
    refine sm_getI fl_ru_37 e0 rfl d_ru_addAction_24 ?_
    refine sm_iload_n 2 rfl d_ru_addAction_27 ?_
    obtain ⟨c5, hf⟩ := sm_gdE hf
    refine sm_iast (sm_at_arr (sm_inner e0 7 rfl rfl rfl)) c5 d_ru_addAction_28 ?_
    refine sm_nmH (fun g6 w7 => ?_)
    have hf := sm_letV w7 hf
    refine sm_aload_n 0 rfl d_ru_addAction_29 ?_
    refine sm_dup rfl d_ru_addAction_30 ?_
    refine sm_getI fl_ru_37 e0 rfl d_ru_addAction_31 ?_
    refine sm_iconst (v := 1) (by decide) d_ru_addAction_34 ?_
    refine sm_iadd d_ru_addAction_35 ?_
    refine sm_putI fp_ru_37 e0 rfl rfl d_ru_addAction_36 ?_
    refine sm_nmH (fun g8 w9 => ?_)
    have hf := sm_letV w9 hf
    obtain rfl := sm_ret1 hf
    exact sm_vret d_ru_addAction_39 rfl
theorem d_re_action_0 : decode q_re_action.2.1 0 = .ok (.aload_n 0, 1) := by decide +kernel
theorem d_re_action_1 : decode q_re_action.2.1 1 = .ok (.invokevirtual 218, 3) := by decide +kernel
theorem d_re_action_4 : decode q_re_action.2.1 4 = .ok (.istore_n 2, 1) := by decide +kernel
theorem d_re_action_5 : decode q_re_action.2.1 5 = .ok (.iload_n 2, 1) := by decide +kernel
theorem d_re_action_6 : decode q_re_action.2.1 6 = .ok (.ifCond .ge 9, 3) := by decide +kernel
theorem d_re_action_9 : decode q_re_action.2.1 9 = .ok (.aload_n 0, 1) := by decide +kernel
theorem d_re_action_10 : decode q_re_action.2.1 10 = .ok (.iconst 1, 1) := by decide +kernel
theorem d_re_action_11 : decode q_re_action.2.1 11 = .ok (.invokevirtual 73, 3) := by decide +kernel
theorem d_re_action_14 : decode q_re_action.2.1 14 = .ok (.return_, 1) := by decide +kernel
theorem d_re_action_15 : decode q_re_action.2.1 15 = .ok (.iload_n 1, 1) := by decide +kernel
theorem d_re_action_16 : decode q_re_action.2.1 16 = .ok (.bipush 8, 2) := by decide +kernel
theorem d_re_action_18 : decode q_re_action.2.1 18 = .ok (.if_icmp .lt 9, 3) := by decide +kernel
theorem d_re_action_21 : decode q_re_action.2.1 21 = .ok (.aload_n 0, 1) := by decide +kernel
theorem d_re_action_22 : decode q_re_action.2.1 22 = .ok (.iconst 3, 1) := by decide +kernel
theorem d_re_action_23 : decode q_re_action.2.1 23 = .ok (.invokevirtual 73, 3) := by decide +kernel
theorem d_re_action_26 : decode q_re_action.2.1 26 = .ok (.return_, 1) := by decide +kernel
theorem d_re_action_27 : decode q_re_action.2.1 27 = .ok (.aload_n 0, 1) := by decide +kernel
theorem d_re_action_28 : decode q_re_action.2.1 28 = .ok (.getfield 12, 3) := by decide +kernel
theorem d_re_action_31 : decode q_re_action.2.1 31 = .ok (.invokevirtual 63, 3) := by decide +kernel
theorem d_re_action_34 : decode q_re_action.2.1 34 = .ok (.aload_n 0, 1) := by decide +kernel
theorem d_re_action_35 : decode q_re_action.2.1 35 = .ok (.iconst 0, 1) := by decide +kernel
theorem d_re_action_36 : decode q_re_action.2.1 36 = .ok (.aload_n 0, 1) := by decide +kernel
theorem d_re_action_37 : decode q_re_action.2.1 37 = .ok (.iload_n 2, 1) := by decide +kernel
theorem d_re_action_38 : decode q_re_action.2.1 38 = .ok (.invokevirtual 221, 3) := by decide +kernel
theorem d_re_action_41 : decode q_re_action.2.1 41 = .ok (.iconst 1, 1) := by decide +kernel
theorem d_re_action_42 : decode q_re_action.2.1 42 = .ok (.isub, 1) := by decide +kernel
theorem d_re_action_43 : decode q_re_action.2.1 43 = .ok (.invokevirtual 84, 3) := by decide +kernel
theorem d_re_action_46 : decode q_re_action.2.1 46 = .ok (.istore_n 3, 1) := by decide +kernel
theorem d_re_action_47 : decode q_re_action.2.1 47 = .ok (.aload_n 0, 1) := by decide +kernel
theorem d_re_action_48 : decode q_re_action.2.1 48 = .ok (.getfield 21, 3) := by decide +kernel
theorem d_re_action_51 : decode q_re_action.2.1 51 = .ok (.getfield 128, 3) := by decide +kernel
theorem d_re_action_54 : decode q_re_action.2.1 54 = .ok (.iload_n 2, 1) := by decide +kernel
theorem d_re_action_55 : decode q_re_action.2.1 55 = .ok (.iload_n 3, 1) := by decide +kernel
theorem d_re_action_56 : decode q_re_action.2.1 56 = .ok (.invokevirtual 224, 3) := by decide +kernel
theorem d_re_action_59 : decode q_re_action.2.1 59 = .ok (.return_, 1) := by decide +kernel
theorem m_re_action (l : Launch) (lo hi d : Nat) (hS : sm_has lo hi) {a0 : Nat} {a1 : Int32} {h h' : sm_H} (e0 : sm_at lo hi (0, 5, 0) a0) (hf : f_re_action a0 a1 h = some h') : sm_Met l lo hi (d + 6) q_re_action [.ref a0, .int a1] h none h' := by
  refine sm_Met.of (by decide +kernel) rfl ?_
  show sm_W l lo hi (d + 6) q_re_action 0 [(0, .ref a0), (1, .int a1)] [] h none h'
  unfold f_re_action at hf
  refine sm_aload_n 0 rfl d_re_action_0 ?_
  obtain ⟨r1, g2, c3, hf⟩ := sm_b2E hf
  refine sm_callV (As := []) (rv := some (.int r1)) (h1 := g2) (c := 5) cvv_re_218 rfl rfl e0 (m_re_verbHere l lo hi _ e0 c3) rfl rfl d_re_action_1 ?_
  refine sm_istore_n (lv' := [(2, .int r1), (0, .ref a0), (1, .int a1)]) d_re_action_4 rfl rfl ?_
  refine sm_iload_n 0 rfl d_re_action_5 ?_
  refine sm_if_ge 15 d_re_action_6 rfl (fun c4 => ?_) (fun c4 => ?_)
  · have hf := sm_ifT c4 hf
    refine sm_iload_n 2 rfl d_re_action_15 ?_
    refine sm_bipush (v := 8) (by decide) d_re_action_16 ?_
    refine sm_icmp_lt 27 d_re_action_18 rfl (fun c5 => ?_) (fun c5 => ?_)
    · have hf := sm_ifT c5 hf
      refine sm_aload_n 1 rfl d_re_action_27 ?_
      refine sm_getR (n := 1) fl_re_12 e0 rfl d_re_action_28 ?_
      obtain ⟨g6, c7, hf⟩ := sm_bindE hf
      refine sm_callV (As := []) (rv := none) (h1 := g6) (c := 8) cvv_re_63 rfl rfl (sm_inner e0 0 rfl rfl rfl) (m_te_advance l lo hi _ (sm_inner e0 0 rfl rfl rfl) c7) rfl rfl d_re_action_31 ?_
      refine sm_aload_n 1 rfl d_re_action_34 ?_
      refine sm_iconst (v := 0) (by decide) d_re_action_35 ?_
      refine sm_aload_n 1 rfl d_re_action_36 ?_
      refine sm_iload_n 0 rfl d_re_action_37 ?_
      obtain ⟨r8, g9, c10, hf⟩ := sm_b2E hf
      refine sm_callV (As := [.int r1]) (rv := some (.int r8)) (h1 := g9) (c := 5) cvv_re_221 rfl rfl e0 (m_re_objectsOf l lo hi _ hS e0 c10) rfl rfl d_re_action_38 ?_
      refine sm_iconst (v := 1) (by decide) d_re_action_41 ?_
      refine sm_isub d_re_action_42 ?_
      obtain ⟨r11, g12, c13, hf⟩ := sm_b2E hf
      refine sm_callV (As := [.int 0, .int (r8 - 1)]) (rv := some (.int r11)) (h1 := g12) (c := 5) cvv_re_84 rfl rfl e0 (m_re_needNumber l lo hi _ e0 c13) rfl rfl d_re_action_43 ?_
      refine sm_istore_n (lv' := [(3, .int r11), (2, .int r1), (0, .ref a0), (1, .int a1)]) d_re_action_46 rfl rfl ?_
      refine sm_aload_n 2 rfl d_re_action_47 ?_
      obtain ⟨c14, hf⟩ := sm_gdE hf
      obtain ⟨z15, v16⟩ := sm_isP_at hS c14
      refine sm_getD fl_re_21 e0 rfl z15 d_re_action_48 ?_
      refine sm_nmR (fun p17 w18 => ?_)
      have hf := sm_letV w18 hf
      have v16 := sm_ev w18 v16
      refine sm_getR (n := 9) fl_re_128 v16 rfl d_re_action_51 ?_
      refine sm_iload_n 1 rfl d_re_action_54 ?_
      refine sm_iload_n 0 rfl d_re_action_55 ?_
      obtain ⟨g19, c20, hf⟩ := sm_bindE hf
      refine sm_callV (As := [.int r1, .int r11]) (rv := none) (h1 := g19) (c := 6) cvv_re_224 rfl rfl (sm_inner v16 15 rfl rfl rfl) (m_ru_addAction l lo hi _ (sm_inner v16 15 rfl rfl rfl) c20) rfl rfl d_re_action_56 ?_
      obtain rfl := sm_ret1 hf
      exact sm_vret d_re_action_59 rfl
    · have hf := sm_ifF c5 hf
      refine sm_aload_n 1 rfl d_re_action_21 ?_
      refine sm_iconst (v := 3) (by decide) d_re_action_22 ?_
      obtain ⟨g21, c22, hf⟩ := sm_bindE hf
      refine sm_callV (As := [.int 3]) (rv := none) (h1 := g21) (c := 5) cvv_re_73 rfl rfl e0 (m_re_fail l lo hi _ e0 c22) rfl rfl d_re_action_23 ?_
      obtain rfl := sm_ret1 hf
      exact sm_vret d_re_action_26 rfl
  · have hf := sm_ifF c4 hf
    refine sm_aload_n 1 rfl d_re_action_9 ?_
    refine sm_iconst (v := 1) (by decide) d_re_action_10 ?_
    obtain ⟨g23, c24, hf⟩ := sm_bindE hf
    refine sm_callV (As := [.int 1]) (rv := none) (h1 := g23) (c := 5) cvv_re_73 rfl rfl e0 (m_re_fail l lo hi _ e0 c24) rfl rfl d_re_action_11 ?_
    obtain rfl := sm_ret1 hf
    exact sm_vret d_re_action_14 rfl
theorem d_ru_addCode_0 : decode q_ru_addCode.2.1 0 = .ok (.aload_n 0, 1) := by decide +kernel
theorem d_ru_addCode_1 : decode q_ru_addCode.2.1 1 = .ok (.getfield 34, 3) := by decide +kernel
theorem d_ru_addCode_4 : decode q_ru_addCode.2.1 4 = .ok (.sipush 300, 3) := by decide +kernel
theorem d_ru_addCode_7 : decode q_ru_addCode.2.1 7 = .ok (.if_icmp .ge 33, 3) := by decide +kernel
theorem d_ru_addCode_10 : decode q_ru_addCode.2.1 10 = .ok (.aload_n 0, 1) := by decide +kernel
theorem d_ru_addCode_11 : decode q_ru_addCode.2.1 11 = .ok (.getfield 11, 3) := by decide +kernel
theorem d_ru_addCode_14 : decode q_ru_addCode.2.1 14 = .ok (.aload_n 0, 1) := by decide +kernel
theorem d_ru_addCode_15 : decode q_ru_addCode.2.1 15 = .ok (.getfield 34, 3) := by decide +kernel
theorem d_ru_addCode_18 : decode q_ru_addCode.2.1 18 = .ok (.iload_n 1, 1) := by decide +kernel
theorem d_ru_addCode_19 : decode q_ru_addCode.2.1 19 = .ok (.iastore, 1) := by decide +kernel
theorem d_ru_addCode_20 : decode q_ru_addCode.2.1 20 = .ok (.aload_n 0, 1) := by decide +kernel
theorem d_ru_addCode_21 : decode q_ru_addCode.2.1 21 = .ok (.getfield 15, 3) := by decide +kernel
theorem d_ru_addCode_24 : decode q_ru_addCode.2.1 24 = .ok (.aload_n 0, 1) := by decide +kernel
theorem d_ru_addCode_25 : decode q_ru_addCode.2.1 25 = .ok (.getfield 34, 3) := by decide +kernel
theorem d_ru_addCode_28 : decode q_ru_addCode.2.1 28 = .ok (.iload_n 2, 1) := by decide +kernel
theorem d_ru_addCode_29 : decode q_ru_addCode.2.1 29 = .ok (.iastore, 1) := by decide +kernel
theorem d_ru_addCode_30 : decode q_ru_addCode.2.1 30 = .ok (.aload_n 0, 1) := by decide +kernel
theorem d_ru_addCode_31 : decode q_ru_addCode.2.1 31 = .ok (.dup, 1) := by decide +kernel
theorem d_ru_addCode_32 : decode q_ru_addCode.2.1 32 = .ok (.getfield 34, 3) := by decide +kernel
theorem d_ru_addCode_35 : decode q_ru_addCode.2.1 35 = .ok (.iconst 1, 1) := by decide +kernel
theorem d_ru_addCode_36 : decode q_ru_addCode.2.1 36 = .ok (.iadd, 1) := by decide +kernel
theorem d_ru_addCode_37 : decode q_ru_addCode.2.1 37 = .ok (.putfield 34, 3) := by decide +kernel
theorem d_ru_addCode_40 : decode q_ru_addCode.2.1 40 = .ok (.return_, 1) := by decide +kernel
theorem m_ru_addCode (l : Launch) (lo hi d : Nat) {a0 : Nat} {a1 : Int32} {a2 : Int32} {h h' : sm_H} (e0 : sm_at lo hi (0, 6, 0) a0) (hf : f_ru_addCode a0 a1 a2 h = some h') : sm_Met l lo hi (d) q_ru_addCode [.ref a0, .int a1, .int a2] h none h' := by
  refine sm_Met.of (by decide +kernel) rfl ?_
  show sm_W l lo hi (d) q_ru_addCode 0 [(0, .ref a0), (1, .int a1), (2, .int a2)] [] h none h'
  unfold f_ru_addCode at hf
  refine sm_aload_n 0 rfl d_ru_addCode_0 ?_
  refine sm_getI fl_ru_34 e0 rfl d_ru_addCode_1 ?_
  refine sm_sipush (v := 300) (by decide) d_ru_addCode_4 ?_
  refine sm_icmp_ge 40 d_ru_addCode_7 rfl (fun c1 => ?_) (fun c1 => ?_)
  · have hf := sm_ifT c1 hf
    obtain rfl := sm_ret1 hf
    exact sm_vret d_ru_addCode_40 rfl
  · have hf := sm_ifF c1 hf
    refine sm_aload_n 0 rfl d_ru_addCode_10 ?_
    refine sm_getR (n := 1) fl_ru_11 e0 rfl d_ru_addCode_11 ?_
    refine sm_aload_n 0 rfl d_ru_addCode_14 ?_
    refine sm_getI fl_ru_34 e0 rfl d_ru_addCode_15 ?_
    refine sm_iload_n 1 rfl d_ru_addCode_18 ?_
    obtain ⟨c2, hf⟩ := sm_gdE hf
    refine sm_iast (sm_at_arr (sm_inner e0 3 rfl rfl rfl)) c2 d_ru_addCode_19 ?_
    refine sm_nmH (fun g3 w4 => ?_)
    have hf := sm_letV w4 hf
    refine sm_aload_n 0 rfl d_ru_addCode_20 ?_
    refine sm_getR (n := 2) fl_ru_15 e0 rfl d_ru_addCode_21 ?_
    refine sm_aload_n 0 rfl d_ru_addCode_24 ?_
    refine sm_getI fl_ru_34 e0 rfl d_ru_addCode_25 ?_
    refine sm_iload_n 2 rfl d_ru_addCode_28 ?_
    obtain ⟨c5, hf⟩ := sm_gdE hf
    refine sm_iast (sm_at_arr (sm_inner e0 4 rfl rfl rfl)) c5 d_ru_addCode_29 ?_
    refine sm_nmH (fun g6 w7 => ?_)
    have hf := sm_letV w7 hf
    refine sm_aload_n 0 rfl d_ru_addCode_30 ?_
    refine sm_dup rfl d_ru_addCode_31 ?_
    refine sm_getI fl_ru_34 e0 rfl d_ru_addCode_32 ?_
    refine sm_iconst (v := 1) (by decide) d_ru_addCode_35 ?_
    refine sm_iadd d_ru_addCode_36 ?_
    refine sm_putI fp_ru_34 e0 rfl rfl d_ru_addCode_37 ?_
    refine sm_nmH (fun g8 w9 => ?_)
    have hf := sm_letV w9 hf
    obtain rfl := sm_ret1 hf
    exact sm_vret d_ru_addCode_40 rfl
theorem d_re_lastFor_0 : decode q_re_lastFor.2.1 0 = .ok (.iload_n 1, 1) := by decide +kernel
theorem d_re_lastFor_1 : decode q_re_lastFor.2.1 1 = .ok (.tableswitch 51 2 4 #[27, 37, 41], 27) := by decide +kernel
theorem d_re_lastFor_28 : decode q_re_lastFor.2.1 28 = .ok (.aload_n 0, 1) := by decide +kernel
theorem d_re_lastFor_29 : decode q_re_lastFor.2.1 29 = .ok (.getfield 21, 3) := by decide +kernel
theorem d_re_lastFor_32 : decode q_re_lastFor.2.1 32 = .ok (.getfield 112, 3) := by decide +kernel
theorem d_re_lastFor_35 : decode q_re_lastFor.2.1 35 = .ok (.iconst 1, 1) := by decide +kernel
theorem d_re_lastFor_36 : decode q_re_lastFor.2.1 36 = .ok (.isub, 1) := by decide +kernel
theorem d_re_lastFor_37 : decode q_re_lastFor.2.1 37 = .ok (.ireturn, 1) := by decide +kernel
theorem d_re_lastFor_38 : decode q_re_lastFor.2.1 38 = .ok (.sipush 999, 3) := by decide +kernel
theorem d_re_lastFor_41 : decode q_re_lastFor.2.1 41 = .ok (.ireturn, 1) := by decide +kernel
theorem d_re_lastFor_42 : decode q_re_lastFor.2.1 42 = .ok (.aload_n 0, 1) := by decide +kernel
theorem d_re_lastFor_43 : decode q_re_lastFor.2.1 43 = .ok (.getfield 21, 3) := by decide +kernel
theorem d_re_lastFor_46 : decode q_re_lastFor.2.1 46 = .ok (.getfield 104, 3) := by decide +kernel
theorem d_re_lastFor_49 : decode q_re_lastFor.2.1 49 = .ok (.iconst 1, 1) := by decide +kernel
theorem d_re_lastFor_50 : decode q_re_lastFor.2.1 50 = .ok (.isub, 1) := by decide +kernel
theorem d_re_lastFor_51 : decode q_re_lastFor.2.1 51 = .ok (.ireturn, 1) := by decide +kernel
theorem d_re_lastFor_52 : decode q_re_lastFor.2.1 52 = .ok (.aload_n 0, 1) := by decide +kernel
theorem d_re_lastFor_53 : decode q_re_lastFor.2.1 53 = .ok (.getfield 21, 3) := by decide +kernel
theorem d_re_lastFor_56 : decode q_re_lastFor.2.1 56 = .ok (.getfield 88, 3) := by decide +kernel
theorem d_re_lastFor_59 : decode q_re_lastFor.2.1 59 = .ok (.iconst 1, 1) := by decide +kernel
theorem d_re_lastFor_60 : decode q_re_lastFor.2.1 60 = .ok (.isub, 1) := by decide +kernel
theorem d_re_lastFor_61 : decode q_re_lastFor.2.1 61 = .ok (.ireturn, 1) := by decide +kernel
theorem m_re_lastFor (l : Launch) (lo hi d : Nat) (hS : sm_has lo hi) {a0 : Nat} {a1 : Int32} {r0 : Int32} {h h' : sm_H} (e0 : sm_at lo hi (0, 5, 0) a0) (hf : f_re_lastFor a0 a1 h = some (r0, h')) : sm_Met l lo hi (d) q_re_lastFor [.ref a0, .int a1] h (some (.int r0)) h' := by
  refine sm_Met.of (by decide +kernel) rfl ?_
  show sm_W l lo hi (d) q_re_lastFor 0 [(0, .ref a0), (1, .int a1)] [] h (some (.int r0)) h'
  unfold f_re_lastFor at hf
  refine sm_iload_n 1 rfl d_re_lastFor_0 ?_
  by_cases c1 : a1 = 2
  · have hf := sm_ifT c1 hf
    refine sm_tableIn 28 d_re_lastFor_1 (by rw [c1]; decide) (by rw [c1]; decide) (by rw [c1]; rfl) rfl ?_
    refine sm_aload_n 0 rfl d_re_lastFor_28 ?_
    obtain ⟨c2, hf⟩ := sm_gdE hf
    obtain ⟨z3, v4⟩ := sm_isP_at hS c2
    refine sm_getD fl_re_21 e0 rfl z3 d_re_lastFor_29 ?_
    refine sm_nmR (fun p5 w6 => ?_)
    have hf := sm_letV w6 hf
    have v4 := sm_ev w6 v4
    refine sm_getI fl_re_112 v4 rfl d_re_lastFor_32 ?_
    refine sm_iconst (v := 1) (by decide) d_re_lastFor_35 ?_
    refine sm_isub d_re_lastFor_36 ?_
    obtain ⟨rfl, rfl⟩ := sm_ret2 hf
    exact sm_iret d_re_lastFor_37 rfl
  have hf := sm_ifF c1 hf
  by_cases c7 : a1 = 3
  · have hf := sm_ifT c7 hf
    refine sm_tableIn 38 d_re_lastFor_1 (by rw [c7]; decide) (by rw [c7]; decide) (by rw [c7]; rfl) rfl ?_
    refine sm_sipush (v := 999) (by decide) d_re_lastFor_38 ?_
    obtain ⟨rfl, rfl⟩ := sm_ret2 hf
    exact sm_iret d_re_lastFor_41 rfl
  have hf := sm_ifF c7 hf
  by_cases c8 : a1 = 4
  · have hf := sm_ifT c8 hf
    refine sm_tableIn 42 d_re_lastFor_1 (by rw [c8]; decide) (by rw [c8]; decide) (by rw [c8]; rfl) rfl ?_
    refine sm_aload_n 0 rfl d_re_lastFor_42 ?_
    obtain ⟨c9, hf⟩ := sm_gdE hf
    obtain ⟨z10, v11⟩ := sm_isP_at hS c9
    refine sm_getD fl_re_21 e0 rfl z10 d_re_lastFor_43 ?_
    refine sm_nmR (fun p12 w13 => ?_)
    have hf := sm_letV w13 hf
    have v11 := sm_ev w13 v11
    refine sm_getI fl_re_104 v11 rfl d_re_lastFor_46 ?_
    refine sm_iconst (v := 1) (by decide) d_re_lastFor_49 ?_
    refine sm_isub d_re_lastFor_50 ?_
    obtain ⟨rfl, rfl⟩ := sm_ret2 hf
    exact sm_iret d_re_lastFor_51 rfl
  have hf := sm_ifF c8 hf
  refine sm_tableOut 52 d_re_lastFor_1 (sm_swOut 2 3 (by decide) (by decide) (fun j hj => by match j, hj with | 0, _ => exact c1 | 1, _ => exact c7 | 2, _ => exact c8 | j + 3, hj => exact absurd hj (by omega))) rfl ?_
  refine sm_aload_n 0 rfl d_re_lastFor_52 ?_
  obtain ⟨c14, hf⟩ := sm_gdE hf
  obtain ⟨z15, v16⟩ := sm_isP_at hS c14
  refine sm_getD fl_re_21 e0 rfl z15 d_re_lastFor_53 ?_
  refine sm_nmR (fun p17 w18 => ?_)
  have hf := sm_letV w18 hf
  have v16 := sm_ev w18 v16
  refine sm_getI fl_re_88 v16 rfl d_re_lastFor_56 ?_
  refine sm_iconst (v := 1) (by decide) d_re_lastFor_59 ?_
  refine sm_isub d_re_lastFor_60 ?_
  obtain ⟨rfl, rfl⟩ := sm_ret2 hf
  exact sm_iret d_re_lastFor_61 rfl
theorem d_re_testHere_0 : decode q_re_testHere.2.1 0 = .ok (.aload_n 0, 1) := by decide +kernel
theorem d_re_testHere_1 : decode q_re_testHere.2.1 1 = .ok (.getfield 12, 3) := by decide +kernel
theorem d_re_testHere_4 : decode q_re_testHere.2.1 4 = .ok (.ldc 206, 2) := by decide +kernel
theorem d_re_testHere_6 : decode q_re_testHere.2.1 6 = .ok (.invokevirtual 59, 3) := by decide +kernel
theorem d_re_testHere_9 : decode q_re_testHere.2.1 9 = .ok (.ifCond .eq 7, 3) := by decide +kernel
theorem d_re_testHere_12 : decode q_re_testHere.2.1 12 = .ok (.iconst 0, 1) := by decide +kernel
theorem d_re_testHere_13 : decode q_re_testHere.2.1 13 = .ok (.goto 84, 3) := by decide +kernel
theorem d_re_testHere_16 : decode q_re_testHere.2.1 16 = .ok (.aload_n 0, 1) := by decide +kernel
theorem d_re_testHere_17 : decode q_re_testHere.2.1 17 = .ok (.getfield 12, 3) := by decide +kernel
theorem d_re_testHere_20 : decode q_re_testHere.2.1 20 = .ok (.ldc 208, 2) := by decide +kernel
theorem d_re_testHere_22 : decode q_re_testHere.2.1 22 = .ok (.invokevirtual 59, 3) := by decide +kernel
theorem d_re_testHere_25 : decode q_re_testHere.2.1 25 = .ok (.ifCond .eq 7, 3) := by decide +kernel
theorem d_re_testHere_28 : decode q_re_testHere.2.1 28 = .ok (.iconst 1, 1) := by decide +kernel
theorem d_re_testHere_29 : decode q_re_testHere.2.1 29 = .ok (.goto 68, 3) := by decide +kernel
theorem d_re_testHere_32 : decode q_re_testHere.2.1 32 = .ok (.aload_n 0, 1) := by decide +kernel
theorem d_re_testHere_33 : decode q_re_testHere.2.1 33 = .ok (.getfield 12, 3) := by decide +kernel
theorem d_re_testHere_36 : decode q_re_testHere.2.1 36 = .ok (.ldc 210, 2) := by decide +kernel
theorem d_re_testHere_38 : decode q_re_testHere.2.1 38 = .ok (.invokevirtual 59, 3) := by decide +kernel
theorem d_re_testHere_41 : decode q_re_testHere.2.1 41 = .ok (.ifCond .eq 7, 3) := by decide +kernel
theorem d_re_testHere_44 : decode q_re_testHere.2.1 44 = .ok (.iconst 2, 1) := by decide +kernel
theorem d_re_testHere_45 : decode q_re_testHere.2.1 45 = .ok (.goto 52, 3) := by decide +kernel
theorem d_re_testHere_48 : decode q_re_testHere.2.1 48 = .ok (.aload_n 0, 1) := by decide +kernel
theorem d_re_testHere_49 : decode q_re_testHere.2.1 49 = .ok (.getfield 12, 3) := by decide +kernel
theorem d_re_testHere_52 : decode q_re_testHere.2.1 52 = .ok (.ldc 212, 2) := by decide +kernel
theorem d_re_testHere_54 : decode q_re_testHere.2.1 54 = .ok (.invokevirtual 59, 3) := by decide +kernel
theorem d_re_testHere_57 : decode q_re_testHere.2.1 57 = .ok (.ifCond .eq 7, 3) := by decide +kernel
theorem d_re_testHere_60 : decode q_re_testHere.2.1 60 = .ok (.iconst 3, 1) := by decide +kernel
theorem d_re_testHere_61 : decode q_re_testHere.2.1 61 = .ok (.goto 36, 3) := by decide +kernel
theorem d_re_testHere_64 : decode q_re_testHere.2.1 64 = .ok (.aload_n 0, 1) := by decide +kernel
theorem d_re_testHere_65 : decode q_re_testHere.2.1 65 = .ok (.getfield 12, 3) := by decide +kernel
theorem d_re_testHere_68 : decode q_re_testHere.2.1 68 = .ok (.ldc 214, 2) := by decide +kernel
theorem d_re_testHere_70 : decode q_re_testHere.2.1 70 = .ok (.invokevirtual 59, 3) := by decide +kernel
theorem d_re_testHere_73 : decode q_re_testHere.2.1 73 = .ok (.ifCond .eq 7, 3) := by decide +kernel
theorem d_re_testHere_76 : decode q_re_testHere.2.1 76 = .ok (.iconst 4, 1) := by decide +kernel
theorem d_re_testHere_77 : decode q_re_testHere.2.1 77 = .ok (.goto 20, 3) := by decide +kernel
theorem d_re_testHere_80 : decode q_re_testHere.2.1 80 = .ok (.aload_n 0, 1) := by decide +kernel
theorem d_re_testHere_81 : decode q_re_testHere.2.1 81 = .ok (.getfield 12, 3) := by decide +kernel
theorem d_re_testHere_84 : decode q_re_testHere.2.1 84 = .ok (.ldc 216, 2) := by decide +kernel
theorem d_re_testHere_86 : decode q_re_testHere.2.1 86 = .ok (.invokevirtual 59, 3) := by decide +kernel
theorem d_re_testHere_89 : decode q_re_testHere.2.1 89 = .ok (.ifCond .eq 7, 3) := by decide +kernel
theorem d_re_testHere_92 : decode q_re_testHere.2.1 92 = .ok (.iconst 5, 1) := by decide +kernel
theorem d_re_testHere_93 : decode q_re_testHere.2.1 93 = .ok (.goto 4, 3) := by decide +kernel
theorem d_re_testHere_96 : decode q_re_testHere.2.1 96 = .ok (.iconst (-1), 1) := by decide +kernel
theorem d_re_testHere_97 : decode q_re_testHere.2.1 97 = .ok (.ireturn, 1) := by decide +kernel
theorem w_re_testHere_L97 (l : Launch) (lo hi d : Nat) {h' : sm_H} {r0 : Int32} (s0 : Int32) (h : sm_H) (hf : f_re_testHere_L97 s0 h = some (r0, h')) : sm_W l lo hi (d + 5) q_re_testHere 97 [] [.int s0] h (some (.int r0)) h' := by
  unfold f_re_testHere_L97 at hf
  obtain ⟨rfl, rfl⟩ := sm_ret2 hf
  exact sm_iret d_re_testHere_97 rfl
theorem m_re_testHere (l : Launch) (lo hi d : Nat) {a0 : Nat} {r0 : Int32} {h h' : sm_H} (e0 : sm_at lo hi (0, 5, 0) a0) (hf : f_re_testHere a0 h = some (r0, h')) : sm_Met l lo hi (d + 5) q_re_testHere [.ref a0] h (some (.int r0)) h' := by
  refine sm_Met.of (by decide +kernel) rfl ?_
  show sm_W l lo hi (d + 5) q_re_testHere 0 [(0, .ref a0)] [] h (some (.int r0)) h'
  unfold f_re_testHere at hf
  refine sm_aload_n 0 rfl d_re_testHere_0 ?_
  refine sm_getR (n := 1) fl_re_12 e0 rfl d_re_testHere_1 ?_
  refine sm_ldcS 12 (z := (206, "alarm")) rfl rfl d_re_testHere_4 ?_
  obtain ⟨r1, g2, c3, hf⟩ := sm_b2E hf
  refine sm_callV (As := [.ref (5000 + 12)]) (rv := some (.int r1)) (h1 := g2) (c := 8) cvv_re_59 rfl rfl (sm_inner e0 0 rfl rfl rfl) (m_te_isWord l lo hi _ (sm_inner e0 0 rfl rfl rfl) rfl c3) rfl rfl d_re_testHere_6 ?_
  refine sm_if_eq 16 d_re_testHere_9 rfl (fun c4 => ?_) (fun c4 => ?_)
  · have hf := sm_ifT c4 hf
    refine sm_aload_n 0 rfl d_re_testHere_16 ?_
    refine sm_getR (n := 1) fl_re_12 e0 rfl d_re_testHere_17 ?_
    refine sm_ldcS 13 (z := (208, "first")) rfl rfl d_re_testHere_20 ?_
    obtain ⟨r5, g6, c7, hf⟩ := sm_b2E hf
    refine sm_callV (As := [.ref (5000 + 13)]) (rv := some (.int r5)) (h1 := g6) (c := 8) cvv_re_59 rfl rfl (sm_inner e0 0 rfl rfl rfl) (m_te_isWord l lo hi _ (sm_inner e0 0 rfl rfl rfl) rfl c7) rfl rfl d_re_testHere_22 ?_
    refine sm_if_eq 32 d_re_testHere_25 rfl (fun c8 => ?_) (fun c8 => ?_)
    · have hf := sm_ifT c8 hf
      refine sm_aload_n 0 rfl d_re_testHere_32 ?_
      refine sm_getR (n := 1) fl_re_12 e0 rfl d_re_testHere_33 ?_
      refine sm_ldcS 14 (z := (210, "ajar")) rfl rfl d_re_testHere_36 ?_
      obtain ⟨r9, g10, c11, hf⟩ := sm_b2E hf
      refine sm_callV (As := [.ref (5000 + 14)]) (rv := some (.int r9)) (h1 := g10) (c := 8) cvv_re_59 rfl rfl (sm_inner e0 0 rfl rfl rfl) (m_te_isWord l lo hi _ (sm_inner e0 0 rfl rfl rfl) rfl c11) rfl rfl d_re_testHere_38 ?_
      refine sm_if_eq 48 d_re_testHere_41 rfl (fun c12 => ?_) (fun c12 => ?_)
      · have hf := sm_ifT c12 hf
        refine sm_aload_n 0 rfl d_re_testHere_48 ?_
        refine sm_getR (n := 1) fl_re_12 e0 rfl d_re_testHere_49 ?_
        refine sm_ldcS 15 (z := (212, "after")) rfl rfl d_re_testHere_52 ?_
        obtain ⟨r13, g14, c15, hf⟩ := sm_b2E hf
        refine sm_callV (As := [.ref (5000 + 15)]) (rv := some (.int r13)) (h1 := g14) (c := 8) cvv_re_59 rfl rfl (sm_inner e0 0 rfl rfl rfl) (m_te_isWord l lo hi _ (sm_inner e0 0 rfl rfl rfl) rfl c15) rfl rfl d_re_testHere_54 ?_
        refine sm_if_eq 64 d_re_testHere_57 rfl (fun c16 => ?_) (fun c16 => ?_)
        · have hf := sm_ifT c16 hf
          refine sm_aload_n 0 rfl d_re_testHere_64 ?_
          refine sm_getR (n := 1) fl_re_12 e0 rfl d_re_testHere_65 ?_
          refine sm_ldcS 16 (z := (214, "running")) rfl rfl d_re_testHere_68 ?_
          obtain ⟨r17, g18, c19, hf⟩ := sm_b2E hf
          refine sm_callV (As := [.ref (5000 + 16)]) (rv := some (.int r17)) (h1 := g18) (c := 8) cvv_re_59 rfl rfl (sm_inner e0 0 rfl rfl rfl) (m_te_isWord l lo hi _ (sm_inner e0 0 rfl rfl rfl) rfl c19) rfl rfl d_re_testHere_70 ?_
          refine sm_if_eq 80 d_re_testHere_73 rfl (fun c20 => ?_) (fun c20 => ?_)
          · have hf := sm_ifT c20 hf
            refine sm_aload_n 0 rfl d_re_testHere_80 ?_
            refine sm_getR (n := 1) fl_re_12 e0 rfl d_re_testHere_81 ?_
            refine sm_ldcS 17 (z := (216, "trouble")) rfl rfl d_re_testHere_84 ?_
            obtain ⟨r21, g22, c23, hf⟩ := sm_b2E hf
            refine sm_callV (As := [.ref (5000 + 17)]) (rv := some (.int r21)) (h1 := g22) (c := 8) cvv_re_59 rfl rfl (sm_inner e0 0 rfl rfl rfl) (m_te_isWord l lo hi _ (sm_inner e0 0 rfl rfl rfl) rfl c23) rfl rfl d_re_testHere_86 ?_
            refine sm_if_eq 96 d_re_testHere_89 rfl (fun c24 => ?_) (fun c24 => ?_)
            · have hf := sm_ifT c24 hf
              refine sm_iconst (v := (-1)) (by decide) d_re_testHere_96 ?_
              refine sm_sub [] rfl ?_
              exact w_re_testHere_L97 l lo hi d _ _ hf
            · have hf := sm_ifF c24 hf
              refine sm_iconst (v := 5) (by decide) d_re_testHere_92 ?_
              refine sm_goto 97 d_re_testHere_93 rfl ?_
              refine sm_sub [] rfl ?_
              exact w_re_testHere_L97 l lo hi d _ _ hf
          · have hf := sm_ifF c20 hf
            refine sm_iconst (v := 4) (by decide) d_re_testHere_76 ?_
            refine sm_goto 97 d_re_testHere_77 rfl ?_
            refine sm_sub [] rfl ?_
            exact w_re_testHere_L97 l lo hi d _ _ hf
        · have hf := sm_ifF c16 hf
          refine sm_iconst (v := 3) (by decide) d_re_testHere_60 ?_
          refine sm_goto 97 d_re_testHere_61 rfl ?_
          refine sm_sub [] rfl ?_
          exact w_re_testHere_L97 l lo hi d _ _ hf
      · have hf := sm_ifF c12 hf
        refine sm_iconst (v := 2) (by decide) d_re_testHere_44 ?_
        refine sm_goto 97 d_re_testHere_45 rfl ?_
        refine sm_sub [] rfl ?_
        exact w_re_testHere_L97 l lo hi d _ _ hf
    · have hf := sm_ifF c8 hf
      refine sm_iconst (v := 1) (by decide) d_re_testHere_28 ?_
      refine sm_goto 97 d_re_testHere_29 rfl ?_
      refine sm_sub [] rfl ?_
      exact w_re_testHere_L97 l lo hi d _ _ hf
  · have hf := sm_ifF c4 hf
    refine sm_iconst (v := 0) (by decide) d_re_testHere_12 ?_
    refine sm_goto 97 d_re_testHere_13 rfl ?_
    refine sm_sub [] rfl ?_
    exact w_re_testHere_L97 l lo hi d _ _ hf
theorem d_re_condition_0 : decode q_re_condition.2.1 0 = .ok (.iconst 1, 1) := by decide +kernel
theorem d_re_condition_1 : decode q_re_condition.2.1 1 = .ok (.istore_n 2, 1) := by decide +kernel
theorem d_re_condition_2 : decode q_re_condition.2.1 2 = .ok (.iconst 0, 1) := by decide +kernel
theorem d_re_condition_3 : decode q_re_condition.2.1 3 = .ok (.istore_n 3, 1) := by decide +kernel
theorem d_re_condition_4 : decode q_re_condition.2.1 4 = .ok (.iload_n 3, 1) := by decide +kernel
theorem d_re_condition_5 : decode q_re_condition.2.1 5 = .ok (.sipush 900, 3) := by decide +kernel
theorem d_re_condition_8 : decode q_re_condition.2.1 8 = .ok (.if_icmp .ge 86, 3) := by decide +kernel
theorem d_re_condition_11 : decode q_re_condition.2.1 11 = .ok (.iload_n 2, 1) := by decide +kernel
theorem d_re_condition_12 : decode q_re_condition.2.1 12 = .ok (.ifCond .eq 82, 3) := by decide +kernel
theorem d_re_condition_15 : decode q_re_condition.2.1 15 = .ok (.aload_n 0, 1) := by decide +kernel
theorem d_re_condition_16 : decode q_re_condition.2.1 16 = .ok (.iload_n 1, 1) := by decide +kernel
theorem d_re_condition_17 : decode q_re_condition.2.1 17 = .ok (.invokevirtual 186, 3) := by decide +kernel
theorem d_re_condition_20 : decode q_re_condition.2.1 20 = .ok (.iconst 0, 1) := by decide +kernel
theorem d_re_condition_21 : decode q_re_condition.2.1 21 = .ok (.istore 4, 2) := by decide +kernel
theorem d_re_condition_23 : decode q_re_condition.2.1 23 = .ok (.iload 4, 2) := by decide +kernel
theorem d_re_condition_25 : decode q_re_condition.2.1 25 = .ok (.sipush 900, 3) := by decide +kernel
theorem d_re_condition_28 : decode q_re_condition.2.1 28 = .ok (.if_icmp .ge 36, 3) := by decide +kernel
theorem d_re_condition_31 : decode q_re_condition.2.1 31 = .ok (.aload_n 0, 1) := by decide +kernel
theorem d_re_condition_32 : decode q_re_condition.2.1 32 = .ok (.ldc 189, 2) := by decide +kernel
theorem d_re_condition_34 : decode q_re_condition.2.1 34 = .ok (.invokevirtual 79, 3) := by decide +kernel
theorem d_re_condition_37 : decode q_re_condition.2.1 37 = .ok (.ifCond .eq 27, 3) := by decide +kernel
theorem d_re_condition_40 : decode q_re_condition.2.1 40 = .ok (.aload_n 0, 1) := by decide +kernel
theorem d_re_condition_41 : decode q_re_condition.2.1 41 = .ok (.iload_n 1, 1) := by decide +kernel
theorem d_re_condition_42 : decode q_re_condition.2.1 42 = .ok (.invokevirtual 186, 3) := by decide +kernel
theorem d_re_condition_45 : decode q_re_condition.2.1 45 = .ok (.aload_n 0, 1) := by decide +kernel
theorem d_re_condition_46 : decode q_re_condition.2.1 46 = .ok (.getfield 21, 3) := by decide +kernel
theorem d_re_condition_49 : decode q_re_condition.2.1 49 = .ok (.getfield 128, 3) := by decide +kernel
theorem d_re_condition_52 : decode q_re_condition.2.1 52 = .ok (.bipush 7, 2) := by decide +kernel
theorem d_re_condition_54 : decode q_re_condition.2.1 54 = .ok (.iconst 0, 1) := by decide +kernel
theorem d_re_condition_55 : decode q_re_condition.2.1 55 = .ok (.invokevirtual 191, 3) := by decide +kernel
theorem d_re_condition_58 : decode q_re_condition.2.1 58 = .ok (.iinc 4 1, 3) := by decide +kernel
theorem d_re_condition_61 : decode q_re_condition.2.1 61 = .ok (.goto (-38), 3) := by decide +kernel
theorem d_re_condition_64 : decode q_re_condition.2.1 64 = .ok (.iload_n 3, 1) := by decide +kernel
theorem d_re_condition_65 : decode q_re_condition.2.1 65 = .ok (.ifCond .le 16, 3) := by decide +kernel
theorem d_re_condition_68 : decode q_re_condition.2.1 68 = .ok (.aload_n 0, 1) := by decide +kernel
theorem d_re_condition_69 : decode q_re_condition.2.1 69 = .ok (.getfield 21, 3) := by decide +kernel
theorem d_re_condition_72 : decode q_re_condition.2.1 72 = .ok (.getfield 128, 3) := by decide +kernel
theorem d_re_condition_75 : decode q_re_condition.2.1 75 = .ok (.bipush 8, 2) := by decide +kernel
theorem d_re_condition_77 : decode q_re_condition.2.1 77 = .ok (.iconst 0, 1) := by decide +kernel
theorem d_re_condition_78 : decode q_re_condition.2.1 78 = .ok (.invokevirtual 191, 3) := by decide +kernel
theorem d_re_condition_81 : decode q_re_condition.2.1 81 = .ok (.aload_n 0, 1) := by decide +kernel
theorem d_re_condition_82 : decode q_re_condition.2.1 82 = .ok (.ldc 195, 2) := by decide +kernel
theorem d_re_condition_84 : decode q_re_condition.2.1 84 = .ok (.invokevirtual 79, 3) := by decide +kernel
theorem d_re_condition_87 : decode q_re_condition.2.1 87 = .ok (.istore_n 2, 1) := by decide +kernel
theorem d_re_condition_88 : decode q_re_condition.2.1 88 = .ok (.iinc 3 1, 3) := by decide +kernel
theorem d_re_condition_91 : decode q_re_condition.2.1 91 = .ok (.goto (-87), 3) := by decide +kernel
theorem d_re_condition_94 : decode q_re_condition.2.1 94 = .ok (.return_, 1) := by decide +kernel
theorem w_re_condition_L81 (l : Launch) (lo hi d : Nat) (fr_re_condition : Nat → Int32 → sm_H → Option sm_H) (fr_re_test : Nat → Int32 → sm_H → Option sm_H) (hS : sm_has lo hi) {k4 : Nat → Int32 → Int32 → Int32 → sm_H → Option sm_H} {h' : sm_H} (hr_re_condition : ∀ (o : Nat) (_ : sm_at lo hi (0, 5, 0) o) (h h' : sm_H) (b0 : Int32), fr_re_condition o b0 h = some h' → sm_Met l lo hi (d + 5) q_re_condition [.ref o, .int b0] h none h') (hr_re_test : ∀ (o : Nat) (_ : sm_at lo hi (0, 5, 0) o) (h h' : sm_H) (b0 : Int32), fr_re_test o b0 h = some h' → sm_Met l lo hi (d + 5) q_re_test [.ref o, .int b0] h none h') (hk4 : ∀ (a0 : Nat) (a1 : Int32) (a2 : Int32) (a3 : Int32) (h : sm_H) (_ : sm_at lo hi (0, 5, 0) a0) , k4 a0 a1 a2 a3 h = some h' → sm_W l lo hi (d + 6) q_re_condition 4 [(0, .ref a0), (1, .int a1), (2, .int a2), (3, .int a3)] [] h none h') (a0 : Nat) (a1 : Int32) (a3 : Int32) (h : sm_H) (e0 : sm_at lo hi (0, 5, 0) a0) (hf : f_re_condition_L81 fr_re_condition fr_re_test k4 a0 a1 a3 h = some h') : sm_W l lo hi (d + 6) q_re_condition 81 [(0, .ref a0), (1, .int a1), (3, .int a3)] [] h none h' := by
  unfold f_re_condition_L81 at hf
  refine sm_aload_n 0 rfl d_re_condition_81 ?_
  refine sm_ldcS 19 (z := (195, "or")) rfl rfl d_re_condition_82 ?_
  obtain ⟨r29, g30, c31, hf⟩ := sm_b2E hf
  refine sm_callV (As := [.ref (5000 + 19)]) (rv := some (.int r29)) (h1 := g30) (c := 5) cvv_re_79 rfl rfl e0 (m_re_takeWord l lo hi _ e0 rfl c31) rfl rfl d_re_condition_84 ?_
  refine sm_istore_n (lv' := [(2, .int r29), (0, .ref a0), (1, .int a1), (3, .int a3)]) d_re_condition_87 rfl rfl ?_
  obtain ⟨x32, w33⟩ : ∃ v : Int32, v = a3 + 1 := ⟨_, rfl⟩
  have hf := sm_letV w33 hf
  refine sm_iinc (v := x32) (lv' := [(3, .int x32), (2, .int r29), (0, .ref a0), (1, .int a1)]) 3 rfl (by rw [w33]; rfl) d_re_condition_88 rfl rfl ?_
  refine sm_goto 4 d_re_condition_91 rfl ?_
  refine sm_sub [2, 3, 1, 0] rfl ?_
  exact hk4 _ _ _ _ _ e0 hf
theorem w_re_condition_L64 (l : Launch) (lo hi d : Nat) (fr_re_condition : Nat → Int32 → sm_H → Option sm_H) (fr_re_test : Nat → Int32 → sm_H → Option sm_H) (hS : sm_has lo hi) {k4 : Nat → Int32 → Int32 → Int32 → sm_H → Option sm_H} {h' : sm_H} (hr_re_condition : ∀ (o : Nat) (_ : sm_at lo hi (0, 5, 0) o) (h h' : sm_H) (b0 : Int32), fr_re_condition o b0 h = some h' → sm_Met l lo hi (d + 5) q_re_condition [.ref o, .int b0] h none h') (hr_re_test : ∀ (o : Nat) (_ : sm_at lo hi (0, 5, 0) o) (h h' : sm_H) (b0 : Int32), fr_re_test o b0 h = some h' → sm_Met l lo hi (d + 5) q_re_test [.ref o, .int b0] h none h') (hk4 : ∀ (a0 : Nat) (a1 : Int32) (a2 : Int32) (a3 : Int32) (h : sm_H) (_ : sm_at lo hi (0, 5, 0) a0) , k4 a0 a1 a2 a3 h = some h' → sm_W l lo hi (d + 6) q_re_condition 4 [(0, .ref a0), (1, .int a1), (2, .int a2), (3, .int a3)] [] h none h') (a0 : Nat) (a1 : Int32) (a3 : Int32) (h : sm_H) (e0 : sm_at lo hi (0, 5, 0) a0) (hf : f_re_condition_L64 fr_re_condition fr_re_test k4 a0 a1 a3 h = some h') : sm_W l lo hi (d + 6) q_re_condition 64 [(0, .ref a0), (1, .int a1), (3, .int a3)] [] h none h' := by
  unfold f_re_condition_L64 at hf
  refine sm_iload_n 2 rfl d_re_condition_64 ?_
  refine sm_if_le 81 d_re_condition_65 rfl (fun c21 => ?_) (fun c21 => ?_)
  · have hf := sm_ifT c21 hf
    exact w_re_condition_L81 l lo hi d fr_re_condition fr_re_test hS hr_re_condition hr_re_test hk4 _ _ _ _ e0 hf
  · have hf := sm_ifF c21 hf
    refine sm_aload_n 0 rfl d_re_condition_68 ?_
    obtain ⟨c22, hf⟩ := sm_gdE hf
    obtain ⟨z23, v24⟩ := sm_isP_at hS c22
    refine sm_getD fl_re_21 e0 rfl z23 d_re_condition_69 ?_
    refine sm_nmR (fun p25 w26 => ?_)
    have hf := sm_letV w26 hf
    have v24 := sm_ev w26 v24
    refine sm_getR (n := 9) fl_re_128 v24 rfl d_re_condition_72 ?_
    refine sm_bipush (v := 8) (by decide) d_re_condition_75 ?_
    refine sm_iconst (v := 0) (by decide) d_re_condition_77 ?_
    obtain ⟨g27, c28, hf⟩ := sm_bindE hf
    refine sm_callV (As := [.int 8, .int 0]) (rv := none) (h1 := g27) (c := 6) cvv_re_191 rfl rfl (sm_inner v24 15 rfl rfl rfl) (m_ru_addCode l lo hi _ (sm_inner v24 15 rfl rfl rfl) c28) rfl rfl d_re_condition_78 ?_
    exact w_re_condition_L81 l lo hi d fr_re_condition fr_re_test hS hr_re_condition hr_re_test hk4 _ _ _ _ e0 hf
theorem w_re_condition_L23 (l : Launch) (lo hi d : Nat) (fr_re_condition : Nat → Int32 → sm_H → Option sm_H) (fr_re_test : Nat → Int32 → sm_H → Option sm_H) (hS : sm_has lo hi) {k4 : Nat → Int32 → Int32 → Int32 → sm_H → Option sm_H} {h' : sm_H} (hr_re_condition : ∀ (o : Nat) (_ : sm_at lo hi (0, 5, 0) o) (h h' : sm_H) (b0 : Int32), fr_re_condition o b0 h = some h' → sm_Met l lo hi (d + 5) q_re_condition [.ref o, .int b0] h none h') (hr_re_test : ∀ (o : Nat) (_ : sm_at lo hi (0, 5, 0) o) (h h' : sm_H) (b0 : Int32), fr_re_test o b0 h = some h' → sm_Met l lo hi (d + 5) q_re_test [.ref o, .int b0] h none h') (hk4 : ∀ (a0 : Nat) (a1 : Int32) (a2 : Int32) (a3 : Int32) (h : sm_H) (_ : sm_at lo hi (0, 5, 0) a0) , k4 a0 a1 a2 a3 h = some h' → sm_W l lo hi (d + 6) q_re_condition 4 [(0, .ref a0), (1, .int a1), (2, .int a2), (3, .int a3)] [] h none h') : ∀ (n : Nat) (a0 : Nat) (a1 : Int32) (a3 : Int32) (a4 : Int32) (h : sm_H) (e0 : sm_at lo hi (0, 5, 0) a0) (hf : f_re_condition_L23 fr_re_condition fr_re_test k4 n a0 a1 a3 a4 h = some h'), sm_W l lo hi (d + 6) q_re_condition 23 [(0, .ref a0), (1, .int a1), (3, .int a3), (4, .int a4)] [] h none h' := by
  intro n
  induction n with
  | zero =>
    intro a0 a1 a3 a4 h e0 hf
    have z : (none : Option sm_H) = some _ := hf
    cases z
  | succ n ih =>
    intro a0 a1 a3 a4 h e0 hf
    unfold f_re_condition_L23 at hf
    refine sm_iload 3 rfl d_re_condition_23 ?_
    refine sm_sipush (v := 900) (by decide) d_re_condition_25 ?_
    refine sm_icmp_ge 64 d_re_condition_28 rfl (fun c5 => ?_) (fun c5 => ?_)
    · have hf := sm_ifT c5 hf
      refine sm_sub [0, 1, 2] rfl ?_
      exact w_re_condition_L64 l lo hi d fr_re_condition fr_re_test hS hr_re_condition hr_re_test hk4 _ _ _ _ e0 hf
    · have hf := sm_ifF c5 hf
      refine sm_aload_n 0 rfl d_re_condition_31 ?_
      refine sm_ldcS 18 (z := (189, "and")) rfl rfl d_re_condition_32 ?_
      obtain ⟨r6, g7, c8, hf⟩ := sm_b2E hf
      refine sm_callV (As := [.ref (5000 + 18)]) (rv := some (.int r6)) (h1 := g7) (c := 5) cvv_re_79 rfl rfl e0 (m_re_takeWord l lo hi _ e0 rfl c8) rfl rfl d_re_condition_34 ?_
      refine sm_if_eq 64 d_re_condition_37 rfl (fun c9 => ?_) (fun c9 => ?_)
      · have hf := sm_ifT c9 hf
        refine sm_sub [0, 1, 2] rfl ?_
        exact w_re_condition_L64 l lo hi d fr_re_condition fr_re_test hS hr_re_condition hr_re_test hk4 _ _ _ _ e0 hf
      · have hf := sm_ifF c9 hf
        refine sm_aload_n 0 rfl d_re_condition_40 ?_
        refine sm_iload_n 1 rfl d_re_condition_41 ?_
        obtain ⟨g10, c11, hf⟩ := sm_bindE hf
        refine sm_callV (As := [.int a1]) (rv := none) (h1 := g10) (c := 5) cvv_re_186 rfl rfl e0 (hr_re_test _ e0 _ _ _ c11) rfl rfl d_re_condition_42 ?_
        refine sm_aload_n 0 rfl d_re_condition_45 ?_
        obtain ⟨c12, hf⟩ := sm_gdE hf
        obtain ⟨z13, v14⟩ := sm_isP_at hS c12
        refine sm_getD fl_re_21 e0 rfl z13 d_re_condition_46 ?_
        refine sm_nmR (fun p15 w16 => ?_)
        have hf := sm_letV w16 hf
        have v14 := sm_ev w16 v14
        refine sm_getR (n := 9) fl_re_128 v14 rfl d_re_condition_49 ?_
        refine sm_bipush (v := 7) (by decide) d_re_condition_52 ?_
        refine sm_iconst (v := 0) (by decide) d_re_condition_54 ?_
        obtain ⟨g17, c18, hf⟩ := sm_bindE hf
        refine sm_callV (As := [.int 7, .int 0]) (rv := none) (h1 := g17) (c := 6) cvv_re_191 rfl rfl (sm_inner v14 15 rfl rfl rfl) (m_ru_addCode l lo hi _ (sm_inner v14 15 rfl rfl rfl) c18) rfl rfl d_re_condition_55 ?_
        obtain ⟨x19, w20⟩ : ∃ v : Int32, v = a4 + 1 := ⟨_, rfl⟩
        have hf := sm_letV w20 hf
        refine sm_iinc (v := x19) (lv' := [(4, .int x19), (0, .ref a0), (1, .int a1), (3, .int a3)]) 3 rfl (by rw [w20]; rfl) d_re_condition_58 rfl rfl ?_
        refine sm_goto 23 d_re_condition_61 rfl ?_
        refine sm_sub [1, 2, 3, 0] rfl ?_
        exact ih _ _ _ _ _ e0 hf
theorem w_re_condition_L4 (l : Launch) (lo hi d : Nat) (fr_re_condition : Nat → Int32 → sm_H → Option sm_H) (fr_re_test : Nat → Int32 → sm_H → Option sm_H) (hS : sm_has lo hi) {h' : sm_H} (hr_re_condition : ∀ (o : Nat) (_ : sm_at lo hi (0, 5, 0) o) (h h' : sm_H) (b0 : Int32), fr_re_condition o b0 h = some h' → sm_Met l lo hi (d + 5) q_re_condition [.ref o, .int b0] h none h') (hr_re_test : ∀ (o : Nat) (_ : sm_at lo hi (0, 5, 0) o) (h h' : sm_H) (b0 : Int32), fr_re_test o b0 h = some h' → sm_Met l lo hi (d + 5) q_re_test [.ref o, .int b0] h none h') : ∀ (n : Nat) (a0 : Nat) (a1 : Int32) (a2 : Int32) (a3 : Int32) (h : sm_H) (e0 : sm_at lo hi (0, 5, 0) a0) (hf : f_re_condition_L4 fr_re_condition fr_re_test n a0 a1 a2 a3 h = some h'), sm_W l lo hi (d + 6) q_re_condition 4 [(0, .ref a0), (1, .int a1), (2, .int a2), (3, .int a3)] [] h none h' := by
  intro n
  induction n with
  | zero =>
    intro a0 a1 a2 a3 h e0 hf
    have z : (none : Option sm_H) = some _ := hf
    cases z
  | succ n ih =>
    intro a0 a1 a2 a3 h e0 hf
    unfold f_re_condition_L4 at hf
    refine sm_iload_n 3 rfl d_re_condition_4 ?_
    refine sm_sipush (v := 900) (by decide) d_re_condition_5 ?_
    refine sm_icmp_ge 94 d_re_condition_8 rfl (fun c1 => ?_) (fun c1 => ?_)
    · have hf := sm_ifT c1 hf
      obtain rfl := sm_ret1 hf
      exact sm_vret d_re_condition_94 rfl
    · have hf := sm_ifF c1 hf
      refine sm_iload_n 2 rfl d_re_condition_11 ?_
      refine sm_if_eq 94 d_re_condition_12 rfl (fun c2 => ?_) (fun c2 => ?_)
      · have hf := sm_ifT c2 hf
        obtain rfl := sm_ret1 hf
        exact sm_vret d_re_condition_94 rfl
      · have hf := sm_ifF c2 hf
        refine sm_aload_n 0 rfl d_re_condition_15 ?_
        refine sm_iload_n 1 rfl d_re_condition_16 ?_
        obtain ⟨g3, c4, hf⟩ := sm_bindE hf
        refine sm_callV (As := [.int a1]) (rv := none) (h1 := g3) (c := 5) cvv_re_186 rfl rfl e0 (hr_re_test _ e0 _ _ _ c4) rfl rfl d_re_condition_17 ?_
        refine sm_iconst (v := 0) (by decide) d_re_condition_20 ?_
        refine sm_istore (lv' := [(4, .int 0), (0, .ref a0), (1, .int a1), (2, .int a2), (3, .int a3)]) d_re_condition_21 rfl rfl ?_
        refine sm_sub [1, 2, 4, 0] rfl ?_
        exact w_re_condition_L23 l lo hi d fr_re_condition fr_re_test hS hr_re_condition hr_re_test ih sm_N _ _ _ _ _ e0 hf
theorem m_re_condition (l : Launch) (lo hi d : Nat) (fr_re_condition : Nat → Int32 → sm_H → Option sm_H) (fr_re_test : Nat → Int32 → sm_H → Option sm_H) (hS : sm_has lo hi) {a0 : Nat} {a1 : Int32} {h h' : sm_H} (hr_re_condition : ∀ (o : Nat) (_ : sm_at lo hi (0, 5, 0) o) (h h' : sm_H) (b0 : Int32), fr_re_condition o b0 h = some h' → sm_Met l lo hi (d + 5) q_re_condition [.ref o, .int b0] h none h') (hr_re_test : ∀ (o : Nat) (_ : sm_at lo hi (0, 5, 0) o) (h h' : sm_H) (b0 : Int32), fr_re_test o b0 h = some h' → sm_Met l lo hi (d + 5) q_re_test [.ref o, .int b0] h none h') (e0 : sm_at lo hi (0, 5, 0) a0) (hf : f_re_condition fr_re_condition fr_re_test a0 a1 h = some h') : sm_Met l lo hi (d + 6) q_re_condition [.ref a0, .int a1] h none h' := by
  refine sm_Met.of (by decide +kernel) rfl ?_
  show sm_W l lo hi (d + 6) q_re_condition 0 [(0, .ref a0), (1, .int a1)] [] h none h'
  unfold f_re_condition at hf
  refine sm_iconst (v := 1) (by decide) d_re_condition_0 ?_
  refine sm_istore_n (lv' := [(2, .int 1), (0, .ref a0), (1, .int a1)]) d_re_condition_1 rfl rfl ?_
  refine sm_iconst (v := 0) (by decide) d_re_condition_2 ?_
  refine sm_istore_n (lv' := [(3, .int 0), (2, .int 1), (0, .ref a0), (1, .int a1)]) d_re_condition_3 rfl rfl ?_
  refine sm_sub [2, 3, 1, 0] rfl ?_
  exact w_re_condition_L4 l lo hi d fr_re_condition fr_re_test hS hr_re_condition hr_re_test sm_N _ _ _ _ _ e0 hf
theorem d_re_test_0 : decode q_re_test.2.1 0 = .ok (.aload_n 0, 1) := by decide +kernel
theorem d_re_test_1 : decode q_re_test.2.1 1 = .ok (.getfield 12, 3) := by decide +kernel
theorem d_re_test_4 : decode q_re_test.2.1 4 = .ok (.ldc 197, 2) := by decide +kernel
theorem d_re_test_6 : decode q_re_test.2.1 6 = .ok (.invokevirtual 59, 3) := by decide +kernel
theorem d_re_test_9 : decode q_re_test.2.1 9 = .ok (.ifCond .ne 15, 3) := by decide +kernel
theorem d_re_test_12 : decode q_re_test.2.1 12 = .ok (.aload_n 0, 1) := by decide +kernel
theorem d_re_test_13 : decode q_re_test.2.1 13 = .ok (.getfield 12, 3) := by decide +kernel
theorem d_re_test_16 : decode q_re_test.2.1 16 = .ok (.bipush 40, 2) := by decide +kernel
theorem d_re_test_18 : decode q_re_test.2.1 18 = .ok (.invokevirtual 66, 3) := by decide +kernel
theorem d_re_test_21 : decode q_re_test.2.1 21 = .ok (.ifCond .eq 7, 3) := by decide +kernel
theorem d_re_test_24 : decode q_re_test.2.1 24 = .ok (.iconst 1, 1) := by decide +kernel
theorem d_re_test_25 : decode q_re_test.2.1 25 = .ok (.goto 4, 3) := by decide +kernel
theorem d_re_test_28 : decode q_re_test.2.1 28 = .ok (.iconst 0, 1) := by decide +kernel
theorem d_re_test_29 : decode q_re_test.2.1 29 = .ok (.istore_n 2, 1) := by decide +kernel
theorem d_re_test_30 : decode q_re_test.2.1 30 = .ok (.aload_n 0, 1) := by decide +kernel
theorem d_re_test_31 : decode q_re_test.2.1 31 = .ok (.invokevirtual 199, 3) := by decide +kernel
theorem d_re_test_34 : decode q_re_test.2.1 34 = .ok (.istore_n 3, 1) := by decide +kernel
theorem d_re_test_35 : decode q_re_test.2.1 35 = .ok (.iload_n 2, 1) := by decide +kernel
theorem d_re_test_36 : decode q_re_test.2.1 36 = .ok (.ifCond .eq 17, 3) := by decide +kernel
theorem d_re_test_39 : decode q_re_test.2.1 39 = .ok (.iload_n 1, 1) := by decide +kernel
theorem d_re_test_40 : decode q_re_test.2.1 40 = .ok (.bipush 6, 2) := by decide +kernel
theorem d_re_test_42 : decode q_re_test.2.1 42 = .ok (.if_icmp .lt 11, 3) := by decide +kernel
theorem d_re_test_45 : decode q_re_test.2.1 45 = .ok (.aload_n 0, 1) := by decide +kernel
theorem d_re_test_46 : decode q_re_test.2.1 46 = .ok (.iconst 3, 1) := by decide +kernel
theorem d_re_test_47 : decode q_re_test.2.1 47 = .ok (.invokevirtual 73, 3) := by decide +kernel
theorem d_re_test_50 : decode q_re_test.2.1 50 = .ok (.goto 109, 3) := by decide +kernel
theorem d_re_test_53 : decode q_re_test.2.1 53 = .ok (.aload_n 0, 1) := by decide +kernel
theorem d_re_test_54 : decode q_re_test.2.1 54 = .ok (.ldc 197, 2) := by decide +kernel
theorem d_re_test_56 : decode q_re_test.2.1 56 = .ok (.invokevirtual 79, 3) := by decide +kernel
theorem d_re_test_59 : decode q_re_test.2.1 59 = .ok (.ifCond .eq 26, 3) := by decide +kernel
theorem d_re_test_62 : decode q_re_test.2.1 62 = .ok (.aload_n 0, 1) := by decide +kernel
theorem d_re_test_63 : decode q_re_test.2.1 63 = .ok (.iload_n 1, 1) := by decide +kernel
theorem d_re_test_64 : decode q_re_test.2.1 64 = .ok (.iconst 1, 1) := by decide +kernel
theorem d_re_test_65 : decode q_re_test.2.1 65 = .ok (.iadd, 1) := by decide +kernel
theorem d_re_test_66 : decode q_re_test.2.1 66 = .ok (.invokevirtual 186, 3) := by decide +kernel
theorem d_re_test_69 : decode q_re_test.2.1 69 = .ok (.aload_n 0, 1) := by decide +kernel
theorem d_re_test_70 : decode q_re_test.2.1 70 = .ok (.getfield 21, 3) := by decide +kernel
theorem d_re_test_73 : decode q_re_test.2.1 73 = .ok (.getfield 128, 3) := by decide +kernel
theorem d_re_test_76 : decode q_re_test.2.1 76 = .ok (.bipush 6, 2) := by decide +kernel
theorem d_re_test_78 : decode q_re_test.2.1 78 = .ok (.iconst 0, 1) := by decide +kernel
theorem d_re_test_79 : decode q_re_test.2.1 79 = .ok (.invokevirtual 191, 3) := by decide +kernel
theorem d_re_test_82 : decode q_re_test.2.1 82 = .ok (.goto 77, 3) := by decide +kernel
theorem d_re_test_85 : decode q_re_test.2.1 85 = .ok (.aload_n 0, 1) := by decide +kernel
theorem d_re_test_86 : decode q_re_test.2.1 86 = .ok (.bipush 40, 2) := by decide +kernel
theorem d_re_test_88 : decode q_re_test.2.1 88 = .ok (.invokevirtual 70, 3) := by decide +kernel
theorem d_re_test_91 : decode q_re_test.2.1 91 = .ok (.ifCond .eq 19, 3) := by decide +kernel
theorem d_re_test_94 : decode q_re_test.2.1 94 = .ok (.aload_n 0, 1) := by decide +kernel
theorem d_re_test_95 : decode q_re_test.2.1 95 = .ok (.iload_n 1, 1) := by decide +kernel
theorem d_re_test_96 : decode q_re_test.2.1 96 = .ok (.iconst 1, 1) := by decide +kernel
theorem d_re_test_97 : decode q_re_test.2.1 97 = .ok (.iadd, 1) := by decide +kernel
theorem d_re_test_98 : decode q_re_test.2.1 98 = .ok (.invokevirtual 175, 3) := by decide +kernel
theorem d_re_test_101 : decode q_re_test.2.1 101 = .ok (.aload_n 0, 1) := by decide +kernel
theorem d_re_test_102 : decode q_re_test.2.1 102 = .ok (.bipush 41, 2) := by decide +kernel
theorem d_re_test_104 : decode q_re_test.2.1 104 = .ok (.invokevirtual 139, 3) := by decide +kernel
theorem d_re_test_107 : decode q_re_test.2.1 107 = .ok (.goto 52, 3) := by decide +kernel
theorem d_re_test_110 : decode q_re_test.2.1 110 = .ok (.iload_n 3, 1) := by decide +kernel
theorem d_re_test_111 : decode q_re_test.2.1 111 = .ok (.ifCond .ge 11, 3) := by decide +kernel
theorem d_re_test_114 : decode q_re_test.2.1 114 = .ok (.aload_n 0, 1) := by decide +kernel
theorem d_re_test_115 : decode q_re_test.2.1 115 = .ok (.iconst 1, 1) := by decide +kernel
theorem d_re_test_116 : decode q_re_test.2.1 116 = .ok (.invokevirtual 73, 3) := by decide +kernel
theorem d_re_test_119 : decode q_re_test.2.1 119 = .ok (.goto 40, 3) := by decide +kernel
theorem d_re_test_122 : decode q_re_test.2.1 122 = .ok (.aload_n 0, 1) := by decide +kernel
theorem d_re_test_123 : decode q_re_test.2.1 123 = .ok (.getfield 12, 3) := by decide +kernel
theorem d_re_test_126 : decode q_re_test.2.1 126 = .ok (.invokevirtual 63, 3) := by decide +kernel
theorem d_re_test_129 : decode q_re_test.2.1 129 = .ok (.aload_n 0, 1) := by decide +kernel
theorem d_re_test_130 : decode q_re_test.2.1 130 = .ok (.getfield 21, 3) := by decide +kernel
theorem d_re_test_133 : decode q_re_test.2.1 133 = .ok (.getfield 128, 3) := by decide +kernel
theorem d_re_test_136 : decode q_re_test.2.1 136 = .ok (.iload_n 3, 1) := by decide +kernel
theorem d_re_test_137 : decode q_re_test.2.1 137 = .ok (.iload_n 3, 1) := by decide +kernel
theorem d_re_test_138 : decode q_re_test.2.1 138 = .ok (.iconst 5, 1) := by decide +kernel
theorem d_re_test_139 : decode q_re_test.2.1 139 = .ok (.if_icmp .ne 7, 3) := by decide +kernel
theorem d_re_test_142 : decode q_re_test.2.1 142 = .ok (.iconst 0, 1) := by decide +kernel
theorem d_re_test_143 : decode q_re_test.2.1 143 = .ok (.goto 13, 3) := by decide +kernel
theorem d_re_test_146 : decode q_re_test.2.1 146 = .ok (.aload_n 0, 1) := by decide +kernel
theorem d_re_test_147 : decode q_re_test.2.1 147 = .ok (.iconst 0, 1) := by decide +kernel
theorem d_re_test_148 : decode q_re_test.2.1 148 = .ok (.aload_n 0, 1) := by decide +kernel
theorem d_re_test_149 : decode q_re_test.2.1 149 = .ok (.iload_n 3, 1) := by decide +kernel
theorem d_re_test_150 : decode q_re_test.2.1 150 = .ok (.invokevirtual 202, 3) := by decide +kernel
theorem d_re_test_153 : decode q_re_test.2.1 153 = .ok (.invokevirtual 84, 3) := by decide +kernel
theorem d_re_test_156 : decode q_re_test.2.1 156 = .ok (.invokevirtual 191, 3) := by decide +kernel
theorem d_re_test_159 : decode q_re_test.2.1 159 = .ok (.return_, 1) := by decide +kernel
theorem w_re_test_L156 (l : Launch) (lo hi d : Nat) (fr_re_condition : Nat → Int32 → sm_H → Option sm_H) (fr_re_test : Nat → Int32 → sm_H → Option sm_H) (hS : sm_has lo hi) {h' : sm_H} (hr_re_condition : ∀ (o : Nat) (_ : sm_at lo hi (0, 5, 0) o) (h h' : sm_H) (b0 : Int32), fr_re_condition o b0 h = some h' → sm_Met l lo hi (d + 5) q_re_condition [.ref o, .int b0] h none h') (hr_re_test : ∀ (o : Nat) (_ : sm_at lo hi (0, 5, 0) o) (h h' : sm_H) (b0 : Int32), fr_re_test o b0 h = some h' → sm_Met l lo hi (d + 5) q_re_test [.ref o, .int b0] h none h') (s0 : Int32) (s1 : Int32) (s2 : Nat) (h : sm_H) (t2 : sm_at lo hi (0, 6, 0) s2) (hf : f_re_test_L156 fr_re_condition fr_re_test s0 s1 s2 h = some h') : sm_W l lo hi (d + 6) q_re_test 156 [] [.int s0, .int s1, .ref s2] h none h' := by
  unfold f_re_test_L156 at hf
  obtain ⟨g54, c55, hf⟩ := sm_bindE hf
  refine sm_callV (As := [.int s1, .int s0]) (rv := none) (h1 := g54) (c := 6) cvv_re_191 rfl rfl t2 (m_ru_addCode l lo hi _ t2 c55) rfl rfl d_re_test_156 ?_
  obtain rfl := sm_ret1 hf
  exact sm_vret d_re_test_159 rfl
theorem w_re_test_L53 (l : Launch) (lo hi d : Nat) (fr_re_condition : Nat → Int32 → sm_H → Option sm_H) (fr_re_test : Nat → Int32 → sm_H → Option sm_H) (hS : sm_has lo hi) {h' : sm_H} (hr_re_condition : ∀ (o : Nat) (_ : sm_at lo hi (0, 5, 0) o) (h h' : sm_H) (b0 : Int32), fr_re_condition o b0 h = some h' → sm_Met l lo hi (d + 5) q_re_condition [.ref o, .int b0] h none h') (hr_re_test : ∀ (o : Nat) (_ : sm_at lo hi (0, 5, 0) o) (h h' : sm_H) (b0 : Int32), fr_re_test o b0 h = some h' → sm_Met l lo hi (d + 5) q_re_test [.ref o, .int b0] h none h') (a0 : Nat) (a1 : Int32) (a3 : Int32) (h : sm_H) (e0 : sm_at lo hi (0, 5, 0) a0) (hf : f_re_test_L53 fr_re_condition fr_re_test a0 a1 a3 h = some h') : sm_W l lo hi (d + 6) q_re_test 53 [(0, .ref a0), (1, .int a1), (3, .int a3)] [] h none h' := by
  unfold f_re_test_L53 at hf
  refine sm_aload_n 0 rfl d_re_test_53 ?_
  refine sm_ldcS 11 (z := (197, "not")) rfl rfl d_re_test_54 ?_
  obtain ⟨r16, g17, c18, hf⟩ := sm_b2E hf
  refine sm_callV (As := [.ref (5000 + 11)]) (rv := some (.int r16)) (h1 := g17) (c := 5) cvv_re_79 rfl rfl e0 (m_re_takeWord l lo hi _ e0 rfl c18) rfl rfl d_re_test_56 ?_
  refine sm_if_eq 85 d_re_test_59 rfl (fun c19 => ?_) (fun c19 => ?_)
  · have hf := sm_ifT c19 hf
    refine sm_aload_n 0 rfl d_re_test_85 ?_
    refine sm_bipush (v := 40) (by decide) d_re_test_86 ?_
    obtain ⟨r20, g21, c22, hf⟩ := sm_b2E hf
    refine sm_callV (As := [.int 40]) (rv := some (.int r20)) (h1 := g21) (c := 5) cvv_re_70 rfl rfl e0 (m_re_takeSign l lo hi _ e0 c22) rfl rfl d_re_test_88 ?_
    refine sm_if_eq 110 d_re_test_91 rfl (fun c23 => ?_) (fun c23 => ?_)
    · have hf := sm_ifT c23 hf
      refine sm_iload_n 2 rfl d_re_test_110 ?_
      refine sm_if_ge 122 d_re_test_111 rfl (fun c24 => ?_) (fun c24 => ?_)
      · have hf := sm_ifT c24 hf
        refine sm_aload_n 0 rfl d_re_test_122 ?_
        refine sm_getR (n := 1) fl_re_12 e0 rfl d_re_test_123 ?_
        obtain ⟨g25, c26, hf⟩ := sm_bindE hf
        refine sm_callV (As := []) (rv := none) (h1 := g25) (c := 8) cvv_re_63 rfl rfl (sm_inner e0 0 rfl rfl rfl) (m_te_advance l lo hi _ (sm_inner e0 0 rfl rfl rfl) c26) rfl rfl d_re_test_126 ?_
        refine sm_aload_n 0 rfl d_re_test_129 ?_
        obtain ⟨c27, hf⟩ := sm_gdE hf
        obtain ⟨z28, v29⟩ := sm_isP_at hS c27
        refine sm_getD fl_re_21 e0 rfl z28 d_re_test_130 ?_
        refine sm_nmR (fun p30 w31 => ?_)
        have hf := sm_letV w31 hf
        have v29 := sm_ev w31 v29
        refine sm_getR (n := 9) fl_re_128 v29 rfl d_re_test_133 ?_
        refine sm_iload_n 2 rfl d_re_test_136 ?_
        refine sm_iload_n 2 rfl d_re_test_137 ?_
        refine sm_iconst (v := 5) (by decide) d_re_test_138 ?_
        refine sm_icmp_ne 146 d_re_test_139 rfl (fun c32 => ?_) (fun c32 => ?_)
        · have hf := sm_ifF c32 hf
          refine sm_aload_n 0 rfl d_re_test_146 ?_
          refine sm_iconst (v := 0) (by decide) d_re_test_147 ?_
          refine sm_aload_n 0 rfl d_re_test_148 ?_
          refine sm_iload_n 2 rfl d_re_test_149 ?_
          obtain ⟨r33, g34, c35, hf⟩ := sm_b2E hf
          refine sm_callV (As := [.int a3]) (rv := some (.int r33)) (h1 := g34) (c := 5) cvv_re_202 rfl rfl e0 (m_re_lastFor l lo hi _ hS e0 c35) rfl rfl d_re_test_150 ?_
          obtain ⟨r36, g37, c38, hf⟩ := sm_b2E hf
          refine sm_callV (As := [.int 0, .int r33]) (rv := some (.int r36)) (h1 := g37) (c := 5) cvv_re_84 rfl rfl e0 (m_re_needNumber l lo hi _ e0 c38) rfl rfl d_re_test_153 ?_
          refine sm_sub [] rfl ?_
          exact w_re_test_L156 l lo hi d fr_re_condition fr_re_test hS hr_re_condition hr_re_test _ _ _ _ (sm_inner v29 15 rfl rfl rfl) hf
        · have hf := sm_ifT c32 hf
          refine sm_iconst (v := 0) (by decide) d_re_test_142 ?_
          refine sm_goto 156 d_re_test_143 rfl ?_
          refine sm_sub [] rfl ?_
          exact w_re_test_L156 l lo hi d fr_re_condition fr_re_test hS hr_re_condition hr_re_test _ _ _ _ (sm_inner v29 15 rfl rfl rfl) hf
      · have hf := sm_ifF c24 hf
        refine sm_aload_n 0 rfl d_re_test_114 ?_
        refine sm_iconst (v := 1) (by decide) d_re_test_115 ?_
        obtain ⟨g39, c40, hf⟩ := sm_bindE hf
        refine sm_callV (As := [.int 1]) (rv := none) (h1 := g39) (c := 5) cvv_re_73 rfl rfl e0 (m_re_fail l lo hi _ e0 c40) rfl rfl d_re_test_116 ?_
        refine sm_goto 159 d_re_test_119 rfl ?_
        obtain rfl := sm_ret1 hf
        exact sm_vret d_re_test_159 rfl
    · have hf := sm_ifF c23 hf
      refine sm_aload_n 0 rfl d_re_test_94 ?_
      refine sm_iload_n 1 rfl d_re_test_95 ?_
      refine sm_iconst (v := 1) (by decide) d_re_test_96 ?_
      refine sm_iadd d_re_test_97 ?_
      obtain ⟨g41, c42, hf⟩ := sm_bindE hf
      refine sm_callV (As := [.int (a1 + 1)]) (rv := none) (h1 := g41) (c := 5) cvv_re_175 rfl rfl e0 (hr_re_condition _ e0 _ _ _ c42) rfl rfl d_re_test_98 ?_
      refine sm_aload_n 0 rfl d_re_test_101 ?_
      refine sm_bipush (v := 41) (by decide) d_re_test_102 ?_
      obtain ⟨g43, c44, hf⟩ := sm_bindE hf
      refine sm_callV (As := [.int 41]) (rv := none) (h1 := g43) (c := 5) cvv_re_139 rfl rfl e0 (m_re_needSign l lo hi _ e0 c44) rfl rfl d_re_test_104 ?_
      refine sm_goto 159 d_re_test_107 rfl ?_
      obtain rfl := sm_ret1 hf
      exact sm_vret d_re_test_159 rfl
  · have hf := sm_ifF c19 hf
    refine sm_aload_n 0 rfl d_re_test_62 ?_
    refine sm_iload_n 1 rfl d_re_test_63 ?_
    refine sm_iconst (v := 1) (by decide) d_re_test_64 ?_
    refine sm_iadd d_re_test_65 ?_
    obtain ⟨g45, c46, hf⟩ := sm_bindE hf
    refine sm_callV (As := [.int (a1 + 1)]) (rv := none) (h1 := g45) (c := 5) cvv_re_186 rfl rfl e0 (hr_re_test _ e0 _ _ _ c46) rfl rfl d_re_test_66 ?_
    refine sm_aload_n 0 rfl d_re_test_69 ?_
    obtain ⟨c47, hf⟩ := sm_gdE hf
    obtain ⟨z48, v49⟩ := sm_isP_at hS c47
    refine sm_getD fl_re_21 e0 rfl z48 d_re_test_70 ?_
    refine sm_nmR (fun p50 w51 => ?_)
    have hf := sm_letV w51 hf
    have v49 := sm_ev w51 v49
    refine sm_getR (n := 9) fl_re_128 v49 rfl d_re_test_73 ?_
    refine sm_bipush (v := 6) (by decide) d_re_test_76 ?_
    refine sm_iconst (v := 0) (by decide) d_re_test_78 ?_
    obtain ⟨g52, c53, hf⟩ := sm_bindE hf
    refine sm_callV (As := [.int 6, .int 0]) (rv := none) (h1 := g52) (c := 6) cvv_re_191 rfl rfl (sm_inner v49 15 rfl rfl rfl) (m_ru_addCode l lo hi _ (sm_inner v49 15 rfl rfl rfl) c53) rfl rfl d_re_test_79 ?_
    refine sm_goto 159 d_re_test_82 rfl ?_
    obtain rfl := sm_ret1 hf
    exact sm_vret d_re_test_159 rfl
theorem w_re_test_L29 (l : Launch) (lo hi d : Nat) (fr_re_condition : Nat → Int32 → sm_H → Option sm_H) (fr_re_test : Nat → Int32 → sm_H → Option sm_H) (hS : sm_has lo hi) {h' : sm_H} (hr_re_condition : ∀ (o : Nat) (_ : sm_at lo hi (0, 5, 0) o) (h h' : sm_H) (b0 : Int32), fr_re_condition o b0 h = some h' → sm_Met l lo hi (d + 5) q_re_condition [.ref o, .int b0] h none h') (hr_re_test : ∀ (o : Nat) (_ : sm_at lo hi (0, 5, 0) o) (h h' : sm_H) (b0 : Int32), fr_re_test o b0 h = some h' → sm_Met l lo hi (d + 5) q_re_test [.ref o, .int b0] h none h') (a0 : Nat) (a1 : Int32) (s0 : Int32) (h : sm_H) (e0 : sm_at lo hi (0, 5, 0) a0) (hf : f_re_test_L29 fr_re_condition fr_re_test a0 a1 s0 h = some h') : sm_W l lo hi (d + 6) q_re_test 29 [(0, .ref a0), (1, .int a1)] [.int s0] h none h' := by
  unfold f_re_test_L29 at hf
  refine sm_istore_n (lv' := [(2, .int s0), (0, .ref a0), (1, .int a1)]) d_re_test_29 rfl rfl ?_
  refine sm_aload_n 1 rfl d_re_test_30 ?_
  obtain ⟨r9, g10, c11, hf⟩ := sm_b2E hf
  refine sm_callV (As := []) (rv := some (.int r9)) (h1 := g10) (c := 5) cvv_re_199 rfl rfl e0 (m_re_testHere l lo hi _ e0 c11) rfl rfl d_re_test_31 ?_
  refine sm_istore_n (lv' := [(3, .int r9), (2, .int s0), (0, .ref a0), (1, .int a1)]) d_re_test_34 rfl rfl ?_
  refine sm_iload_n 1 rfl d_re_test_35 ?_
  refine sm_if_eq 53 d_re_test_36 rfl (fun c12 => ?_) (fun c12 => ?_)
  · have hf := sm_ifT c12 hf
    refine sm_sub [2, 3, 0] rfl ?_
    exact w_re_test_L53 l lo hi d fr_re_condition fr_re_test hS hr_re_condition hr_re_test _ _ _ _ e0 hf
  · have hf := sm_ifF c12 hf
    refine sm_iload_n 3 rfl d_re_test_39 ?_
    refine sm_bipush (v := 6) (by decide) d_re_test_40 ?_
    refine sm_icmp_lt 53 d_re_test_42 rfl (fun c13 => ?_) (fun c13 => ?_)
    · have hf := sm_ifT c13 hf
      refine sm_sub [2, 3, 0] rfl ?_
      exact w_re_test_L53 l lo hi d fr_re_condition fr_re_test hS hr_re_condition hr_re_test _ _ _ _ e0 hf
    · have hf := sm_ifF c13 hf
      refine sm_aload_n 2 rfl d_re_test_45 ?_
      refine sm_iconst (v := 3) (by decide) d_re_test_46 ?_
      obtain ⟨g14, c15, hf⟩ := sm_bindE hf
      refine sm_callV (As := [.int 3]) (rv := none) (h1 := g14) (c := 5) cvv_re_73 rfl rfl e0 (m_re_fail l lo hi _ e0 c15) rfl rfl d_re_test_47 ?_
      refine sm_goto 159 d_re_test_50 rfl ?_
      obtain rfl := sm_ret1 hf
      exact sm_vret d_re_test_159 rfl
theorem w_re_test_L24 (l : Launch) (lo hi d : Nat) (fr_re_condition : Nat → Int32 → sm_H → Option sm_H) (fr_re_test : Nat → Int32 → sm_H → Option sm_H) (hS : sm_has lo hi) {h' : sm_H} (hr_re_condition : ∀ (o : Nat) (_ : sm_at lo hi (0, 5, 0) o) (h h' : sm_H) (b0 : Int32), fr_re_condition o b0 h = some h' → sm_Met l lo hi (d + 5) q_re_condition [.ref o, .int b0] h none h') (hr_re_test : ∀ (o : Nat) (_ : sm_at lo hi (0, 5, 0) o) (h h' : sm_H) (b0 : Int32), fr_re_test o b0 h = some h' → sm_Met l lo hi (d + 5) q_re_test [.ref o, .int b0] h none h') (a0 : Nat) (a1 : Int32) (h : sm_H) (e0 : sm_at lo hi (0, 5, 0) a0) (hf : f_re_test_L24 fr_re_condition fr_re_test a0 a1 h = some h') : sm_W l lo hi (d + 6) q_re_test 24 [(0, .ref a0), (1, .int a1)] [] h none h' := by
  unfold f_re_test_L24 at hf
  refine sm_iconst (v := 1) (by decide) d_re_test_24 ?_
  refine sm_goto 29 d_re_test_25 rfl ?_
  exact w_re_test_L29 l lo hi d fr_re_condition fr_re_test hS hr_re_condition hr_re_test _ _ _ _ e0 hf
theorem m_re_test (l : Launch) (lo hi d : Nat) (fr_re_condition : Nat → Int32 → sm_H → Option sm_H) (fr_re_test : Nat → Int32 → sm_H → Option sm_H) (hS : sm_has lo hi) {a0 : Nat} {a1 : Int32} {h h' : sm_H} (hr_re_condition : ∀ (o : Nat) (_ : sm_at lo hi (0, 5, 0) o) (h h' : sm_H) (b0 : Int32), fr_re_condition o b0 h = some h' → sm_Met l lo hi (d + 5) q_re_condition [.ref o, .int b0] h none h') (hr_re_test : ∀ (o : Nat) (_ : sm_at lo hi (0, 5, 0) o) (h h' : sm_H) (b0 : Int32), fr_re_test o b0 h = some h' → sm_Met l lo hi (d + 5) q_re_test [.ref o, .int b0] h none h') (e0 : sm_at lo hi (0, 5, 0) a0) (hf : f_re_test fr_re_condition fr_re_test a0 a1 h = some h') : sm_Met l lo hi (d + 6) q_re_test [.ref a0, .int a1] h none h' := by
  refine sm_Met.of (by decide +kernel) rfl ?_
  show sm_W l lo hi (d + 6) q_re_test 0 [(0, .ref a0), (1, .int a1)] [] h none h'
  unfold f_re_test at hf
  refine sm_aload_n 0 rfl d_re_test_0 ?_
  refine sm_getR (n := 1) fl_re_12 e0 rfl d_re_test_1 ?_
  refine sm_ldcS 11 (z := (197, "not")) rfl rfl d_re_test_4 ?_
  obtain ⟨r1, g2, c3, hf⟩ := sm_b2E hf
  refine sm_callV (As := [.ref (5000 + 11)]) (rv := some (.int r1)) (h1 := g2) (c := 8) cvv_re_59 rfl rfl (sm_inner e0 0 rfl rfl rfl) (m_te_isWord l lo hi _ (sm_inner e0 0 rfl rfl rfl) rfl c3) rfl rfl d_re_test_6 ?_
  refine sm_if_ne 24 d_re_test_9 rfl (fun c4 => ?_) (fun c4 => ?_)
  · have hf := sm_ifF c4 hf
    exact w_re_test_L24 l lo hi d fr_re_condition fr_re_test hS hr_re_condition hr_re_test _ _ _ e0 hf
  · have hf := sm_ifT c4 hf
    refine sm_aload_n 0 rfl d_re_test_12 ?_
    refine sm_getR (n := 1) fl_re_12 e0 rfl d_re_test_13 ?_
    refine sm_bipush (v := 40) (by decide) d_re_test_16 ?_
    obtain ⟨r5, g6, c7, hf⟩ := sm_b2E hf
    refine sm_callV (As := [.int 40]) (rv := some (.int r5)) (h1 := g6) (c := 8) cvv_re_66 rfl rfl (sm_inner e0 0 rfl rfl rfl) (m_te_isSign l lo hi _ (sm_inner e0 0 rfl rfl rfl) c7) rfl rfl d_re_test_18 ?_
    refine sm_if_eq 28 d_re_test_21 rfl (fun c8 => ?_) (fun c8 => ?_)
    · have hf := sm_ifT c8 hf
      refine sm_iconst (v := 0) (by decide) d_re_test_28 ?_
      exact w_re_test_L29 l lo hi d fr_re_condition fr_re_test hS hr_re_condition hr_re_test _ _ _ _ e0 hf
    · have hf := sm_ifF c8 hf
      exact w_re_test_L24 l lo hi d fr_re_condition fr_re_test hS hr_re_condition hr_re_test _ _ _ e0 hf
theorem m_test_n (l : Launch) (lo hi : Nat) (hS : sm_has lo hi) : ∀ (n d : Nat) {a0 : Nat} {a1 : Int32} {h h' : sm_H} (e0 : sm_at lo hi (0, 5, 0) a0) (hf : sm_test n a0 a1 h = some h'), sm_Met l lo hi (d + 2 * n + 6) q_re_test [.ref a0, .int a1] h none h' := by
  intro n
  induction n with
  | zero =>
    intro d a0 a1 h h' e0 hf
    have z : (none : Option sm_H) = some _ := hf
    cases z
  | succ n ih =>
    intro d a0 a1 h h' e0 hf
    have e : d + 2 * (n + 1) + 6 = d + 2 * n + 2 + 6 := by omega
    rw [e]
    refine m_re_test l lo hi (d + 2 * n + 2) (f_re_condition (fun _ _ _ => none) (sm_test n)) (sm_test n) hS (fun o eo h1 h2 b0 hc => ?_) (fun o eo h1 h2 b0 hc => ?_) e0 hf
    · have g := m_re_condition l lo hi (d + 2 * n + 1) (fun _ _ _ => none) (sm_test n) hS (fun o2 eo2 h3 h4 b1 hc2 => by cases hc2) (fun o2 eo2 h3 h4 b1 hc2 => by
        have g2 := ih d eo2 hc2
        have e2 : d + 2 * n + 1 + 5 = d + 2 * n + 6 := by omega
        rw [e2]
        exact g2) eo hc
      have e3 : d + 2 * n + 2 + 5 = d + 2 * n + 1 + 6 := by omega
      rw [e3]
      exact g
    · have g := ih (d + 1) eo hc
      have e3 : d + 2 * n + 2 + 5 = d + 1 + 2 * n + 6 := by omega
      rw [e3]
      exact g
theorem m_condition20 (l : Launch) (lo hi d : Nat) (hS : sm_has lo hi) {a0 : Nat} {a1 : Int32} {h h' : sm_H} (e0 : sm_at lo hi (0, 5, 0) a0) (hf : sm_condition 20 a0 a1 h = some h') : sm_Met l lo hi (d + 47) q_re_condition [.ref a0, .int a1] h none h' := by
  have g := m_re_condition l lo hi (d + 41) (fun _ _ _ => none) (sm_test 20) hS (fun o2 eo2 h3 h4 b1 hc2 => by cases hc2) (fun o2 eo2 h3 h4 b1 hc2 => by
    have g2 := m_test_n l lo hi hS 20 d eo2 hc2
    have e2 : d + 41 + 5 = d + 2 * 20 + 6 := by omega
    rw [e2]
    exact g2) e0 hf
  have e3 : d + 47 = d + 41 + 6 := by omega
  rw [e3]
  exact g
theorem d_ru_endRule_0 : decode q_ru_endRule.2.1 0 = .ok (.aload_n 0, 1) := by decide +kernel
theorem d_ru_endRule_1 : decode q_ru_endRule.2.1 1 = .ok (.getfield 30, 3) := by decide +kernel
theorem d_ru_endRule_4 : decode q_ru_endRule.2.1 4 = .ok (.bipush 12, 2) := by decide +kernel
theorem d_ru_endRule_6 : decode q_ru_endRule.2.1 6 = .ok (.if_icmp .ge 39, 3) := by decide +kernel
theorem d_ru_endRule_9 : decode q_ru_endRule.2.1 9 = .ok (.aload_n 0, 1) := by decide +kernel
theorem d_ru_endRule_10 : decode q_ru_endRule.2.1 10 = .ok (.getfield 18, 3) := by decide +kernel
theorem d_ru_endRule_13 : decode q_ru_endRule.2.1 13 = .ok (.aload_n 0, 1) := by decide +kernel
theorem d_ru_endRule_14 : decode q_ru_endRule.2.1 14 = .ok (.getfield 30, 3) := by decide +kernel
theorem d_ru_endRule_17 : decode q_ru_endRule.2.1 17 = .ok (.aload_n 0, 1) := by decide +kernel
theorem d_ru_endRule_18 : decode q_ru_endRule.2.1 18 = .ok (.getfield 34, 3) := by decide +kernel
theorem d_ru_endRule_21 : decode q_ru_endRule.2.1 21 = .ok (.iastore, 1) := by decide +kernel
theorem d_ru_endRule_22 : decode q_ru_endRule.2.1 22 = .ok (.aload_n 0, 1) := by decide +kernel
theorem d_ru_endRule_23 : decode q_ru_endRule.2.1 23 = .ok (.getfield 27, 3) := by decide +kernel
theorem d_ru_endRule_26 : decode q_ru_endRule.2.1 26 = .ok (.aload_n 0, 1) := by decide +kernel
theorem d_ru_endRule_27 : decode q_ru_endRule.2.1 27 = .ok (.getfield 30, 3) := by decide +kernel
theorem d_ru_endRule_30 : decode q_ru_endRule.2.1 30 = .ok (.aload_n 0, 1) := by decide +kernel
theorem d_ru_endRule_31 : decode q_ru_endRule.2.1 31 = .ok (.getfield 37, 3) := by decide +kernel
theorem d_ru_endRule_34 : decode q_ru_endRule.2.1 34 = .ok (.iastore, 1) := by decide +kernel
theorem d_ru_endRule_35 : decode q_ru_endRule.2.1 35 = .ok (.aload_n 0, 1) := by decide +kernel
theorem d_ru_endRule_36 : decode q_ru_endRule.2.1 36 = .ok (.dup, 1) := by decide +kernel
theorem d_ru_endRule_37 : decode q_ru_endRule.2.1 37 = .ok (.getfield 30, 3) := by decide +kernel
theorem d_ru_endRule_40 : decode q_ru_endRule.2.1 40 = .ok (.iconst 1, 1) := by decide +kernel
theorem d_ru_endRule_41 : decode q_ru_endRule.2.1 41 = .ok (.iadd, 1) := by decide +kernel
theorem d_ru_endRule_42 : decode q_ru_endRule.2.1 42 = .ok (.putfield 30, 3) := by decide +kernel
theorem d_ru_endRule_45 : decode q_ru_endRule.2.1 45 = .ok (.return_, 1) := by decide +kernel
theorem m_ru_endRule (l : Launch) (lo hi d : Nat) {a0 : Nat} {h h' : sm_H} (e0 : sm_at lo hi (0, 6, 0) a0) (hf : f_ru_endRule a0 h = some h') : sm_Met l lo hi (d) q_ru_endRule [.ref a0] h none h' := by
  refine sm_Met.of (by decide +kernel) rfl ?_
  show sm_W l lo hi (d) q_ru_endRule 0 [(0, .ref a0)] [] h none h'
  unfold f_ru_endRule at hf
  refine sm_aload_n 0 rfl d_ru_endRule_0 ?_
  refine sm_getI fl_ru_30 e0 rfl d_ru_endRule_1 ?_
  refine sm_bipush (v := 12) (by decide) d_ru_endRule_4 ?_
  refine sm_icmp_ge 45 d_ru_endRule_6 rfl (fun c1 => ?_) (fun c1 => ?_)
  · have hf := sm_ifT c1 hf
    obtain rfl := sm_ret1 hf
    exact sm_vret d_ru_endRule_45 rfl
  · have hf := sm_ifF c1 hf
    refine sm_aload_n 0 rfl d_ru_endRule_9 ?_
    refine sm_getR (n := 3) fl_ru_18 e0 rfl d_ru_endRule_10 ?_
    refine sm_aload_n 0 rfl d_ru_endRule_13 ?_
    refine sm_getI fl_ru_30 e0 rfl d_ru_endRule_14 ?_
    refine sm_aload_n 0 rfl d_ru_endRule_17 ?_
    refine sm_getI fl_ru_34 e0 rfl d_ru_endRule_18 ?_
    obtain ⟨c2, hf⟩ := sm_gdE hf
    refine sm_iast (sm_at_arr (sm_inner e0 5 rfl rfl rfl)) c2 d_ru_endRule_21 ?_
    refine sm_nmH (fun g3 w4 => ?_)
    have hf := sm_letV w4 hf
    refine sm_aload_n 0 rfl d_ru_endRule_22 ?_
    refine sm_getR (n := 6) fl_ru_27 e0 rfl d_ru_endRule_23 ?_
    refine sm_aload_n 0 rfl d_ru_endRule_26 ?_
    refine sm_getI fl_ru_30 e0 rfl d_ru_endRule_27 ?_
    refine sm_aload_n 0 rfl d_ru_endRule_30 ?_
    refine sm_getI fl_ru_37 e0 rfl d_ru_endRule_31 ?_
    obtain ⟨c5, hf⟩ := sm_gdE hf
    refine sm_iast (sm_at_arr (sm_inner e0 8 rfl rfl rfl)) c5 d_ru_endRule_34 ?_
    refine sm_nmH (fun g6 w7 => ?_)
    have hf := sm_letV w7 hf
    refine sm_aload_n 0 rfl d_ru_endRule_35 ?_
    refine sm_dup rfl d_ru_endRule_36 ?_
    refine sm_getI fl_ru_30 e0 rfl d_ru_endRule_37 ?_
    refine sm_iconst (v := 1) (by decide) d_ru_endRule_40 ?_
    refine sm_iadd d_ru_endRule_41 ?_
    refine sm_putI fp_ru_30 e0 rfl rfl d_ru_endRule_42 ?_
    refine sm_nmH (fun g8 w9 => ?_)
    have hf := sm_letV w9 hf
    obtain rfl := sm_ret1 hf
    exact sm_vret d_ru_endRule_45 rfl
theorem d_re_ruleItem_0 : decode q_re_ruleItem.2.1 0 = .ok (.aload_n 0, 1) := by decide +kernel
theorem d_re_ruleItem_1 : decode q_re_ruleItem.2.1 1 = .ok (.iconst 0, 1) := by decide +kernel
theorem d_re_ruleItem_2 : decode q_re_ruleItem.2.1 2 = .ok (.invokevirtual 175, 3) := by decide +kernel
theorem d_re_ruleItem_5 : decode q_re_ruleItem.2.1 5 = .ok (.aload_n 0, 1) := by decide +kernel
theorem d_re_ruleItem_6 : decode q_re_ruleItem.2.1 6 = .ok (.ldc 178, 2) := by decide +kernel
theorem d_re_ruleItem_8 : decode q_re_ruleItem.2.1 8 = .ok (.invokevirtual 79, 3) := by decide +kernel
theorem d_re_ruleItem_11 : decode q_re_ruleItem.2.1 11 = .ok (.ifCond .ne 8, 3) := by decide +kernel
theorem d_re_ruleItem_14 : decode q_re_ruleItem.2.1 14 = .ok (.aload_n 0, 1) := by decide +kernel
theorem d_re_ruleItem_15 : decode q_re_ruleItem.2.1 15 = .ok (.iconst 1, 1) := by decide +kernel
theorem d_re_ruleItem_16 : decode q_re_ruleItem.2.1 16 = .ok (.invokevirtual 73, 3) := by decide +kernel
theorem d_re_ruleItem_19 : decode q_re_ruleItem.2.1 19 = .ok (.aload_n 0, 1) := by decide +kernel
theorem d_re_ruleItem_20 : decode q_re_ruleItem.2.1 20 = .ok (.iconst 0, 1) := by decide +kernel
theorem d_re_ruleItem_21 : decode q_re_ruleItem.2.1 21 = .ok (.invokevirtual 180, 3) := by decide +kernel
theorem d_re_ruleItem_24 : decode q_re_ruleItem.2.1 24 = .ok (.iconst 1, 1) := by decide +kernel
theorem d_re_ruleItem_25 : decode q_re_ruleItem.2.1 25 = .ok (.istore_n 1, 1) := by decide +kernel
theorem d_re_ruleItem_26 : decode q_re_ruleItem.2.1 26 = .ok (.iload_n 1, 1) := by decide +kernel
theorem d_re_ruleItem_27 : decode q_re_ruleItem.2.1 27 = .ok (.bipush 8, 2) := by decide +kernel
theorem d_re_ruleItem_29 : decode q_re_ruleItem.2.1 29 = .ok (.if_icmp .gt 23, 3) := by decide +kernel
theorem d_re_ruleItem_32 : decode q_re_ruleItem.2.1 32 = .ok (.aload_n 0, 1) := by decide +kernel
theorem d_re_ruleItem_33 : decode q_re_ruleItem.2.1 33 = .ok (.bipush 44, 2) := by decide +kernel
theorem d_re_ruleItem_35 : decode q_re_ruleItem.2.1 35 = .ok (.invokevirtual 70, 3) := by decide +kernel
theorem d_re_ruleItem_38 : decode q_re_ruleItem.2.1 38 = .ok (.ifCond .eq 14, 3) := by decide +kernel
theorem d_re_ruleItem_41 : decode q_re_ruleItem.2.1 41 = .ok (.aload_n 0, 1) := by decide +kernel
theorem d_re_ruleItem_42 : decode q_re_ruleItem.2.1 42 = .ok (.iload_n 1, 1) := by decide +kernel
theorem d_re_ruleItem_43 : decode q_re_ruleItem.2.1 43 = .ok (.invokevirtual 180, 3) := by decide +kernel
theorem d_re_ruleItem_46 : decode q_re_ruleItem.2.1 46 = .ok (.iinc 1 1, 3) := by decide +kernel
theorem d_re_ruleItem_49 : decode q_re_ruleItem.2.1 49 = .ok (.goto (-23), 3) := by decide +kernel
theorem d_re_ruleItem_52 : decode q_re_ruleItem.2.1 52 = .ok (.aload_n 0, 1) := by decide +kernel
theorem d_re_ruleItem_53 : decode q_re_ruleItem.2.1 53 = .ok (.getfield 36, 3) := by decide +kernel
theorem d_re_ruleItem_56 : decode q_re_ruleItem.2.1 56 = .ok (.ifCond .ne 13, 3) := by decide +kernel
theorem d_re_ruleItem_59 : decode q_re_ruleItem.2.1 59 = .ok (.aload_n 0, 1) := by decide +kernel
theorem d_re_ruleItem_60 : decode q_re_ruleItem.2.1 60 = .ok (.getfield 21, 3) := by decide +kernel
theorem d_re_ruleItem_63 : decode q_re_ruleItem.2.1 63 = .ok (.getfield 128, 3) := by decide +kernel
theorem d_re_ruleItem_66 : decode q_re_ruleItem.2.1 66 = .ok (.invokevirtual 183, 3) := by decide +kernel
theorem d_re_ruleItem_69 : decode q_re_ruleItem.2.1 69 = .ok (.return_, 1) := by decide +kernel
theorem w_re_ruleItem_L52 (l : Launch) (lo hi d : Nat) (hS : sm_has lo hi) {h' : sm_H} (a0 : Nat) (h : sm_H) (e0 : sm_at lo hi (0, 5, 0) a0) (hf : f_re_ruleItem_L52 a0 h = some h') : sm_W l lo hi (d + 48) q_re_ruleItem 52 [(0, .ref a0)] [] h none h' := by
  unfold f_re_ruleItem_L52 at hf
  refine sm_aload_n 0 rfl d_re_ruleItem_52 ?_
  refine sm_getI fl_re_36 e0 rfl d_re_ruleItem_53 ?_
  refine sm_if_ne 69 d_re_ruleItem_56 rfl (fun c20 => ?_) (fun c20 => ?_)
  · have hf := sm_ifF c20 hf
    obtain rfl := sm_ret1 hf
    exact sm_vret d_re_ruleItem_69 rfl
  · have hf := sm_ifT c20 hf
    refine sm_aload_n 0 rfl d_re_ruleItem_59 ?_
    obtain ⟨c21, hf⟩ := sm_gdE hf
    obtain ⟨z22, v23⟩ := sm_isP_at hS c21
    refine sm_getD fl_re_21 e0 rfl z22 d_re_ruleItem_60 ?_
    refine sm_nmR (fun p24 w25 => ?_)
    have hf := sm_letV w25 hf
    have v23 := sm_ev w25 v23
    refine sm_getR (n := 9) fl_re_128 v23 rfl d_re_ruleItem_63 ?_
    obtain ⟨g26, c27, hf⟩ := sm_bindE hf
    refine sm_callV (As := []) (rv := none) (h1 := g26) (c := 6) cvv_re_183 rfl rfl (sm_inner v23 15 rfl rfl rfl) (m_ru_endRule l lo hi _ (sm_inner v23 15 rfl rfl rfl) c27) rfl rfl d_re_ruleItem_66 ?_
    obtain rfl := sm_ret1 hf
    exact sm_vret d_re_ruleItem_69 rfl
theorem w_re_ruleItem_L26 (l : Launch) (lo hi d : Nat) (hS : sm_has lo hi) {h' : sm_H} : ∀ (n : Nat) (a0 : Nat) (a1 : Int32) (h : sm_H) (e0 : sm_at lo hi (0, 5, 0) a0) (hf : f_re_ruleItem_L26 n a0 a1 h = some h'), sm_W l lo hi (d + 48) q_re_ruleItem 26 [(0, .ref a0), (1, .int a1)] [] h none h' := by
  intro n
  induction n with
  | zero =>
    intro a0 a1 h e0 hf
    have z : (none : Option sm_H) = some _ := hf
    cases z
  | succ n ih =>
    intro a0 a1 h e0 hf
    unfold f_re_ruleItem_L26 at hf
    refine sm_iload_n 1 rfl d_re_ruleItem_26 ?_
    refine sm_bipush (v := 8) (by decide) d_re_ruleItem_27 ?_
    refine sm_icmp_gt 52 d_re_ruleItem_29 rfl (fun c11 => ?_) (fun c11 => ?_)
    · have hf := sm_ifT c11 hf
      refine sm_sub [0] rfl ?_
      exact w_re_ruleItem_L52 l lo hi d hS _ _ e0 hf
    · have hf := sm_ifF c11 hf
      refine sm_aload_n 0 rfl d_re_ruleItem_32 ?_
      refine sm_bipush (v := 44) (by decide) d_re_ruleItem_33 ?_
      obtain ⟨r12, g13, c14, hf⟩ := sm_b2E hf
      refine sm_callV (As := [.int 44]) (rv := some (.int r12)) (h1 := g13) (c := 5) cvv_re_70 rfl rfl e0 (m_re_takeSign l lo hi _ e0 c14) rfl rfl d_re_ruleItem_35 ?_
      refine sm_if_eq 52 d_re_ruleItem_38 rfl (fun c15 => ?_) (fun c15 => ?_)
      · have hf := sm_ifT c15 hf
        refine sm_sub [0] rfl ?_
        exact w_re_ruleItem_L52 l lo hi d hS _ _ e0 hf
      · have hf := sm_ifF c15 hf
        refine sm_aload_n 0 rfl d_re_ruleItem_41 ?_
        refine sm_iload_n 1 rfl d_re_ruleItem_42 ?_
        obtain ⟨g16, c17, hf⟩ := sm_bindE hf
        refine sm_callV (As := [.int a1]) (rv := none) (h1 := g16) (c := 5) cvv_re_180 rfl rfl e0 (m_re_action l lo hi _ hS e0 c17) rfl rfl d_re_ruleItem_43 ?_
        obtain ⟨x18, w19⟩ : ∃ v : Int32, v = a1 + 1 := ⟨_, rfl⟩
        have hf := sm_letV w19 hf
        refine sm_iinc (v := x18) (lv' := [(1, .int x18), (0, .ref a0)]) 1 rfl (by rw [w19]; rfl) d_re_ruleItem_46 rfl rfl ?_
        refine sm_goto 26 d_re_ruleItem_49 rfl ?_
        refine sm_sub [1, 0] rfl ?_
        exact ih _ _ _ e0 hf
theorem w_re_ruleItem_L19 (l : Launch) (lo hi d : Nat) (hS : sm_has lo hi) {h' : sm_H} (a0 : Nat) (h : sm_H) (e0 : sm_at lo hi (0, 5, 0) a0) (hf : f_re_ruleItem_L19 a0 h = some h') : sm_W l lo hi (d + 48) q_re_ruleItem 19 [(0, .ref a0)] [] h none h' := by
  unfold f_re_ruleItem_L19 at hf
  refine sm_aload_n 0 rfl d_re_ruleItem_19 ?_
  refine sm_iconst (v := 0) (by decide) d_re_ruleItem_20 ?_
  obtain ⟨g9, c10, hf⟩ := sm_bindE hf
  refine sm_callV (As := [.int 0]) (rv := none) (h1 := g9) (c := 5) cvv_re_180 rfl rfl e0 (m_re_action l lo hi _ hS e0 c10) rfl rfl d_re_ruleItem_21 ?_
  refine sm_iconst (v := 1) (by decide) d_re_ruleItem_24 ?_
  refine sm_istore_n (lv' := [(1, .int 1), (0, .ref a0)]) d_re_ruleItem_25 rfl rfl ?_
  refine sm_sub [1, 0] rfl ?_
  exact w_re_ruleItem_L26 l lo hi d hS sm_N _ _ _ e0 hf
theorem m_re_ruleItem (l : Launch) (lo hi d : Nat) (hS : sm_has lo hi) {a0 : Nat} {h h' : sm_H} (e0 : sm_at lo hi (0, 5, 0) a0) (hf : f_re_ruleItem a0 h = some h') : sm_Met l lo hi (d + 48) q_re_ruleItem [.ref a0] h none h' := by
  refine sm_Met.of (by decide +kernel) rfl ?_
  show sm_W l lo hi (d + 48) q_re_ruleItem 0 [(0, .ref a0)] [] h none h'
  unfold f_re_ruleItem at hf
  refine sm_aload_n 0 rfl d_re_ruleItem_0 ?_
  refine sm_iconst (v := 0) (by decide) d_re_ruleItem_1 ?_
  obtain ⟨g1, c2, hf⟩ := sm_bindE hf
  refine sm_callV (As := [.int 0]) (rv := none) (h1 := g1) (c := 5) cvv_re_175 rfl rfl e0 (m_condition20 l lo hi _ hS e0 c2) rfl rfl d_re_ruleItem_2 ?_
  refine sm_aload_n 0 rfl d_re_ruleItem_5 ?_
  refine sm_ldcS 20 (z := (178, "do")) rfl rfl d_re_ruleItem_6 ?_
  obtain ⟨r3, g4, c5, hf⟩ := sm_b2E hf
  refine sm_callV (As := [.ref (5000 + 20)]) (rv := some (.int r3)) (h1 := g4) (c := 5) cvv_re_79 rfl rfl e0 (m_re_takeWord l lo hi _ e0 rfl c5) rfl rfl d_re_ruleItem_8 ?_
  refine sm_if_ne 19 d_re_ruleItem_11 rfl (fun c6 => ?_) (fun c6 => ?_)
  · have hf := sm_ifF c6 hf
    exact w_re_ruleItem_L19 l lo hi d hS _ _ e0 hf
  · have hf := sm_ifT c6 hf
    refine sm_aload_n 0 rfl d_re_ruleItem_14 ?_
    refine sm_iconst (v := 1) (by decide) d_re_ruleItem_15 ?_
    obtain ⟨g7, c8, hf⟩ := sm_bindE hf
    refine sm_callV (As := [.int 1]) (rv := none) (h1 := g7) (c := 5) cvv_re_73 rfl rfl e0 (m_re_fail l lo hi _ e0 c8) rfl rfl d_re_ruleItem_16 ?_
    exact w_re_ruleItem_L19 l lo hi d hS _ _ e0 hf
theorem d_re_takeItem_0 : decode q_re_takeItem.2.1 0 = .ok (.aload_n 0, 1) := by decide +kernel
theorem d_re_takeItem_1 : decode q_re_takeItem.2.1 1 = .ok (.getfield 12, 3) := by decide +kernel
theorem d_re_takeItem_4 : decode q_re_takeItem.2.1 4 = .ok (.aload_n 1, 1) := by decide +kernel
theorem d_re_takeItem_5 : decode q_re_takeItem.2.1 5 = .ok (.invokevirtual 59, 3) := by decide +kernel
theorem d_re_takeItem_8 : decode q_re_takeItem.2.1 8 = .ok (.istore 4, 2) := by decide +kernel
theorem d_re_takeItem_10 : decode q_re_takeItem.2.1 10 = .ok (.iload 4, 2) := by decide +kernel
theorem d_re_takeItem_12 : decode q_re_takeItem.2.1 12 = .ok (.ifCond .eq 13, 3) := by decide +kernel
theorem d_re_takeItem_15 : decode q_re_takeItem.2.1 15 = .ok (.iload_n 2, 1) := by decide +kernel
theorem d_re_takeItem_16 : decode q_re_takeItem.2.1 16 = .ok (.iload_n 3, 1) := by decide +kernel
theorem d_re_takeItem_17 : decode q_re_takeItem.2.1 17 = .ok (.if_icmp .lt 8, 3) := by decide +kernel
theorem d_re_takeItem_20 : decode q_re_takeItem.2.1 20 = .ok (.aload_n 0, 1) := by decide +kernel
theorem d_re_takeItem_21 : decode q_re_takeItem.2.1 21 = .ok (.iconst 3, 1) := by decide +kernel
theorem d_re_takeItem_22 : decode q_re_takeItem.2.1 22 = .ok (.invokevirtual 73, 3) := by decide +kernel
theorem d_re_takeItem_25 : decode q_re_takeItem.2.1 25 = .ok (.iload 4, 2) := by decide +kernel
theorem d_re_takeItem_27 : decode q_re_takeItem.2.1 27 = .ok (.ifCond .eq 15, 3) := by decide +kernel
theorem d_re_takeItem_30 : decode q_re_takeItem.2.1 30 = .ok (.aload_n 0, 1) := by decide +kernel
theorem d_re_takeItem_31 : decode q_re_takeItem.2.1 31 = .ok (.aload_n 1, 1) := by decide +kernel
theorem d_re_takeItem_32 : decode q_re_takeItem.2.1 32 = .ok (.invokevirtual 79, 3) := by decide +kernel
theorem d_re_takeItem_35 : decode q_re_takeItem.2.1 35 = .ok (.ifCond .eq 7, 3) := by decide +kernel
theorem d_re_takeItem_38 : decode q_re_takeItem.2.1 38 = .ok (.iconst 1, 1) := by decide +kernel
theorem d_re_takeItem_39 : decode q_re_takeItem.2.1 39 = .ok (.goto 4, 3) := by decide +kernel
theorem d_re_takeItem_42 : decode q_re_takeItem.2.1 42 = .ok (.iconst 0, 1) := by decide +kernel
theorem d_re_takeItem_43 : decode q_re_takeItem.2.1 43 = .ok (.ireturn, 1) := by decide +kernel
theorem w_re_takeItem_L43 (l : Launch) (lo hi d : Nat) {h' : sm_H} {r0 : Int32} (s0 : Int32) (h : sm_H) (hf : f_re_takeItem_L43 s0 h = some (r0, h')) : sm_W l lo hi (d + 6) q_re_takeItem 43 [] [.int s0] h (some (.int r0)) h' := by
  unfold f_re_takeItem_L43 at hf
  obtain ⟨c13, hf⟩ := sm_gdE hf
  obtain ⟨rfl, rfl⟩ := sm_ret2 hf
  exact sm_bret c13 d_re_takeItem_43 rfl
theorem w_re_takeItem_L25 (l : Launch) (lo hi d : Nat) {h' : sm_H} {r0 : Int32} (a0 : Nat) (a1 : Nat) (a4 : Int32) (h : sm_H) (e0 : sm_at lo hi (0, 5, 0) a0) (e1 : Nat.ble (a1 + 1) 28 = true) (hf : f_re_takeItem_L25 a0 a1 a4 h = some (r0, h')) : sm_W l lo hi (d + 6) q_re_takeItem 25 [(0, .ref a0), (1, .ref (5000 + a1)), (4, .int a4)] [] h (some (.int r0)) h' := by
  unfold f_re_takeItem_L25 at hf
  refine sm_iload 2 rfl d_re_takeItem_25 ?_
  refine sm_if_eq 42 d_re_takeItem_27 rfl (fun c8 => ?_) (fun c8 => ?_)
  · have hf := sm_ifT c8 hf
    refine sm_iconst (v := 0) (by decide) d_re_takeItem_42 ?_
    refine sm_sub [] rfl ?_
    exact w_re_takeItem_L43 l lo hi d _ _ hf
  · have hf := sm_ifF c8 hf
    refine sm_aload_n 0 rfl d_re_takeItem_30 ?_
    refine sm_aload_n 1 rfl d_re_takeItem_31 ?_
    obtain ⟨r9, g10, c11, hf⟩ := sm_b2E hf
    refine sm_callV (As := [.ref (5000 + a1)]) (rv := some (.int r9)) (h1 := g10) (c := 5) cvv_re_79 rfl rfl e0 (m_re_takeWord l lo hi _ e0 e1 c11) rfl rfl d_re_takeItem_32 ?_
    refine sm_if_eq 42 d_re_takeItem_35 rfl (fun c12 => ?_) (fun c12 => ?_)
    · have hf := sm_ifT c12 hf
      refine sm_iconst (v := 0) (by decide) d_re_takeItem_42 ?_
      refine sm_sub [] rfl ?_
      exact w_re_takeItem_L43 l lo hi d _ _ hf
    · have hf := sm_ifF c12 hf
      refine sm_iconst (v := 1) (by decide) d_re_takeItem_38 ?_
      refine sm_goto 43 d_re_takeItem_39 rfl ?_
      refine sm_sub [] rfl ?_
      exact w_re_takeItem_L43 l lo hi d _ _ hf
theorem m_re_takeItem (l : Launch) (lo hi d : Nat) {a0 : Nat} {a1 : Nat} {a2 : Int32} {a3 : Int32} {r0 : Int32} {h h' : sm_H} (e0 : sm_at lo hi (0, 5, 0) a0) (e1 : Nat.ble (a1 + 1) 28 = true) (hf : f_re_takeItem a0 a1 a2 a3 h = some (r0, h')) : sm_Met l lo hi (d + 6) q_re_takeItem [.ref a0, .ref (5000 + a1), .int a2, .int a3] h (some (.int r0)) h' := by
  refine sm_Met.of (by decide +kernel) rfl ?_
  show sm_W l lo hi (d + 6) q_re_takeItem 0 [(0, .ref a0), (1, .ref (5000 + a1)), (2, .int a2), (3, .int a3)] [] h (some (.int r0)) h'
  unfold f_re_takeItem at hf
  refine sm_aload_n 0 rfl d_re_takeItem_0 ?_
  refine sm_getR (n := 1) fl_re_12 e0 rfl d_re_takeItem_1 ?_
  refine sm_aload_n 1 rfl d_re_takeItem_4 ?_
  obtain ⟨r1, g2, c3, hf⟩ := sm_b2E hf
  refine sm_callV (As := [.ref (5000 + a1)]) (rv := some (.int r1)) (h1 := g2) (c := 8) cvv_re_59 rfl rfl (sm_inner e0 0 rfl rfl rfl) (m_te_isWord l lo hi _ (sm_inner e0 0 rfl rfl rfl) e1 c3) rfl rfl d_re_takeItem_5 ?_
  refine sm_istore (lv' := [(4, .int r1), (0, .ref a0), (1, .ref (5000 + a1)), (2, .int a2), (3, .int a3)]) d_re_takeItem_8 rfl rfl ?_
  refine sm_iload 0 rfl d_re_takeItem_10 ?_
  refine sm_if_eq 25 d_re_takeItem_12 rfl (fun c4 => ?_) (fun c4 => ?_)
  · have hf := sm_ifT c4 hf
    refine sm_sub [1, 2, 0] rfl ?_
    exact w_re_takeItem_L25 l lo hi d _ _ _ _ e0 e1 hf
  · have hf := sm_ifF c4 hf
    refine sm_iload_n 3 rfl d_re_takeItem_15 ?_
    refine sm_iload_n 4 rfl d_re_takeItem_16 ?_
    refine sm_icmp_lt 25 d_re_takeItem_17 rfl (fun c5 => ?_) (fun c5 => ?_)
    · have hf := sm_ifT c5 hf
      refine sm_sub [1, 2, 0] rfl ?_
      exact w_re_takeItem_L25 l lo hi d _ _ _ _ e0 e1 hf
    · have hf := sm_ifF c5 hf
      refine sm_aload_n 1 rfl d_re_takeItem_20 ?_
      refine sm_iconst (v := 3) (by decide) d_re_takeItem_21 ?_
      obtain ⟨g6, c7, hf⟩ := sm_bindE hf
      refine sm_callV (As := [.int 3]) (rv := none) (h1 := g6) (c := 5) cvv_re_73 rfl rfl e0 (m_re_fail l lo hi _ e0 c7) rfl rfl d_re_takeItem_22 ?_
      refine sm_sub [1, 2, 0] rfl ?_
      exact w_re_takeItem_L25 l lo hi d _ _ _ _ e0 e1 hf
theorem d_re_item_0 : decode q_re_item.2.1 0 = .ok (.iload_n 1, 1) := by decide +kernel
theorem d_re_item_1 : decode q_re_item.2.1 1 = .ok (.ifCond .eq 29, 3) := by decide +kernel
theorem d_re_item_4 : decode q_re_item.2.1 4 = .ok (.aload_n 0, 1) := by decide +kernel
theorem d_re_item_5 : decode q_re_item.2.1 5 = .ok (.ldc 82, 2) := by decide +kernel
theorem d_re_item_7 : decode q_re_item.2.1 7 = .ok (.invokevirtual 79, 3) := by decide +kernel
theorem d_re_item_10 : decode q_re_item.2.1 10 = .ok (.ifCond .eq 20, 3) := by decide +kernel
theorem d_re_item_13 : decode q_re_item.2.1 13 = .ok (.aload_n 0, 1) := by decide +kernel
theorem d_re_item_14 : decode q_re_item.2.1 14 = .ok (.getfield 21, 3) := by decide +kernel
theorem d_re_item_17 : decode q_re_item.2.1 17 = .ok (.aload_n 0, 1) := by decide +kernel
theorem d_re_item_18 : decode q_re_item.2.1 18 = .ok (.iconst 1, 1) := by decide +kernel
theorem d_re_item_19 : decode q_re_item.2.1 19 = .ok (.bipush 8, 2) := by decide +kernel
theorem d_re_item_21 : decode q_re_item.2.1 21 = .ok (.invokevirtual 84, 3) := by decide +kernel
theorem d_re_item_24 : decode q_re_item.2.1 24 = .ok (.putfield 88, 3) := by decide +kernel
theorem d_re_item_27 : decode q_re_item.2.1 27 = .ok (.goto 189, 3) := by decide +kernel
theorem d_re_item_30 : decode q_re_item.2.1 30 = .ok (.aload_n 0, 1) := by decide +kernel
theorem d_re_item_31 : decode q_re_item.2.1 31 = .ok (.ldc 90, 2) := by decide +kernel
theorem d_re_item_33 : decode q_re_item.2.1 33 = .ok (.aload_n 0, 1) := by decide +kernel
theorem d_re_item_34 : decode q_re_item.2.1 34 = .ok (.getfield 21, 3) := by decide +kernel
theorem d_re_item_37 : decode q_re_item.2.1 37 = .ok (.getfield 92, 3) := by decide +kernel
theorem d_re_item_40 : decode q_re_item.2.1 40 = .ok (.bipush 16, 2) := by decide +kernel
theorem d_re_item_42 : decode q_re_item.2.1 42 = .ok (.invokevirtual 95, 3) := by decide +kernel
theorem d_re_item_45 : decode q_re_item.2.1 45 = .ok (.ifCond .eq 10, 3) := by decide +kernel
theorem d_re_item_48 : decode q_re_item.2.1 48 = .ok (.aload_n 0, 1) := by decide +kernel
theorem d_re_item_49 : decode q_re_item.2.1 49 = .ok (.invokevirtual 99, 3) := by decide +kernel
theorem d_re_item_52 : decode q_re_item.2.1 52 = .ok (.goto 164, 3) := by decide +kernel
theorem d_re_item_55 : decode q_re_item.2.1 55 = .ok (.aload_n 0, 1) := by decide +kernel
theorem d_re_item_56 : decode q_re_item.2.1 56 = .ok (.ldc 102, 2) := by decide +kernel
theorem d_re_item_58 : decode q_re_item.2.1 58 = .ok (.aload_n 0, 1) := by decide +kernel
theorem d_re_item_59 : decode q_re_item.2.1 59 = .ok (.getfield 21, 3) := by decide +kernel
theorem d_re_item_62 : decode q_re_item.2.1 62 = .ok (.getfield 104, 3) := by decide +kernel
theorem d_re_item_65 : decode q_re_item.2.1 65 = .ok (.bipush 6, 2) := by decide +kernel
theorem d_re_item_67 : decode q_re_item.2.1 67 = .ok (.invokevirtual 95, 3) := by decide +kernel
theorem d_re_item_70 : decode q_re_item.2.1 70 = .ok (.ifCond .eq 10, 3) := by decide +kernel
theorem d_re_item_73 : decode q_re_item.2.1 73 = .ok (.aload_n 0, 1) := by decide +kernel
theorem d_re_item_74 : decode q_re_item.2.1 74 = .ok (.invokevirtual 107, 3) := by decide +kernel
theorem d_re_item_77 : decode q_re_item.2.1 77 = .ok (.goto 139, 3) := by decide +kernel
theorem d_re_item_80 : decode q_re_item.2.1 80 = .ok (.aload_n 0, 1) := by decide +kernel
theorem d_re_item_81 : decode q_re_item.2.1 81 = .ok (.ldc 110, 2) := by decide +kernel
theorem d_re_item_83 : decode q_re_item.2.1 83 = .ok (.aload_n 0, 1) := by decide +kernel
theorem d_re_item_84 : decode q_re_item.2.1 84 = .ok (.getfield 21, 3) := by decide +kernel
theorem d_re_item_87 : decode q_re_item.2.1 87 = .ok (.getfield 112, 3) := by decide +kernel
theorem d_re_item_90 : decode q_re_item.2.1 90 = .ok (.bipush 10, 2) := by decide +kernel
theorem d_re_item_92 : decode q_re_item.2.1 92 = .ok (.invokevirtual 95, 3) := by decide +kernel
theorem d_re_item_95 : decode q_re_item.2.1 95 = .ok (.ifCond .eq 10, 3) := by decide +kernel
theorem d_re_item_98 : decode q_re_item.2.1 98 = .ok (.aload_n 0, 1) := by decide +kernel
theorem d_re_item_99 : decode q_re_item.2.1 99 = .ok (.invokevirtual 115, 3) := by decide +kernel
theorem d_re_item_102 : decode q_re_item.2.1 102 = .ok (.goto 114, 3) := by decide +kernel
theorem d_re_item_105 : decode q_re_item.2.1 105 = .ok (.aload_n 0, 1) := by decide +kernel
theorem d_re_item_106 : decode q_re_item.2.1 106 = .ok (.getfield 39, 3) := by decide +kernel
theorem d_re_item_109 : decode q_re_item.2.1 109 = .ok (.ifCond .ne 35, 3) := by decide +kernel
theorem d_re_item_112 : decode q_re_item.2.1 112 = .ok (.aload_n 0, 1) := by decide +kernel
theorem d_re_item_113 : decode q_re_item.2.1 113 = .ok (.ldc 118, 2) := by decide +kernel
theorem d_re_item_115 : decode q_re_item.2.1 115 = .ok (.invokevirtual 79, 3) := by decide +kernel
theorem d_re_item_118 : decode q_re_item.2.1 118 = .ok (.ifCond .eq 26, 3) := by decide +kernel
theorem d_re_item_121 : decode q_re_item.2.1 121 = .ok (.aload_n 0, 1) := by decide +kernel
theorem d_re_item_122 : decode q_re_item.2.1 122 = .ok (.iconst 1, 1) := by decide +kernel
theorem d_re_item_123 : decode q_re_item.2.1 123 = .ok (.putfield 39, 3) := by decide +kernel
theorem d_re_item_126 : decode q_re_item.2.1 126 = .ok (.aload_n 0, 1) := by decide +kernel
theorem d_re_item_127 : decode q_re_item.2.1 127 = .ok (.getfield 21, 3) := by decide +kernel
theorem d_re_item_130 : decode q_re_item.2.1 130 = .ok (.aload_n 0, 1) := by decide +kernel
theorem d_re_item_131 : decode q_re_item.2.1 131 = .ok (.iconst 1, 1) := by decide +kernel
theorem d_re_item_132 : decode q_re_item.2.1 132 = .ok (.sipush 200, 3) := by decide +kernel
theorem d_re_item_135 : decode q_re_item.2.1 135 = .ok (.invokevirtual 84, 3) := by decide +kernel
theorem d_re_item_138 : decode q_re_item.2.1 138 = .ok (.putfield 120, 3) := by decide +kernel
theorem d_re_item_141 : decode q_re_item.2.1 141 = .ok (.goto 75, 3) := by decide +kernel
theorem d_re_item_144 : decode q_re_item.2.1 144 = .ok (.aload_n 0, 1) := by decide +kernel
theorem d_re_item_145 : decode q_re_item.2.1 145 = .ok (.getfield 43, 3) := by decide +kernel
theorem d_re_item_148 : decode q_re_item.2.1 148 = .ok (.ifCond .ne 35, 3) := by decide +kernel
theorem d_re_item_151 : decode q_re_item.2.1 151 = .ok (.aload_n 0, 1) := by decide +kernel
theorem d_re_item_152 : decode q_re_item.2.1 152 = .ok (.ldc 122, 2) := by decide +kernel
theorem d_re_item_154 : decode q_re_item.2.1 154 = .ok (.invokevirtual 79, 3) := by decide +kernel
theorem d_re_item_157 : decode q_re_item.2.1 157 = .ok (.ifCond .eq 26, 3) := by decide +kernel
theorem d_re_item_160 : decode q_re_item.2.1 160 = .ok (.aload_n 0, 1) := by decide +kernel
theorem d_re_item_161 : decode q_re_item.2.1 161 = .ok (.iconst 1, 1) := by decide +kernel
theorem d_re_item_162 : decode q_re_item.2.1 162 = .ok (.putfield 43, 3) := by decide +kernel
theorem d_re_item_165 : decode q_re_item.2.1 165 = .ok (.aload_n 0, 1) := by decide +kernel
theorem d_re_item_166 : decode q_re_item.2.1 166 = .ok (.getfield 21, 3) := by decide +kernel
theorem d_re_item_169 : decode q_re_item.2.1 169 = .ok (.aload_n 0, 1) := by decide +kernel
theorem d_re_item_170 : decode q_re_item.2.1 170 = .ok (.iconst 0, 1) := by decide +kernel
theorem d_re_item_171 : decode q_re_item.2.1 171 = .ok (.sipush 999, 3) := by decide +kernel
theorem d_re_item_174 : decode q_re_item.2.1 174 = .ok (.invokevirtual 84, 3) := by decide +kernel
theorem d_re_item_177 : decode q_re_item.2.1 177 = .ok (.putfield 124, 3) := by decide +kernel
theorem d_re_item_180 : decode q_re_item.2.1 180 = .ok (.goto 36, 3) := by decide +kernel
theorem d_re_item_183 : decode q_re_item.2.1 183 = .ok (.aload_n 0, 1) := by decide +kernel
theorem d_re_item_184 : decode q_re_item.2.1 184 = .ok (.ldc 126, 2) := by decide +kernel
theorem d_re_item_186 : decode q_re_item.2.1 186 = .ok (.aload_n 0, 1) := by decide +kernel
theorem d_re_item_187 : decode q_re_item.2.1 187 = .ok (.getfield 21, 3) := by decide +kernel
theorem d_re_item_190 : decode q_re_item.2.1 190 = .ok (.getfield 128, 3) := by decide +kernel
theorem d_re_item_193 : decode q_re_item.2.1 193 = .ok (.getfield 132, 3) := by decide +kernel
theorem d_re_item_196 : decode q_re_item.2.1 196 = .ok (.bipush 12, 2) := by decide +kernel
theorem d_re_item_198 : decode q_re_item.2.1 198 = .ok (.invokevirtual 95, 3) := by decide +kernel
theorem d_re_item_201 : decode q_re_item.2.1 201 = .ok (.ifCond .eq 10, 3) := by decide +kernel
theorem d_re_item_204 : decode q_re_item.2.1 204 = .ok (.aload_n 0, 1) := by decide +kernel
theorem d_re_item_205 : decode q_re_item.2.1 205 = .ok (.invokevirtual 136, 3) := by decide +kernel
theorem d_re_item_208 : decode q_re_item.2.1 208 = .ok (.goto 8, 3) := by decide +kernel
theorem d_re_item_211 : decode q_re_item.2.1 211 = .ok (.aload_n 0, 1) := by decide +kernel
theorem d_re_item_212 : decode q_re_item.2.1 212 = .ok (.iconst 1, 1) := by decide +kernel
theorem d_re_item_213 : decode q_re_item.2.1 213 = .ok (.invokevirtual 73, 3) := by decide +kernel
theorem d_re_item_216 : decode q_re_item.2.1 216 = .ok (.aload_n 0, 1) := by decide +kernel
theorem d_re_item_217 : decode q_re_item.2.1 217 = .ok (.bipush 59, 2) := by decide +kernel
theorem d_re_item_219 : decode q_re_item.2.1 219 = .ok (.invokevirtual 139, 3) := by decide +kernel
theorem d_re_item_222 : decode q_re_item.2.1 222 = .ok (.return_, 1) := by decide +kernel
theorem w_re_item_L216 (l : Launch) (lo hi d : Nat) (hS : sm_has lo hi) {h' : sm_H} (a0 : Nat) (h : sm_H) (e0 : sm_at lo hi (0, 5, 0) a0) (hf : f_re_item_L216 a0 h = some h') : sm_W l lo hi (d + 49) q_re_item 216 [(0, .ref a0)] [] h none h' := by
  unfold f_re_item_L216 at hf
  refine sm_aload_n 0 rfl d_re_item_216 ?_
  refine sm_bipush (v := 59) (by decide) d_re_item_217 ?_
  obtain ⟨g96, c97, hf⟩ := sm_bindE hf
  refine sm_callV (As := [.int 59]) (rv := none) (h1 := g96) (c := 5) cvv_re_139 rfl rfl e0 (m_re_needSign l lo hi _ e0 c97) rfl rfl d_re_item_219 ?_
  obtain rfl := sm_ret1 hf
  exact sm_vret d_re_item_222 rfl
theorem w_re_item_L183 (l : Launch) (lo hi d : Nat) (hS : sm_has lo hi) {h' : sm_H} (a0 : Nat) (h : sm_H) (e0 : sm_at lo hi (0, 5, 0) a0) (hf : f_re_item_L183 a0 h = some h') : sm_W l lo hi (d + 49) q_re_item 183 [(0, .ref a0)] [] h none h' := by
  unfold f_re_item_L183 at hf
  refine sm_aload_n 0 rfl d_re_item_183 ?_
  refine sm_ldcS 10 (z := (126, "rule")) rfl rfl d_re_item_184 ?_
  refine sm_aload_n 0 rfl d_re_item_186 ?_
  obtain ⟨c83, hf⟩ := sm_gdE hf
  obtain ⟨z84, v85⟩ := sm_isP_at hS c83
  refine sm_getD fl_re_21 e0 rfl z84 d_re_item_187 ?_
  refine sm_nmR (fun p86 w87 => ?_)
  have hf := sm_letV w87 hf
  have v85 := sm_ev w87 v85
  refine sm_getR (n := 9) fl_re_128 v85 rfl d_re_item_190 ?_
  refine sm_getI fl_re_132 (sm_inner v85 15 rfl rfl rfl) rfl d_re_item_193 ?_
  refine sm_bipush (v := 12) (by decide) d_re_item_196 ?_
  obtain ⟨r88, g89, c90, hf⟩ := sm_b2E hf
  refine sm_callV (As := [.ref (5000 + 10), .int (h (p86 + 9) 0), .int 12]) (rv := some (.int r88)) (h1 := g89) (c := 5) cvv_re_95 rfl rfl e0 (m_re_takeItem l lo hi _ e0 rfl c90) rfl rfl d_re_item_198 ?_
  refine sm_if_eq 211 d_re_item_201 rfl (fun c91 => ?_) (fun c91 => ?_)
  · have hf := sm_ifT c91 hf
    refine sm_aload_n 0 rfl d_re_item_211 ?_
    refine sm_iconst (v := 1) (by decide) d_re_item_212 ?_
    obtain ⟨g92, c93, hf⟩ := sm_bindE hf
    refine sm_callV (As := [.int 1]) (rv := none) (h1 := g92) (c := 5) cvv_re_73 rfl rfl e0 (m_re_fail l lo hi _ e0 c93) rfl rfl d_re_item_213 ?_
    exact w_re_item_L216 l lo hi d hS _ _ e0 hf
  · have hf := sm_ifF c91 hf
    refine sm_aload_n 0 rfl d_re_item_204 ?_
    obtain ⟨g94, c95, hf⟩ := sm_bindE hf
    refine sm_callV (As := []) (rv := none) (h1 := g94) (c := 5) cvv_re_136 rfl rfl e0 (m_re_ruleItem l lo hi _ hS e0 c95) rfl rfl d_re_item_205 ?_
    refine sm_goto 216 d_re_item_208 rfl ?_
    exact w_re_item_L216 l lo hi d hS _ _ e0 hf
theorem w_re_item_L144 (l : Launch) (lo hi d : Nat) (hS : sm_has lo hi) {h' : sm_H} (a0 : Nat) (h : sm_H) (e0 : sm_at lo hi (0, 5, 0) a0) (hf : f_re_item_L144 a0 h = some h') : sm_W l lo hi (d + 49) q_re_item 144 [(0, .ref a0)] [] h none h' := by
  unfold f_re_item_L144 at hf
  refine sm_aload_n 0 rfl d_re_item_144 ?_
  refine sm_getI fl_re_43 e0 rfl d_re_item_145 ?_
  refine sm_if_ne 183 d_re_item_148 rfl (fun c66 => ?_) (fun c66 => ?_)
  · have hf := sm_ifF c66 hf
    exact w_re_item_L183 l lo hi d hS _ _ e0 hf
  · have hf := sm_ifT c66 hf
    refine sm_aload_n 0 rfl d_re_item_151 ?_
    refine sm_ldcS 9 (z := (122, "proof")) rfl rfl d_re_item_152 ?_
    obtain ⟨r67, g68, c69, hf⟩ := sm_b2E hf
    refine sm_callV (As := [.ref (5000 + 9)]) (rv := some (.int r67)) (h1 := g68) (c := 5) cvv_re_79 rfl rfl e0 (m_re_takeWord l lo hi _ e0 rfl c69) rfl rfl d_re_item_154 ?_
    refine sm_if_eq 183 d_re_item_157 rfl (fun c70 => ?_) (fun c70 => ?_)
    · have hf := sm_ifT c70 hf
      exact w_re_item_L183 l lo hi d hS _ _ e0 hf
    · have hf := sm_ifF c70 hf
      refine sm_aload_n 0 rfl d_re_item_160 ?_
      refine sm_iconst (v := 1) (by decide) d_re_item_161 ?_
      refine sm_putZ fp_re_43 e0 rfl rfl (by decide) d_re_item_162 ?_
      refine sm_nmH (fun g71 w72 => ?_)
      have hf := sm_letV w72 hf
      refine sm_aload_n 0 rfl d_re_item_165 ?_
      obtain ⟨c73, hf⟩ := sm_gdE hf
      obtain ⟨z74, v75⟩ := sm_isP_at hS c73
      refine sm_getD fl_re_21 e0 rfl z74 d_re_item_166 ?_
      refine sm_nmR (fun p76 w77 => ?_)
      have hf := sm_letV w77 hf
      have v75 := sm_ev w77 v75
      refine sm_aload_n 0 rfl d_re_item_169 ?_
      refine sm_iconst (v := 0) (by decide) d_re_item_170 ?_
      refine sm_sipush (v := 999) (by decide) d_re_item_171 ?_
      obtain ⟨r78, g79, c80, hf⟩ := sm_b2E hf
      refine sm_callV (As := [.int 0, .int 999]) (rv := some (.int r78)) (h1 := g79) (c := 5) cvv_re_84 rfl rfl e0 (m_re_needNumber l lo hi _ e0 c80) rfl rfl d_re_item_174 ?_
      refine sm_putI fp_re_124 v75 rfl rfl d_re_item_177 ?_
      refine sm_nmH (fun g81 w82 => ?_)
      have hf := sm_letV w82 hf
      refine sm_goto 216 d_re_item_180 rfl ?_
      exact w_re_item_L216 l lo hi d hS _ _ e0 hf
theorem w_re_item_L30 (l : Launch) (lo hi d : Nat) (hS : sm_has lo hi) {h' : sm_H} (a0 : Nat) (h : sm_H) (e0 : sm_at lo hi (0, 5, 0) a0) (hf : f_re_item_L30 a0 h = some h') : sm_W l lo hi (d + 49) q_re_item 30 [(0, .ref a0)] [] h none h' := by
  unfold f_re_item_L30 at hf
  refine sm_aload_n 0 rfl d_re_item_30 ?_
  refine sm_ldcS 1 (z := (90, "damper")) rfl rfl d_re_item_31 ?_
  refine sm_aload_n 0 rfl d_re_item_33 ?_
  obtain ⟨c16, hf⟩ := sm_gdE hf
  obtain ⟨z17, v18⟩ := sm_isP_at hS c16
  refine sm_getD fl_re_21 e0 rfl z17 d_re_item_34 ?_
  refine sm_nmR (fun p19 w20 => ?_)
  have hf := sm_letV w20 hf
  have v18 := sm_ev w20 v18
  refine sm_getI fl_re_92 v18 rfl d_re_item_37 ?_
  refine sm_bipush (v := 16) (by decide) d_re_item_40 ?_
  obtain ⟨r21, g22, c23, hf⟩ := sm_b2E hf
  refine sm_callV (As := [.ref (5000 + 1), .int (h p19 1), .int 16]) (rv := some (.int r21)) (h1 := g22) (c := 5) cvv_re_95 rfl rfl e0 (m_re_takeItem l lo hi _ e0 rfl c23) rfl rfl d_re_item_42 ?_
  refine sm_if_eq 55 d_re_item_45 rfl (fun c24 => ?_) (fun c24 => ?_)
  · have hf := sm_ifT c24 hf
    refine sm_aload_n 0 rfl d_re_item_55 ?_
    refine sm_ldcS 5 (z := (102, "fan")) rfl rfl d_re_item_56 ?_
    refine sm_aload_n 0 rfl d_re_item_58 ?_
    obtain ⟨c25, hf⟩ := sm_gdE hf
    obtain ⟨z26, v27⟩ := sm_isP_at hS c25
    refine sm_getD fl_re_21 e0 rfl z26 d_re_item_59 ?_
    refine sm_nmR (fun p28 w29 => ?_)
    have hf := sm_letV w29 hf
    have v27 := sm_ev w29 v27
    refine sm_getI fl_re_104 v27 rfl d_re_item_62 ?_
    refine sm_bipush (v := 6) (by decide) d_re_item_65 ?_
    obtain ⟨r30, g31, c32, hf⟩ := sm_b2E hf
    refine sm_callV (As := [.ref (5000 + 5), .int (g22 p28 2), .int 6]) (rv := some (.int r30)) (h1 := g31) (c := 5) cvv_re_95 rfl rfl e0 (m_re_takeItem l lo hi _ e0 rfl c32) rfl rfl d_re_item_67 ?_
    refine sm_if_eq 80 d_re_item_70 rfl (fun c33 => ?_) (fun c33 => ?_)
    · have hf := sm_ifT c33 hf
      refine sm_aload_n 0 rfl d_re_item_80 ?_
      refine sm_ldcS 7 (z := (110, "door")) rfl rfl d_re_item_81 ?_
      refine sm_aload_n 0 rfl d_re_item_83 ?_
      obtain ⟨c34, hf⟩ := sm_gdE hf
      obtain ⟨z35, v36⟩ := sm_isP_at hS c34
      refine sm_getD fl_re_21 e0 rfl z35 d_re_item_84 ?_
      refine sm_nmR (fun p37 w38 => ?_)
      have hf := sm_letV w38 hf
      have v36 := sm_ev w38 v36
      refine sm_getI fl_re_112 v36 rfl d_re_item_87 ?_
      refine sm_bipush (v := 10) (by decide) d_re_item_90 ?_
      obtain ⟨r39, g40, c41, hf⟩ := sm_b2E hf
      refine sm_callV (As := [.ref (5000 + 7), .int (g31 p37 3), .int 10]) (rv := some (.int r39)) (h1 := g40) (c := 5) cvv_re_95 rfl rfl e0 (m_re_takeItem l lo hi _ e0 rfl c41) rfl rfl d_re_item_92 ?_
      refine sm_if_eq 105 d_re_item_95 rfl (fun c42 => ?_) (fun c42 => ?_)
      · have hf := sm_ifT c42 hf
        refine sm_aload_n 0 rfl d_re_item_105 ?_
        refine sm_getI fl_re_39 e0 rfl d_re_item_106 ?_
        refine sm_if_ne 144 d_re_item_109 rfl (fun c43 => ?_) (fun c43 => ?_)
        · have hf := sm_ifF c43 hf
          exact w_re_item_L144 l lo hi d hS _ _ e0 hf
        · have hf := sm_ifT c43 hf
          refine sm_aload_n 0 rfl d_re_item_112 ?_
          refine sm_ldcS 8 (z := (118, "target")) rfl rfl d_re_item_113 ?_
          obtain ⟨r44, g45, c46, hf⟩ := sm_b2E hf
          refine sm_callV (As := [.ref (5000 + 8)]) (rv := some (.int r44)) (h1 := g45) (c := 5) cvv_re_79 rfl rfl e0 (m_re_takeWord l lo hi _ e0 rfl c46) rfl rfl d_re_item_115 ?_
          refine sm_if_eq 144 d_re_item_118 rfl (fun c47 => ?_) (fun c47 => ?_)
          · have hf := sm_ifT c47 hf
            exact w_re_item_L144 l lo hi d hS _ _ e0 hf
          · have hf := sm_ifF c47 hf
            refine sm_aload_n 0 rfl d_re_item_121 ?_
            refine sm_iconst (v := 1) (by decide) d_re_item_122 ?_
            refine sm_putZ fp_re_39 e0 rfl rfl (by decide) d_re_item_123 ?_
            refine sm_nmH (fun g48 w49 => ?_)
            have hf := sm_letV w49 hf
            refine sm_aload_n 0 rfl d_re_item_126 ?_
            obtain ⟨c50, hf⟩ := sm_gdE hf
            obtain ⟨z51, v52⟩ := sm_isP_at hS c50
            refine sm_getD fl_re_21 e0 rfl z51 d_re_item_127 ?_
            refine sm_nmR (fun p53 w54 => ?_)
            have hf := sm_letV w54 hf
            have v52 := sm_ev w54 v52
            refine sm_aload_n 0 rfl d_re_item_130 ?_
            refine sm_iconst (v := 1) (by decide) d_re_item_131 ?_
            refine sm_sipush (v := 200) (by decide) d_re_item_132 ?_
            obtain ⟨r55, g56, c57, hf⟩ := sm_b2E hf
            refine sm_callV (As := [.int 1, .int 200]) (rv := some (.int r55)) (h1 := g56) (c := 5) cvv_re_84 rfl rfl e0 (m_re_needNumber l lo hi _ e0 c57) rfl rfl d_re_item_135 ?_
            refine sm_putI fp_re_120 v52 rfl rfl d_re_item_138 ?_
            refine sm_nmH (fun g58 w59 => ?_)
            have hf := sm_letV w59 hf
            refine sm_goto 216 d_re_item_141 rfl ?_
            exact w_re_item_L216 l lo hi d hS _ _ e0 hf
      · have hf := sm_ifF c42 hf
        refine sm_aload_n 0 rfl d_re_item_98 ?_
        obtain ⟨g60, c61, hf⟩ := sm_bindE hf
        refine sm_callV (As := []) (rv := none) (h1 := g60) (c := 5) cvv_re_115 rfl rfl e0 (m_re_doorItem l lo hi _ hS e0 c61) rfl rfl d_re_item_99 ?_
        refine sm_goto 216 d_re_item_102 rfl ?_
        exact w_re_item_L216 l lo hi d hS _ _ e0 hf
    · have hf := sm_ifF c33 hf
      refine sm_aload_n 0 rfl d_re_item_73 ?_
      obtain ⟨g62, c63, hf⟩ := sm_bindE hf
      refine sm_callV (As := []) (rv := none) (h1 := g62) (c := 5) cvv_re_107 rfl rfl e0 (m_re_fanItem l lo hi _ hS e0 c63) rfl rfl d_re_item_74 ?_
      refine sm_goto 216 d_re_item_77 rfl ?_
      exact w_re_item_L216 l lo hi d hS _ _ e0 hf
  · have hf := sm_ifF c24 hf
    refine sm_aload_n 0 rfl d_re_item_48 ?_
    obtain ⟨g64, c65, hf⟩ := sm_bindE hf
    refine sm_callV (As := []) (rv := none) (h1 := g64) (c := 5) cvv_re_99 rfl rfl e0 (m_re_damperItem l lo hi _ hS e0 c65) rfl rfl d_re_item_49 ?_
    refine sm_goto 216 d_re_item_52 rfl ?_
    exact w_re_item_L216 l lo hi d hS _ _ e0 hf
theorem m_re_item (l : Launch) (lo hi d : Nat) (hS : sm_has lo hi) {a0 : Nat} {a1 : Int32} {h h' : sm_H} (e0 : sm_at lo hi (0, 5, 0) a0) (hf : f_re_item a0 a1 h = some h') : sm_Met l lo hi (d + 49) q_re_item [.ref a0, .int a1] h none h' := by
  refine sm_Met.of (by decide +kernel) rfl ?_
  show sm_W l lo hi (d + 49) q_re_item 0 [(0, .ref a0), (1, .int a1)] [] h none h'
  unfold f_re_item at hf
  refine sm_iload_n 1 rfl d_re_item_0 ?_
  refine sm_if_eq 30 d_re_item_1 rfl (fun c1 => ?_) (fun c1 => ?_)
  · have hf := sm_ifT c1 hf
    refine sm_sub [0] rfl ?_
    exact w_re_item_L30 l lo hi d hS _ _ e0 hf
  · have hf := sm_ifF c1 hf
    refine sm_aload_n 0 rfl d_re_item_4 ?_
    refine sm_ldcS 0 (z := (82, "zones")) rfl rfl d_re_item_5 ?_
    obtain ⟨r2, g3, c4, hf⟩ := sm_b2E hf
    refine sm_callV (As := [.ref (5000 + 0)]) (rv := some (.int r2)) (h1 := g3) (c := 5) cvv_re_79 rfl rfl e0 (m_re_takeWord l lo hi _ e0 rfl c4) rfl rfl d_re_item_7 ?_
    refine sm_if_eq 30 d_re_item_10 rfl (fun c5 => ?_) (fun c5 => ?_)
    · have hf := sm_ifT c5 hf
      refine sm_sub [0] rfl ?_
      exact w_re_item_L30 l lo hi d hS _ _ e0 hf
    · have hf := sm_ifF c5 hf
      refine sm_aload_n 0 rfl d_re_item_13 ?_
      obtain ⟨c6, hf⟩ := sm_gdE hf
      obtain ⟨z7, v8⟩ := sm_isP_at hS c6
      refine sm_getD fl_re_21 e0 rfl z7 d_re_item_14 ?_
      refine sm_nmR (fun p9 w10 => ?_)
      have hf := sm_letV w10 hf
      have v8 := sm_ev w10 v8
      refine sm_aload_n 0 rfl d_re_item_17 ?_
      refine sm_iconst (v := 1) (by decide) d_re_item_18 ?_
      refine sm_bipush (v := 8) (by decide) d_re_item_19 ?_
      obtain ⟨r11, g12, c13, hf⟩ := sm_b2E hf
      refine sm_callV (As := [.int 1, .int 8]) (rv := some (.int r11)) (h1 := g12) (c := 5) cvv_re_84 rfl rfl e0 (m_re_needNumber l lo hi _ e0 c13) rfl rfl d_re_item_21 ?_
      refine sm_putI fp_re_88 v8 rfl rfl d_re_item_24 ?_
      refine sm_nmH (fun g14 w15 => ?_)
      have hf := sm_letV w15 hf
      refine sm_goto 216 d_re_item_27 rfl ?_
      refine sm_sub [0] rfl ?_
      exact w_re_item_L216 l lo hi d hS _ _ e0 hf
theorem d_al_begin_0 : decode q_al_begin.2.1 0 = .ok (.aload_n 0, 1) := by decide +kernel
theorem d_al_begin_1 : decode q_al_begin.2.1 1 = .ok (.iconst 0, 1) := by decide +kernel
theorem d_al_begin_2 : decode q_al_begin.2.1 2 = .ok (.putfield 9, 3) := by decide +kernel
theorem d_al_begin_5 : decode q_al_begin.2.1 5 = .ok (.aload_n 0, 1) := by decide +kernel
theorem d_al_begin_6 : decode q_al_begin.2.1 6 = .ok (.iconst 0, 1) := by decide +kernel
theorem d_al_begin_7 : decode q_al_begin.2.1 7 = .ok (.putfield 15, 3) := by decide +kernel
theorem d_al_begin_10 : decode q_al_begin.2.1 10 = .ok (.aload_n 0, 1) := by decide +kernel
theorem d_al_begin_11 : decode q_al_begin.2.1 11 = .ok (.iconst (-1), 1) := by decide +kernel
theorem d_al_begin_12 : decode q_al_begin.2.1 12 = .ok (.putfield 18, 3) := by decide +kernel
theorem d_al_begin_15 : decode q_al_begin.2.1 15 = .ok (.aload_n 0, 1) := by decide +kernel
theorem d_al_begin_16 : decode q_al_begin.2.1 16 = .ok (.iconst 0, 1) := by decide +kernel
theorem d_al_begin_17 : decode q_al_begin.2.1 17 = .ok (.putfield 21, 3) := by decide +kernel
theorem d_al_begin_20 : decode q_al_begin.2.1 20 = .ok (.return_, 1) := by decide +kernel
theorem m_al_begin (l : Launch) (lo hi d : Nat) {a0 : Nat} {h h' : sm_H} (e0 : sm_at lo hi (0, 0, 0) a0) (hf : f_al_begin a0 h = some h') : sm_Met l lo hi (d) q_al_begin [.ref a0] h none h' := by
  refine sm_Met.of (by decide +kernel) rfl ?_
  show sm_W l lo hi (d) q_al_begin 0 [(0, .ref a0)] [] h none h'
  unfold f_al_begin at hf
  refine sm_aload_n 0 rfl d_al_begin_0 ?_
  refine sm_iconst (v := 0) (by decide) d_al_begin_1 ?_
  refine sm_putI fp_al_9 e0 rfl rfl d_al_begin_2 ?_
  refine sm_nmH (fun g1 w2 => ?_)
  have hf := sm_letV w2 hf
  refine sm_aload_n 0 rfl d_al_begin_5 ?_
  refine sm_iconst (v := 0) (by decide) d_al_begin_6 ?_
  refine sm_putI fp_al_15 e0 rfl rfl d_al_begin_7 ?_
  refine sm_nmH (fun g3 w4 => ?_)
  have hf := sm_letV w4 hf
  refine sm_aload_n 0 rfl d_al_begin_10 ?_
  refine sm_iconst (v := (-1)) (by decide) d_al_begin_11 ?_
  refine sm_putI fp_al_18 e0 rfl rfl d_al_begin_12 ?_
  refine sm_nmH (fun g5 w6 => ?_)
  have hf := sm_letV w6 hf
  refine sm_aload_n 0 rfl d_al_begin_15 ?_
  refine sm_iconst (v := 0) (by decide) d_al_begin_16 ?_
  refine sm_putI fp_al_21 e0 rfl rfl d_al_begin_17 ?_
  refine sm_nmH (fun g7 w8 => ?_)
  have hf := sm_letV w8 hf
  obtain rfl := sm_ret1 hf
  exact sm_vret d_al_begin_20 rfl
theorem d_ja_fill_0 : decode q_ja_fill.2.1 0 = .ok (.iconst 0, 1) := by decide +kernel
theorem d_ja_fill_1 : decode q_ja_fill.2.1 1 = .ok (.istore_n 2, 1) := by decide +kernel
theorem d_ja_fill_2 : decode q_ja_fill.2.1 2 = .ok (.aload_n 0, 1) := by decide +kernel
theorem d_ja_fill_3 : decode q_ja_fill.2.1 3 = .ok (.arraylength, 1) := by decide +kernel
theorem d_ja_fill_4 : decode q_ja_fill.2.1 4 = .ok (.istore_n 3, 1) := by decide +kernel
theorem d_ja_fill_5 : decode q_ja_fill.2.1 5 = .ok (.iload_n 2, 1) := by decide +kernel
theorem d_ja_fill_6 : decode q_ja_fill.2.1 6 = .ok (.iload_n 3, 1) := by decide +kernel
theorem d_ja_fill_7 : decode q_ja_fill.2.1 7 = .ok (.if_icmp .ge 13, 3) := by decide +kernel
theorem d_ja_fill_10 : decode q_ja_fill.2.1 10 = .ok (.aload_n 0, 1) := by decide +kernel
theorem d_ja_fill_11 : decode q_ja_fill.2.1 11 = .ok (.iload_n 2, 1) := by decide +kernel
theorem d_ja_fill_12 : decode q_ja_fill.2.1 12 = .ok (.iload_n 1, 1) := by decide +kernel
theorem d_ja_fill_13 : decode q_ja_fill.2.1 13 = .ok (.iastore, 1) := by decide +kernel
theorem d_ja_fill_14 : decode q_ja_fill.2.1 14 = .ok (.iinc 2 1, 3) := by decide +kernel
theorem d_ja_fill_17 : decode q_ja_fill.2.1 17 = .ok (.goto (-12), 3) := by decide +kernel
theorem d_ja_fill_20 : decode q_ja_fill.2.1 20 = .ok (.return_, 1) := by decide +kernel
theorem w_ja_fill_L5 (l : Launch) (lo hi d : Nat) {h' : sm_H} : ∀ (n : Nat) (a0 : Nat) (a1 : Int32) (a2 : Int32) (a3 : Int32) (h : sm_H) (e0 : sm_arr lo hi 0 (sm_len a0) a0) (hf : f_ja_fill_L5 n a0 a1 a2 a3 h = some h'), sm_W l lo hi (d) q_ja_fill 5 [(0, .ref a0), (1, .int a1), (2, .int a2), (3, .int a3)] [] h none h' := by
  intro n
  induction n with
  | zero =>
    intro a0 a1 a2 a3 h e0 hf
    have z : (none : Option sm_H) = some _ := hf
    cases z
  | succ n ih =>
    intro a0 a1 a2 a3 h e0 hf
    unfold f_ja_fill_L5 at hf
    refine sm_iload_n 2 rfl d_ja_fill_5 ?_
    refine sm_iload_n 3 rfl d_ja_fill_6 ?_
    refine sm_icmp_ge 20 d_ja_fill_7 rfl (fun c3 => ?_) (fun c3 => ?_)
    · have hf := sm_ifT c3 hf
      obtain rfl := sm_ret1 hf
      exact sm_vret d_ja_fill_20 rfl
    · have hf := sm_ifF c3 hf
      refine sm_aload_n 0 rfl d_ja_fill_10 ?_
      refine sm_iload_n 2 rfl d_ja_fill_11 ?_
      refine sm_iload_n 1 rfl d_ja_fill_12 ?_
      obtain ⟨c4, hf⟩ := sm_gdE hf
      refine sm_iast e0 c4 d_ja_fill_13 ?_
      refine sm_nmH (fun g5 w6 => ?_)
      have hf := sm_letV w6 hf
      obtain ⟨x7, w8⟩ : ∃ v : Int32, v = a2 + 1 := ⟨_, rfl⟩
      have hf := sm_letV w8 hf
      refine sm_iinc (v := x7) (lv' := [(2, .int x7), (0, .ref a0), (1, .int a1), (3, .int a3)]) 2 rfl (by rw [w8]; rfl) d_ja_fill_14 rfl rfl ?_
      refine sm_goto 5 d_ja_fill_17 rfl ?_
      refine sm_sub [1, 2, 0, 3] rfl ?_
      exact ih _ _ _ _ _ e0 hf
theorem m_ja_fill (l : Launch) (lo hi d : Nat) {a0 : Nat} {a1 : Int32} {h h' : sm_H} (e0 : sm_arr lo hi 0 (sm_len a0) a0) (hf : f_ja_fill a0 a1 h = some h') : sm_Met l lo hi (d) q_ja_fill [.ref a0, .int a1] h none h' := by
  refine sm_Met.of (by decide +kernel) rfl ?_
  show sm_W l lo hi (d) q_ja_fill 0 [(0, .ref a0), (1, .int a1)] [] h none h'
  unfold f_ja_fill at hf
  refine sm_iconst (v := 0) (by decide) d_ja_fill_0 ?_
  refine sm_istore_n (lv' := [(2, .int 0), (0, .ref a0), (1, .int a1)]) d_ja_fill_1 rfl rfl ?_
  refine sm_aload_n 1 rfl d_ja_fill_2 ?_
  refine sm_alen e0 rfl d_ja_fill_3 ?_
  refine sm_nmI (fun x1 w2 => ?_)
  have hf := sm_letV w2 hf
  refine sm_istore_n (lv' := [(3, .int x1), (2, .int 0), (0, .ref a0), (1, .int a1)]) d_ja_fill_4 rfl rfl ?_
  refine sm_sub [2, 3, 1, 0] rfl ?_
  exact w_ja_fill_L5 l lo hi d sm_N _ _ _ _ _ e0 hf
theorem d_st_begin_0 : decode q_st_begin.2.1 0 = .ok (.aload_n 0, 1) := by decide +kernel
theorem d_st_begin_1 : decode q_st_begin.2.1 1 = .ok (.aload_n 1, 1) := by decide +kernel
theorem d_st_begin_2 : decode q_st_begin.2.1 2 = .ok (.putfield 51, 3) := by decide +kernel
theorem d_st_begin_5 : decode q_st_begin.2.1 5 = .ok (.aload_n 0, 1) := by decide +kernel
theorem d_st_begin_6 : decode q_st_begin.2.1 6 = .ok (.iconst 0, 1) := by decide +kernel
theorem d_st_begin_7 : decode q_st_begin.2.1 7 = .ok (.putfield 55, 3) := by decide +kernel
theorem d_st_begin_10 : decode q_st_begin.2.1 10 = .ok (.aload_n 0, 1) := by decide +kernel
theorem d_st_begin_11 : decode q_st_begin.2.1 11 = .ok (.iconst 0, 1) := by decide +kernel
theorem d_st_begin_12 : decode q_st_begin.2.1 12 = .ok (.putfield 59, 3) := by decide +kernel
theorem d_st_begin_15 : decode q_st_begin.2.1 15 = .ok (.aload_n 0, 1) := by decide +kernel
theorem d_st_begin_16 : decode q_st_begin.2.1 16 = .ok (.iconst 0, 1) := by decide +kernel
theorem d_st_begin_17 : decode q_st_begin.2.1 17 = .ok (.putfield 63, 3) := by decide +kernel
theorem d_st_begin_20 : decode q_st_begin.2.1 20 = .ok (.aload_n 0, 1) := by decide +kernel
theorem d_st_begin_21 : decode q_st_begin.2.1 21 = .ok (.bipush 100, 2) := by decide +kernel
theorem d_st_begin_23 : decode q_st_begin.2.1 23 = .ok (.putfield 66, 3) := by decide +kernel
theorem d_st_begin_26 : decode q_st_begin.2.1 26 = .ok (.aload_n 0, 1) := by decide +kernel
theorem d_st_begin_27 : decode q_st_begin.2.1 27 = .ok (.iconst 0, 1) := by decide +kernel
theorem d_st_begin_28 : decode q_st_begin.2.1 28 = .ok (.putfield 69, 3) := by decide +kernel
theorem d_st_begin_31 : decode q_st_begin.2.1 31 = .ok (.aload_n 0, 1) := by decide +kernel
theorem d_st_begin_32 : decode q_st_begin.2.1 32 = .ok (.iconst 0, 1) := by decide +kernel
theorem d_st_begin_33 : decode q_st_begin.2.1 33 = .ok (.putfield 72, 3) := by decide +kernel
theorem d_st_begin_36 : decode q_st_begin.2.1 36 = .ok (.aload_n 0, 1) := by decide +kernel
theorem d_st_begin_37 : decode q_st_begin.2.1 37 = .ok (.iconst 0, 1) := by decide +kernel
theorem d_st_begin_38 : decode q_st_begin.2.1 38 = .ok (.putfield 75, 3) := by decide +kernel
theorem d_st_begin_41 : decode q_st_begin.2.1 41 = .ok (.aload_n 0, 1) := by decide +kernel
theorem d_st_begin_42 : decode q_st_begin.2.1 42 = .ok (.iconst 0, 1) := by decide +kernel
theorem d_st_begin_43 : decode q_st_begin.2.1 43 = .ok (.putfield 78, 3) := by decide +kernel
theorem d_st_begin_46 : decode q_st_begin.2.1 46 = .ok (.aload_n 0, 1) := by decide +kernel
theorem d_st_begin_47 : decode q_st_begin.2.1 47 = .ok (.getfield 9, 3) := by decide +kernel
theorem d_st_begin_50 : decode q_st_begin.2.1 50 = .ok (.iconst 0, 1) := by decide +kernel
theorem d_st_begin_51 : decode q_st_begin.2.1 51 = .ok (.invokestatic 81, 3) := by decide +kernel
theorem d_st_begin_54 : decode q_st_begin.2.1 54 = .ok (.aload_n 0, 1) := by decide +kernel
theorem d_st_begin_55 : decode q_st_begin.2.1 55 = .ok (.getfield 15, 3) := by decide +kernel
theorem d_st_begin_58 : decode q_st_begin.2.1 58 = .ok (.iconst 0, 1) := by decide +kernel
theorem d_st_begin_59 : decode q_st_begin.2.1 59 = .ok (.invokestatic 81, 3) := by decide +kernel
theorem d_st_begin_62 : decode q_st_begin.2.1 62 = .ok (.aload_n 0, 1) := by decide +kernel
theorem d_st_begin_63 : decode q_st_begin.2.1 63 = .ok (.getfield 18, 3) := by decide +kernel
theorem d_st_begin_66 : decode q_st_begin.2.1 66 = .ok (.iconst 0, 1) := by decide +kernel
theorem d_st_begin_67 : decode q_st_begin.2.1 67 = .ok (.invokestatic 81, 3) := by decide +kernel
theorem d_st_begin_70 : decode q_st_begin.2.1 70 = .ok (.aload_n 0, 1) := by decide +kernel
theorem d_st_begin_71 : decode q_st_begin.2.1 71 = .ok (.getfield 21, 3) := by decide +kernel
theorem d_st_begin_74 : decode q_st_begin.2.1 74 = .ok (.iconst 0, 1) := by decide +kernel
theorem d_st_begin_75 : decode q_st_begin.2.1 75 = .ok (.invokestatic 81, 3) := by decide +kernel
theorem d_st_begin_78 : decode q_st_begin.2.1 78 = .ok (.aload_n 0, 1) := by decide +kernel
theorem d_st_begin_79 : decode q_st_begin.2.1 79 = .ok (.getfield 24, 3) := by decide +kernel
theorem d_st_begin_82 : decode q_st_begin.2.1 82 = .ok (.iconst 0, 1) := by decide +kernel
theorem d_st_begin_83 : decode q_st_begin.2.1 83 = .ok (.invokestatic 81, 3) := by decide +kernel
theorem d_st_begin_86 : decode q_st_begin.2.1 86 = .ok (.aload_n 0, 1) := by decide +kernel
theorem d_st_begin_87 : decode q_st_begin.2.1 87 = .ok (.getfield 27, 3) := by decide +kernel
theorem d_st_begin_90 : decode q_st_begin.2.1 90 = .ok (.iconst 0, 1) := by decide +kernel
theorem d_st_begin_91 : decode q_st_begin.2.1 91 = .ok (.invokestatic 81, 3) := by decide +kernel
theorem d_st_begin_94 : decode q_st_begin.2.1 94 = .ok (.aload_n 0, 1) := by decide +kernel
theorem d_st_begin_95 : decode q_st_begin.2.1 95 = .ok (.getfield 30, 3) := by decide +kernel
theorem d_st_begin_98 : decode q_st_begin.2.1 98 = .ok (.iconst 0, 1) := by decide +kernel
theorem d_st_begin_99 : decode q_st_begin.2.1 99 = .ok (.invokestatic 81, 3) := by decide +kernel
theorem d_st_begin_102 : decode q_st_begin.2.1 102 = .ok (.aload_n 0, 1) := by decide +kernel
theorem d_st_begin_103 : decode q_st_begin.2.1 103 = .ok (.getfield 36, 3) := by decide +kernel
theorem d_st_begin_106 : decode q_st_begin.2.1 106 = .ok (.invokevirtual 87, 3) := by decide +kernel
theorem d_st_begin_109 : decode q_st_begin.2.1 109 = .ok (.aload_n 0, 1) := by decide +kernel
theorem d_st_begin_110 : decode q_st_begin.2.1 110 = .ok (.getfield 43, 3) := by decide +kernel
theorem d_st_begin_113 : decode q_st_begin.2.1 113 = .ok (.iconst 0, 1) := by decide +kernel
theorem d_st_begin_114 : decode q_st_begin.2.1 114 = .ok (.putfield 89, 3) := by decide +kernel
theorem d_st_begin_117 : decode q_st_begin.2.1 117 = .ok (.iconst 0, 1) := by decide +kernel
theorem d_st_begin_118 : decode q_st_begin.2.1 118 = .ok (.istore_n 2, 1) := by decide +kernel
theorem d_st_begin_119 : decode q_st_begin.2.1 119 = .ok (.iload_n 2, 1) := by decide +kernel
theorem d_st_begin_120 : decode q_st_begin.2.1 120 = .ok (.aload_n 0, 1) := by decide +kernel
theorem d_st_begin_121 : decode q_st_begin.2.1 121 = .ok (.getfield 51, 3) := by decide +kernel
theorem d_st_begin_124 : decode q_st_begin.2.1 124 = .ok (.getfield 92, 3) := by decide +kernel
theorem d_st_begin_127 : decode q_st_begin.2.1 127 = .ok (.if_icmp .ge 42, 3) := by decide +kernel
theorem d_st_begin_130 : decode q_st_begin.2.1 130 = .ok (.aload_n 0, 1) := by decide +kernel
theorem d_st_begin_131 : decode q_st_begin.2.1 131 = .ok (.getfield 18, 3) := by decide +kernel
theorem d_st_begin_134 : decode q_st_begin.2.1 134 = .ok (.iload_n 2, 1) := by decide +kernel
theorem d_st_begin_135 : decode q_st_begin.2.1 135 = .ok (.aload_n 0, 1) := by decide +kernel
theorem d_st_begin_136 : decode q_st_begin.2.1 136 = .ok (.getfield 51, 3) := by decide +kernel
theorem d_st_begin_139 : decode q_st_begin.2.1 139 = .ok (.getfield 97, 3) := by decide +kernel
theorem d_st_begin_142 : decode q_st_begin.2.1 142 = .ok (.iload_n 2, 1) := by decide +kernel
theorem d_st_begin_143 : decode q_st_begin.2.1 143 = .ok (.invokestatic 100, 3) := by decide +kernel
theorem d_st_begin_146 : decode q_st_begin.2.1 146 = .ok (.ifCond .eq 15, 3) := by decide +kernel
theorem d_st_begin_149 : decode q_st_begin.2.1 149 = .ok (.aload_n 0, 1) := by decide +kernel
theorem d_st_begin_150 : decode q_st_begin.2.1 150 = .ok (.getfield 51, 3) := by decide +kernel
theorem d_st_begin_153 : decode q_st_begin.2.1 153 = .ok (.getfield 104, 3) := by decide +kernel
theorem d_st_begin_156 : decode q_st_begin.2.1 156 = .ok (.iload_n 2, 1) := by decide +kernel
theorem d_st_begin_157 : decode q_st_begin.2.1 157 = .ok (.iaload, 1) := by decide +kernel
theorem d_st_begin_158 : decode q_st_begin.2.1 158 = .ok (.goto 4, 3) := by decide +kernel
theorem d_st_begin_161 : decode q_st_begin.2.1 161 = .ok (.iconst 0, 1) := by decide +kernel
theorem d_st_begin_162 : decode q_st_begin.2.1 162 = .ok (.iastore, 1) := by decide +kernel
theorem d_st_begin_163 : decode q_st_begin.2.1 163 = .ok (.iinc 2 1, 3) := by decide +kernel
theorem d_st_begin_166 : decode q_st_begin.2.1 166 = .ok (.goto (-47), 3) := by decide +kernel
theorem d_st_begin_169 : decode q_st_begin.2.1 169 = .ok (.return_, 1) := by decide +kernel
theorem w_st_begin_L162 (l : Launch) (lo hi d : Nat) (hS : sm_has lo hi) {k119 : Nat → Int32 → sm_H → Option sm_H} {h' : sm_H} (hk119 : ∀ (a0 : Nat) (a2 : Int32) (h : sm_H) (_ : sm_at lo hi (0, 7, 0) a0) , k119 a0 a2 h = some h' → sm_W l lo hi (d + 1) q_st_begin 119 [(0, .ref a0), (2, .int a2)] [] h none h') (a0 : Nat) (a2 : Int32) (s0 : Int32) (s1 : Int32) (s2 : Nat) (h : sm_H) (e0 : sm_at lo hi (0, 7, 0) a0) (t2 : sm_arr lo hi 0 23 s2) (hf : f_st_begin_L162 k119 a0 a2 s0 s1 s2 h = some h') : sm_W l lo hi (d + 1) q_st_begin 162 [(0, .ref a0), (2, .int a2)] [.int s0, .int s1, .ref s2] h none h' := by
  unfold f_st_begin_L162 at hf
  obtain ⟨c58, hf⟩ := sm_gdE hf
  refine sm_iast t2 c58 d_st_begin_162 ?_
  refine sm_nmH (fun g59 w60 => ?_)
  have hf := sm_letV w60 hf
  obtain ⟨x61, w62⟩ : ∃ v : Int32, v = a2 + 1 := ⟨_, rfl⟩
  have hf := sm_letV w62 hf
  refine sm_iinc (v := x61) (lv' := [(2, .int x61), (0, .ref a0)]) 1 rfl (by rw [w62]; rfl) d_st_begin_163 rfl rfl ?_
  refine sm_goto 119 d_st_begin_166 rfl ?_
  refine sm_sub [1, 0] rfl ?_
  exact hk119 _ _ _ e0 hf
theorem w_st_begin_L119 (l : Launch) (lo hi d : Nat) (hS : sm_has lo hi) {h' : sm_H} : ∀ (n : Nat) (a0 : Nat) (a2 : Int32) (h : sm_H) (e0 : sm_at lo hi (0, 7, 0) a0) (hf : f_st_begin_L119 n a0 a2 h = some h'), sm_W l lo hi (d + 1) q_st_begin 119 [(0, .ref a0), (2, .int a2)] [] h none h' := by
  intro n
  induction n with
  | zero =>
    intro a0 a2 h e0 hf
    have z : (none : Option sm_H) = some _ := hf
    cases z
  | succ n ih =>
    intro a0 a2 h e0 hf
    unfold f_st_begin_L119 at hf
    refine sm_iload_n 1 rfl d_st_begin_119 ?_
    refine sm_aload_n 0 rfl d_st_begin_120 ?_
    obtain ⟨c37, hf⟩ := sm_gdE hf
    obtain ⟨z38, v39⟩ := sm_isP_at hS c37
    refine sm_getD fl_st_51 e0 rfl z38 d_st_begin_121 ?_
    refine sm_nmR (fun p40 w41 => ?_)
    have hf := sm_letV w41 hf
    have v39 := sm_ev w41 v39
    refine sm_getI fl_st_92 v39 rfl d_st_begin_124 ?_
    refine sm_icmp_ge 169 d_st_begin_127 rfl (fun c42 => ?_) (fun c42 => ?_)
    · have hf := sm_ifT c42 hf
      obtain rfl := sm_ret1 hf
      exact sm_vret d_st_begin_169 rfl
    · have hf := sm_ifF c42 hf
      refine sm_aload_n 0 rfl d_st_begin_130 ?_
      refine sm_getR (n := 3) fl_st_18 e0 rfl d_st_begin_131 ?_
      refine sm_iload_n 1 rfl d_st_begin_134 ?_
      refine sm_aload_n 0 rfl d_st_begin_135 ?_
      obtain ⟨c43, hf⟩ := sm_gdE hf
      obtain ⟨z44, v45⟩ := sm_isP_at hS c43
      refine sm_getD fl_st_51 e0 rfl z44 d_st_begin_136 ?_
      refine sm_nmR (fun p46 w47 => ?_)
      have hf := sm_letV w47 hf
      have v45 := sm_ev w47 v45
      refine sm_getI fl_st_97 v45 rfl d_st_begin_139 ?_
      refine sm_iload_n 1 rfl d_st_begin_142 ?_
      obtain ⟨r48, g49, c50, hf⟩ := sm_b2E hf
      refine sm_callN (As := [.int (h p46 6), .int a2]) (rv := some (.int r48)) (h1 := g49) cvn_st_100 (m_sc_has l lo hi _ c50) rfl rfl d_st_begin_143 ?_
      refine sm_if_eq 161 d_st_begin_146 rfl (fun c51 => ?_) (fun c51 => ?_)
      · have hf := sm_ifT c51 hf
        refine sm_iconst (v := 0) (by decide) d_st_begin_161 ?_
        exact w_st_begin_L162 l lo hi d hS ih _ _ _ _ _ _ e0 (sm_at_arr (sm_inner e0 11 rfl rfl rfl)) hf
      · have hf := sm_ifF c51 hf
        refine sm_aload_n 0 rfl d_st_begin_149 ?_
        obtain ⟨c52, hf⟩ := sm_gdE hf
        obtain ⟨z53, v54⟩ := sm_isP_at hS c52
        refine sm_getD fl_st_51 e0 rfl z53 d_st_begin_150 ?_
        refine sm_nmR (fun p55 w56 => ?_)
        have hf := sm_letV w56 hf
        have v54 := sm_ev w56 v54
        refine sm_getR (n := 2) fl_st_104 v54 rfl d_st_begin_153 ?_
        refine sm_iload_n 1 rfl d_st_begin_156 ?_
        obtain ⟨c57, hf⟩ := sm_gdE hf
        refine sm_iald (sm_at_arr (sm_inner v54 8 rfl rfl rfl)) c57 d_st_begin_157 ?_
        refine sm_goto 162 d_st_begin_158 rfl ?_
        exact w_st_begin_L162 l lo hi d hS ih _ _ _ _ _ _ e0 (sm_at_arr (sm_inner e0 11 rfl rfl rfl)) hf
theorem m_st_begin (l : Launch) (lo hi d : Nat) (hS : sm_has lo hi) {a0 : Nat} {a1 : Nat} {h h' : sm_H} (e0 : sm_at lo hi (0, 7, 0) a0) (e1 : sm_at lo hi (0, 4, 0) a1) (hf : f_st_begin a0 a1 h = some h') : sm_Met l lo hi (d + 1) q_st_begin [.ref a0, .ref a1] h none h' := by
  refine sm_Met.of (by decide +kernel) rfl ?_
  show sm_W l lo hi (d + 1) q_st_begin 0 [(0, .ref a0), (1, .ref a1)] [] h none h'
  unfold f_st_begin at hf
  refine sm_aload_n 0 rfl d_st_begin_0 ?_
  refine sm_aload_n 1 rfl d_st_begin_1 ?_
  refine sm_putD fp_st_51 e0 rfl rfl (sm_plant0 e1) (sm_plantB e1) d_st_begin_2 ?_
  refine sm_nmH (fun g1 w2 => ?_)
  have hf := sm_letV w2 hf
  refine sm_aload_n 0 rfl d_st_begin_5 ?_
  refine sm_iconst (v := 0) (by decide) d_st_begin_6 ?_
  refine sm_putI fp_st_55 e0 rfl rfl d_st_begin_7 ?_
  refine sm_nmH (fun g3 w4 => ?_)
  have hf := sm_letV w4 hf
  refine sm_aload_n 0 rfl d_st_begin_10 ?_
  refine sm_iconst (v := 0) (by decide) d_st_begin_11 ?_
  refine sm_putZ fp_st_59 e0 rfl rfl (by decide) d_st_begin_12 ?_
  refine sm_nmH (fun g5 w6 => ?_)
  have hf := sm_letV w6 hf
  refine sm_aload_n 0 rfl d_st_begin_15 ?_
  refine sm_iconst (v := 0) (by decide) d_st_begin_16 ?_
  refine sm_putI fp_st_63 e0 rfl rfl d_st_begin_17 ?_
  refine sm_nmH (fun g7 w8 => ?_)
  have hf := sm_letV w8 hf
  refine sm_aload_n 0 rfl d_st_begin_20 ?_
  refine sm_bipush (v := 100) (by decide) d_st_begin_21 ?_
  refine sm_putI fp_st_66 e0 rfl rfl d_st_begin_23 ?_
  refine sm_nmH (fun g9 w10 => ?_)
  have hf := sm_letV w10 hf
  refine sm_aload_n 0 rfl d_st_begin_26 ?_
  refine sm_iconst (v := 0) (by decide) d_st_begin_27 ?_
  refine sm_putI fp_st_69 e0 rfl rfl d_st_begin_28 ?_
  refine sm_nmH (fun g11 w12 => ?_)
  have hf := sm_letV w12 hf
  refine sm_aload_n 0 rfl d_st_begin_31 ?_
  refine sm_iconst (v := 0) (by decide) d_st_begin_32 ?_
  refine sm_putI fp_st_72 e0 rfl rfl d_st_begin_33 ?_
  refine sm_nmH (fun g13 w14 => ?_)
  have hf := sm_letV w14 hf
  refine sm_aload_n 0 rfl d_st_begin_36 ?_
  refine sm_iconst (v := 0) (by decide) d_st_begin_37 ?_
  refine sm_putI fp_st_75 e0 rfl rfl d_st_begin_38 ?_
  refine sm_nmH (fun g15 w16 => ?_)
  have hf := sm_letV w16 hf
  refine sm_aload_n 0 rfl d_st_begin_41 ?_
  refine sm_iconst (v := 0) (by decide) d_st_begin_42 ?_
  refine sm_putI fp_st_78 e0 rfl rfl d_st_begin_43 ?_
  refine sm_nmH (fun g17 w18 => ?_)
  have hf := sm_letV w18 hf
  refine sm_aload_n 0 rfl d_st_begin_46 ?_
  refine sm_getR (n := 1) fl_st_9 e0 rfl d_st_begin_47 ?_
  refine sm_iconst (v := 0) (by decide) d_st_begin_50 ?_
  obtain ⟨g19, c20, hf⟩ := sm_bindE hf
  refine sm_callS (As := [.ref (a0 + 1), .int 0]) (rv := none) (h1 := g19) cvs_st_81 (m_ja_fill l lo hi _ (sm_arr_self (sm_at_arr (sm_inner e0 9 rfl rfl rfl))) c20) rfl rfl d_st_begin_51 ?_
  refine sm_aload_n 0 rfl d_st_begin_54 ?_
  refine sm_getR (n := 2) fl_st_15 e0 rfl d_st_begin_55 ?_
  refine sm_iconst (v := 0) (by decide) d_st_begin_58 ?_
  obtain ⟨g21, c22, hf⟩ := sm_bindE hf
  refine sm_callS (As := [.ref (a0 + 2), .int 0]) (rv := none) (h1 := g21) cvs_st_81 (m_ja_fill l lo hi _ (sm_arr_self (sm_at_arr (sm_inner e0 10 rfl rfl rfl))) c22) rfl rfl d_st_begin_59 ?_
  refine sm_aload_n 0 rfl d_st_begin_62 ?_
  refine sm_getR (n := 3) fl_st_18 e0 rfl d_st_begin_63 ?_
  refine sm_iconst (v := 0) (by decide) d_st_begin_66 ?_
  obtain ⟨g23, c24, hf⟩ := sm_bindE hf
  refine sm_callS (As := [.ref (a0 + 3), .int 0]) (rv := none) (h1 := g23) cvs_st_81 (m_ja_fill l lo hi _ (sm_arr_self (sm_at_arr (sm_inner e0 11 rfl rfl rfl))) c24) rfl rfl d_st_begin_67 ?_
  refine sm_aload_n 0 rfl d_st_begin_70 ?_
  refine sm_getR (n := 4) fl_st_21 e0 rfl d_st_begin_71 ?_
  refine sm_iconst (v := 0) (by decide) d_st_begin_74 ?_
  obtain ⟨g25, c26, hf⟩ := sm_bindE hf
  refine sm_callS (As := [.ref (a0 + 4), .int 0]) (rv := none) (h1 := g25) cvs_st_81 (m_ja_fill l lo hi _ (sm_arr_self (sm_at_arr (sm_inner e0 12 rfl rfl rfl))) c26) rfl rfl d_st_begin_75 ?_
  refine sm_aload_n 0 rfl d_st_begin_78 ?_
  refine sm_getR (n := 5) fl_st_24 e0 rfl d_st_begin_79 ?_
  refine sm_iconst (v := 0) (by decide) d_st_begin_82 ?_
  obtain ⟨g27, c28, hf⟩ := sm_bindE hf
  refine sm_callS (As := [.ref (a0 + 5), .int 0]) (rv := none) (h1 := g27) cvs_st_81 (m_ja_fill l lo hi _ (sm_arr_self (sm_at_arr (sm_inner e0 13 rfl rfl rfl))) c28) rfl rfl d_st_begin_83 ?_
  refine sm_aload_n 0 rfl d_st_begin_86 ?_
  refine sm_getR (n := 6) fl_st_27 e0 rfl d_st_begin_87 ?_
  refine sm_iconst (v := 0) (by decide) d_st_begin_90 ?_
  obtain ⟨g29, c30, hf⟩ := sm_bindE hf
  refine sm_callS (As := [.ref (a0 + 6), .int 0]) (rv := none) (h1 := g29) cvs_st_81 (m_ja_fill l lo hi _ (sm_arr_self (sm_at_arr (sm_inner e0 14 rfl rfl rfl))) c30) rfl rfl d_st_begin_91 ?_
  refine sm_aload_n 0 rfl d_st_begin_94 ?_
  refine sm_getR (n := 7) fl_st_30 e0 rfl d_st_begin_95 ?_
  refine sm_iconst (v := 0) (by decide) d_st_begin_98 ?_
  obtain ⟨g31, c32, hf⟩ := sm_bindE hf
  refine sm_callS (As := [.ref (a0 + 7), .int 0]) (rv := none) (h1 := g31) cvs_st_81 (m_ja_fill l lo hi _ (sm_arr_self (sm_at_arr (sm_inner e0 15 rfl rfl rfl))) c32) rfl rfl d_st_begin_99 ?_
  refine sm_aload_n 0 rfl d_st_begin_102 ?_
  refine sm_getR (n := 8) fl_st_36 e0 rfl d_st_begin_103 ?_
  obtain ⟨g33, c34, hf⟩ := sm_bindE hf
  refine sm_callV (As := []) (rv := none) (h1 := g33) (c := 0) cvv_st_87 rfl rfl (sm_inner e0 16 rfl rfl rfl) (m_al_begin l lo hi _ (sm_inner e0 16 rfl rfl rfl) c34) rfl rfl d_st_begin_106 ?_
  refine sm_aload_n 0 rfl d_st_begin_109 ?_
  refine sm_getR (n := 9) fl_st_43 e0 rfl d_st_begin_110 ?_
  refine sm_iconst (v := 0) (by decide) d_st_begin_113 ?_
  refine sm_putI fp_st_89 (sm_inner e0 17 rfl rfl rfl) rfl rfl d_st_begin_114 ?_
  refine sm_nmH (fun g35 w36 => ?_)
  have hf := sm_letV w36 hf
  refine sm_iconst (v := 0) (by decide) d_st_begin_117 ?_
  refine sm_istore_n (lv' := [(2, .int 0), (0, .ref a0), (1, .ref a1)]) d_st_begin_118 rfl rfl ?_
  refine sm_sub [1, 0] rfl ?_
  exact w_st_begin_L119 l lo hi d hS sm_N _ _ _ e0 hf
theorem d_sc_load_0 : decode q_sc_load.2.1 0 = .ok (.iload_n 1, 1) := by decide +kernel
theorem d_sc_load_1 : decode q_sc_load.2.1 1 = .ok (.ifCond .lt 17, 3) := by decide +kernel
theorem d_sc_load_4 : decode q_sc_load.2.1 4 = .ok (.iload_n 1, 1) := by decide +kernel
theorem d_sc_load_5 : decode q_sc_load.2.1 5 = .ok (.aload_n 0, 1) := by decide +kernel
theorem d_sc_load_6 : decode q_sc_load.2.1 6 = .ok (.getfield 15, 3) := by decide +kernel
theorem d_sc_load_9 : decode q_sc_load.2.1 9 = .ok (.getfield 42, 3) := by decide +kernel
theorem d_sc_load_12 : decode q_sc_load.2.1 12 = .ok (.getfield 46, 3) := by decide +kernel
theorem d_sc_load_15 : decode q_sc_load.2.1 15 = .ok (.if_icmp .le 6, 3) := by decide +kernel
theorem d_sc_load_18 : decode q_sc_load.2.1 18 = .ok (.bipush (-2), 2) := by decide +kernel
theorem d_sc_load_20 : decode q_sc_load.2.1 20 = .ok (.ireturn, 1) := by decide +kernel
theorem d_sc_load_21 : decode q_sc_load.2.1 21 = .ok (.aload_n 0, 1) := by decide +kernel
theorem d_sc_load_22 : decode q_sc_load.2.1 22 = .ok (.getfield 15, 3) := by decide +kernel
theorem d_sc_load_25 : decode q_sc_load.2.1 25 = .ok (.iload_n 1, 1) := by decide +kernel
theorem d_sc_load_26 : decode q_sc_load.2.1 26 = .ok (.invokevirtual 56, 3) := by decide +kernel
theorem d_sc_load_29 : decode q_sc_load.2.1 29 = .ok (.iconst 0, 1) := by decide +kernel
theorem d_sc_load_30 : decode q_sc_load.2.1 30 = .ok (.istore_n 2, 1) := by decide +kernel
theorem d_sc_load_31 : decode q_sc_load.2.1 31 = .ok (.iload_n 2, 1) := by decide +kernel
theorem d_sc_load_32 : decode q_sc_load.2.1 32 = .ok (.sipush 900, 3) := by decide +kernel
theorem d_sc_load_35 : decode q_sc_load.2.1 35 = .ok (.if_icmp .ge 35, 3) := by decide +kernel
theorem d_sc_load_38 : decode q_sc_load.2.1 38 = .ok (.aload_n 0, 1) := by decide +kernel
theorem d_sc_load_39 : decode q_sc_load.2.1 39 = .ok (.getfield 15, 3) := by decide +kernel
theorem d_sc_load_42 : decode q_sc_load.2.1 42 = .ok (.invokevirtual 59, 3) := by decide +kernel
theorem d_sc_load_45 : decode q_sc_load.2.1 45 = .ok (.ifCond .eq 25, 3) := by decide +kernel
theorem d_sc_load_48 : decode q_sc_load.2.1 48 = .ok (.aload_n 0, 1) := by decide +kernel
theorem d_sc_load_49 : decode q_sc_load.2.1 49 = .ok (.getfield 15, 3) := by decide +kernel
theorem d_sc_load_52 : decode q_sc_load.2.1 52 = .ok (.iload_n 2, 1) := by decide +kernel
theorem d_sc_load_53 : decode q_sc_load.2.1 53 = .ok (.ifCond .ne 7, 3) := by decide +kernel
theorem d_sc_load_56 : decode q_sc_load.2.1 56 = .ok (.iconst 1, 1) := by decide +kernel
theorem d_sc_load_57 : decode q_sc_load.2.1 57 = .ok (.goto 4, 3) := by decide +kernel
theorem d_sc_load_60 : decode q_sc_load.2.1 60 = .ok (.iconst 0, 1) := by decide +kernel
theorem d_sc_load_61 : decode q_sc_load.2.1 61 = .ok (.invokevirtual 63, 3) := by decide +kernel
theorem d_sc_load_64 : decode q_sc_load.2.1 64 = .ok (.iinc 2 1, 3) := by decide +kernel
theorem d_sc_load_67 : decode q_sc_load.2.1 67 = .ok (.goto (-36), 3) := by decide +kernel
theorem d_sc_load_70 : decode q_sc_load.2.1 70 = .ok (.aload_n 0, 1) := by decide +kernel
theorem d_sc_load_71 : decode q_sc_load.2.1 71 = .ok (.getfield 15, 3) := by decide +kernel
theorem d_sc_load_74 : decode q_sc_load.2.1 74 = .ok (.getfield 42, 3) := by decide +kernel
theorem d_sc_load_77 : decode q_sc_load.2.1 77 = .ok (.iconst 0, 1) := by decide +kernel
theorem d_sc_load_78 : decode q_sc_load.2.1 78 = .ok (.putfield 46, 3) := by decide +kernel
theorem d_sc_load_81 : decode q_sc_load.2.1 81 = .ok (.aload_n 0, 1) := by decide +kernel
theorem d_sc_load_82 : decode q_sc_load.2.1 82 = .ok (.getfield 15, 3) := by decide +kernel
theorem d_sc_load_85 : decode q_sc_load.2.1 85 = .ok (.getfield 67, 3) := by decide +kernel
theorem d_sc_load_88 : decode q_sc_load.2.1 88 = .ok (.ifCond .eq 6, 3) := by decide +kernel
theorem d_sc_load_91 : decode q_sc_load.2.1 91 = .ok (.bipush (-4), 2) := by decide +kernel
theorem d_sc_load_93 : decode q_sc_load.2.1 93 = .ok (.ireturn, 1) := by decide +kernel
theorem d_sc_load_94 : decode q_sc_load.2.1 94 = .ok (.aload_n 0, 1) := by decide +kernel
theorem d_sc_load_95 : decode q_sc_load.2.1 95 = .ok (.getfield 24, 3) := by decide +kernel
theorem d_sc_load_98 : decode q_sc_load.2.1 98 = .ok (.getfield 70, 3) := by decide +kernel
theorem d_sc_load_101 : decode q_sc_load.2.1 101 = .ok (.astore_n 3, 1) := by decide +kernel
theorem d_sc_load_102 : decode q_sc_load.2.1 102 = .ok (.aload_n 0, 1) := by decide +kernel
theorem d_sc_load_103 : decode q_sc_load.2.1 103 = .ok (.getfield 24, 3) := by decide +kernel
theorem d_sc_load_106 : decode q_sc_load.2.1 106 = .ok (.aload_n 0, 1) := by decide +kernel
theorem d_sc_load_107 : decode q_sc_load.2.1 107 = .ok (.getfield 15, 3) := by decide +kernel
theorem d_sc_load_110 : decode q_sc_load.2.1 110 = .ok (.getfield 74, 3) := by decide +kernel
theorem d_sc_load_113 : decode q_sc_load.2.1 113 = .ok (.invokevirtual 75, 3) := by decide +kernel
theorem d_sc_load_116 : decode q_sc_load.2.1 116 = .ok (.aload_n 0, 1) := by decide +kernel
theorem d_sc_load_117 : decode q_sc_load.2.1 117 = .ok (.getfield 15, 3) := by decide +kernel
theorem d_sc_load_120 : decode q_sc_load.2.1 120 = .ok (.aload_n 3, 1) := by decide +kernel
theorem d_sc_load_121 : decode q_sc_load.2.1 121 = .ok (.putfield 74, 3) := by decide +kernel
theorem d_sc_load_124 : decode q_sc_load.2.1 124 = .ok (.aload_n 0, 1) := by decide +kernel
theorem d_sc_load_125 : decode q_sc_load.2.1 125 = .ok (.iconst 0, 1) := by decide +kernel
theorem d_sc_load_126 : decode q_sc_load.2.1 126 = .ok (.putfield 77, 3) := by decide +kernel
theorem d_sc_load_129 : decode q_sc_load.2.1 129 = .ok (.iload_n 2, 1) := by decide +kernel
theorem d_sc_load_130 : decode q_sc_load.2.1 130 = .ok (.ireturn, 1) := by decide +kernel
theorem w_sc_load_L18 (l : Launch) (lo hi d : Nat) (hS : sm_has lo hi) {h' : sm_H} {r0 : Int32} (h : sm_H) (hf : f_sc_load_L18 h = some (r0, h')) : sm_W l lo hi (d + 50) q_sc_load 18 [] [] h (some (.int r0)) h' := by
  unfold f_sc_load_L18 at hf
  refine sm_bipush (v := (-2)) (by decide) d_sc_load_18 ?_
  obtain ⟨rfl, rfl⟩ := sm_ret2 hf
  exact sm_iret d_sc_load_20 rfl
theorem w_sc_load_L70 (l : Launch) (lo hi d : Nat) (hS : sm_has lo hi) {h' : sm_H} {r0 : Int32} (a0 : Nat) (a2 : Int32) (h : sm_H) (e0 : sm_at lo hi (0, 9, 0) a0) (hf : f_sc_load_L70 a0 a2 h = some (r0, h')) : sm_W l lo hi (d + 50) q_sc_load 70 [(0, .ref a0), (2, .int a2)] [] h (some (.int r0)) h' := by
  unfold f_sc_load_L70 at hf
  refine sm_aload_n 0 rfl d_sc_load_70 ?_
  refine sm_getR (n := 17) fl_sc_15 e0 rfl d_sc_load_71 ?_
  refine sm_getR (n := 1) fl_sc_42 (sm_inner e0 0 rfl rfl rfl) rfl d_sc_load_74 ?_
  refine sm_iconst (v := 0) (by decide) d_sc_load_77 ?_
  refine sm_putI fp_sc_46 (sm_inner (sm_inner e0 0 rfl rfl rfl) 0 rfl rfl rfl) rfl rfl d_sc_load_78 ?_
  refine sm_nmH (fun g15 w16 => ?_)
  have hf := sm_letV w16 hf
  refine sm_aload_n 0 rfl d_sc_load_81 ?_
  refine sm_getR (n := 17) fl_sc_15 e0 rfl d_sc_load_82 ?_
  refine sm_getI fl_sc_67 (sm_inner e0 0 rfl rfl rfl) rfl d_sc_load_85 ?_
  refine sm_if_eq 94 d_sc_load_88 rfl (fun c17 => ?_) (fun c17 => ?_)
  · have hf := sm_ifT c17 hf
    refine sm_aload_n 0 rfl d_sc_load_94 ?_
    refine sm_getR (n := 40) fl_sc_24 e0 rfl d_sc_load_95 ?_
    obtain ⟨c18, hf⟩ := sm_gdE hf
    obtain ⟨z19, v20⟩ := sm_isP_at hS c18
    refine sm_getD fl_sc_70 (sm_inner e0 1 rfl rfl rfl) rfl z19 d_sc_load_98 ?_
    refine sm_nmR (fun p21 w22 => ?_)
    have hf := sm_letV w22 hf
    have v20 := sm_ev w22 v20
    refine sm_astore_n (lv' := [(3, .ref p21), (0, .ref a0), (2, .int a2)]) d_sc_load_101 rfl rfl ?_
    refine sm_aload_n 1 rfl d_sc_load_102 ?_
    refine sm_getR (n := 40) fl_sc_24 e0 rfl d_sc_load_103 ?_
    refine sm_aload_n 1 rfl d_sc_load_106 ?_
    refine sm_getR (n := 17) fl_sc_15 e0 rfl d_sc_load_107 ?_
    obtain ⟨c23, hf⟩ := sm_gdE hf
    obtain ⟨z24, v25⟩ := sm_isP_at hS c23
    refine sm_getD fl_sc_74 (sm_inner e0 0 rfl rfl rfl) rfl z24 d_sc_load_110 ?_
    refine sm_nmR (fun p26 w27 => ?_)
    have hf := sm_letV w27 hf
    have v25 := sm_ev w27 v25
    obtain ⟨g28, c29, hf⟩ := sm_bindE hf
    refine sm_callV (As := [.ref p26]) (rv := none) (h1 := g28) (c := 7) cvv_sc_75 rfl rfl (sm_inner e0 1 rfl rfl rfl) (m_st_begin l lo hi _ hS (sm_inner e0 1 rfl rfl rfl) v25 c29) rfl rfl d_sc_load_113 ?_
    refine sm_aload_n 1 rfl d_sc_load_116 ?_
    refine sm_getR (n := 17) fl_sc_15 e0 rfl d_sc_load_117 ?_
    refine sm_aload_n 0 rfl d_sc_load_120 ?_
    refine sm_putD fp_sc_74 (sm_inner e0 0 rfl rfl rfl) rfl rfl (sm_plant0 v20) (sm_plantB v20) d_sc_load_121 ?_
    refine sm_nmH (fun g30 w31 => ?_)
    have hf := sm_letV w31 hf
    refine sm_aload_n 1 rfl d_sc_load_124 ?_
    refine sm_iconst (v := 0) (by decide) d_sc_load_125 ?_
    refine sm_putI fp_sc_77 e0 rfl rfl d_sc_load_126 ?_
    refine sm_nmH (fun g32 w33 => ?_)
    have hf := sm_letV w33 hf
    refine sm_iload_n 2 rfl d_sc_load_129 ?_
    obtain ⟨rfl, rfl⟩ := sm_ret2 hf
    exact sm_iret d_sc_load_130 rfl
  · have hf := sm_ifF c17 hf
    refine sm_bipush (v := (-4)) (by decide) d_sc_load_91 ?_
    obtain ⟨rfl, rfl⟩ := sm_ret2 hf
    exact sm_iret d_sc_load_93 rfl
theorem w_sc_load_L61 (l : Launch) (lo hi d : Nat) (hS : sm_has lo hi) {k31 : Nat → Int32 → sm_H → Option (Int32 × sm_H)} {h' : sm_H} {r0 : Int32} (hk31 : ∀ (a0 : Nat) (a2 : Int32) (h : sm_H) (_ : sm_at lo hi (0, 9, 0) a0) , k31 a0 a2 h = some (r0, h') → sm_W l lo hi (d + 50) q_sc_load 31 [(0, .ref a0), (2, .int a2)] [] h (some (.int r0)) h') (a0 : Nat) (a2 : Int32) (s0 : Int32) (s1 : Nat) (h : sm_H) (e0 : sm_at lo hi (0, 9, 0) a0) (t1 : sm_at lo hi (0, 5, 0) s1) (hf : f_sc_load_L61 k31 a0 a2 s0 s1 h = some (r0, h')) : sm_W l lo hi (d + 50) q_sc_load 61 [(0, .ref a0), (2, .int a2)] [.int s0, .ref s1] h (some (.int r0)) h' := by
  unfold f_sc_load_L61 at hf
  obtain ⟨g11, c12, hf⟩ := sm_bindE hf
  refine sm_callV (As := [.int s0]) (rv := none) (h1 := g11) (c := 5) cvv_sc_63 rfl rfl t1 (m_re_item l lo hi _ hS t1 c12) rfl rfl d_sc_load_61 ?_
  obtain ⟨x13, w14⟩ : ∃ v : Int32, v = a2 + 1 := ⟨_, rfl⟩
  have hf := sm_letV w14 hf
  refine sm_iinc (v := x13) (lv' := [(2, .int x13), (0, .ref a0)]) 1 rfl (by rw [w14]; rfl) d_sc_load_64 rfl rfl ?_
  refine sm_goto 31 d_sc_load_67 rfl ?_
  refine sm_sub [1, 0] rfl ?_
  exact hk31 _ _ _ e0 hf
theorem w_sc_load_L31 (l : Launch) (lo hi d : Nat) (hS : sm_has lo hi) {h' : sm_H} {r0 : Int32} : ∀ (n : Nat) (a0 : Nat) (a2 : Int32) (h : sm_H) (e0 : sm_at lo hi (0, 9, 0) a0) (hf : f_sc_load_L31 n a0 a2 h = some (r0, h')), sm_W l lo hi (d + 50) q_sc_load 31 [(0, .ref a0), (2, .int a2)] [] h (some (.int r0)) h' := by
  intro n
  induction n with
  | zero =>
    intro a0 a2 h e0 hf
    have z : (none : Option (Int32 × sm_H)) = some _ := hf
    cases z
  | succ n ih =>
    intro a0 a2 h e0 hf
    unfold f_sc_load_L31 at hf
    refine sm_iload_n 1 rfl d_sc_load_31 ?_
    refine sm_sipush (v := 900) (by decide) d_sc_load_32 ?_
    refine sm_icmp_ge 70 d_sc_load_35 rfl (fun c5 => ?_) (fun c5 => ?_)
    · have hf := sm_ifT c5 hf
      exact w_sc_load_L70 l lo hi d hS _ _ _ e0 hf
    · have hf := sm_ifF c5 hf
      refine sm_aload_n 0 rfl d_sc_load_38 ?_
      refine sm_getR (n := 17) fl_sc_15 e0 rfl d_sc_load_39 ?_
      obtain ⟨r6, g7, c8, hf⟩ := sm_b2E hf
      refine sm_callV (As := []) (rv := some (.int r6)) (h1 := g7) (c := 5) cvv_sc_59 rfl rfl (sm_inner e0 0 rfl rfl rfl) (m_re_expectsItem l lo hi _ (sm_inner e0 0 rfl rfl rfl) c8) rfl rfl d_sc_load_42 ?_
      refine sm_if_eq 70 d_sc_load_45 rfl (fun c9 => ?_) (fun c9 => ?_)
      · have hf := sm_ifT c9 hf
        exact w_sc_load_L70 l lo hi d hS _ _ _ e0 hf
      · have hf := sm_ifF c9 hf
        refine sm_aload_n 0 rfl d_sc_load_48 ?_
        refine sm_getR (n := 17) fl_sc_15 e0 rfl d_sc_load_49 ?_
        refine sm_iload_n 1 rfl d_sc_load_52 ?_
        refine sm_if_ne 60 d_sc_load_53 rfl (fun c10 => ?_) (fun c10 => ?_)
        · have hf := sm_ifF c10 hf
          refine sm_iconst (v := 0) (by decide) d_sc_load_60 ?_
          exact w_sc_load_L61 l lo hi d hS ih _ _ _ _ _ e0 (sm_inner e0 0 rfl rfl rfl) hf
        · have hf := sm_ifT c10 hf
          refine sm_iconst (v := 1) (by decide) d_sc_load_56 ?_
          refine sm_goto 61 d_sc_load_57 rfl ?_
          exact w_sc_load_L61 l lo hi d hS ih _ _ _ _ _ e0 (sm_inner e0 0 rfl rfl rfl) hf
theorem m_sc_load (l : Launch) (lo hi d : Nat) (hS : sm_has lo hi) {a0 : Nat} {a1 : Int32} {r0 : Int32} {h h' : sm_H} (e0 : sm_at lo hi (0, 9, 0) a0) (hf : f_sc_load a0 a1 h = some (r0, h')) : sm_Met l lo hi (d + 50) q_sc_load [.ref a0, .int a1] h (some (.int r0)) h' := by
  refine sm_Met.of (by decide +kernel) rfl ?_
  show sm_W l lo hi (d + 50) q_sc_load 0 [(0, .ref a0), (1, .int a1)] [] h (some (.int r0)) h'
  unfold f_sc_load at hf
  refine sm_iload_n 1 rfl d_sc_load_0 ?_
  refine sm_if_lt 18 d_sc_load_1 rfl (fun c1 => ?_) (fun c1 => ?_)
  · have hf := sm_ifT c1 hf
    refine sm_sub [] rfl ?_
    exact w_sc_load_L18 l lo hi d hS _ hf
  · have hf := sm_ifF c1 hf
    refine sm_iload_n 1 rfl d_sc_load_4 ?_
    refine sm_aload_n 0 rfl d_sc_load_5 ?_
    refine sm_getR (n := 17) fl_sc_15 e0 rfl d_sc_load_6 ?_
    refine sm_getR (n := 1) fl_sc_42 (sm_inner e0 0 rfl rfl rfl) rfl d_sc_load_9 ?_
    refine sm_getI fl_sc_46 (sm_inner (sm_inner e0 0 rfl rfl rfl) 0 rfl rfl rfl) rfl d_sc_load_12 ?_
    refine sm_icmp_le 21 d_sc_load_15 rfl (fun c2 => ?_) (fun c2 => ?_)
    · have hf := sm_ifT c2 hf
      refine sm_aload_n 0 rfl d_sc_load_21 ?_
      refine sm_getR (n := 17) fl_sc_15 e0 rfl d_sc_load_22 ?_
      refine sm_iload_n 1 rfl d_sc_load_25 ?_
      obtain ⟨g3, c4, hf⟩ := sm_bindE hf
      refine sm_callV (As := [.int a1]) (rv := none) (h1 := g3) (c := 5) cvv_sc_56 rfl rfl (sm_inner e0 0 rfl rfl rfl) (m_re_begin l lo hi _ hS (sm_inner e0 0 rfl rfl rfl) c4) rfl rfl d_sc_load_26 ?_
      refine sm_iconst (v := 0) (by decide) d_sc_load_29 ?_
      refine sm_istore_n (lv' := [(2, .int 0), (0, .ref a0), (1, .int a1)]) d_sc_load_30 rfl rfl ?_
      refine sm_sub [1, 0] rfl ?_
      exact w_sc_load_L31 l lo hi d hS sm_N _ _ _ e0 hf
    · have hf := sm_ifF c2 hf
      refine sm_sub [] rfl ?_
      exact w_sc_load_L18 l lo hi d hS _ hf
