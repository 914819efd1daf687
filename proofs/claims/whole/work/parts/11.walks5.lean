theorem d_mo_load_0 : decode q_mo_load.2.1 0 = .ok (.iload_n 1, 1) := by decide +kernel
theorem d_mo_load_1 : decode q_mo_load.2.1 1 = .ok (.iconst 0, 1) := by decide +kernel
theorem d_mo_load_2 : decode q_mo_load.2.1 2 = .ok (.aload_n 0, 1) := by decide +kernel
theorem d_mo_load_3 : decode q_mo_load.2.1 3 = .ok (.getfield 95, 3) := by decide +kernel
theorem d_mo_load_6 : decode q_mo_load.2.1 6 = .ok (.invokestatic 91, 3) := by decide +kernel
theorem d_mo_load_9 : decode q_mo_load.2.1 9 = .ok (.ifCond .ne 6, 3) := by decide +kernel
theorem d_mo_load_12 : decode q_mo_load.2.1 12 = .ok (.bipush (-2), 2) := by decide +kernel
theorem d_mo_load_14 : decode q_mo_load.2.1 14 = .ok (.ireturn, 1) := by decide +kernel
theorem d_mo_load_15 : decode q_mo_load.2.1 15 = .ok (.aload_n 0, 1) := by decide +kernel
theorem d_mo_load_16 : decode q_mo_load.2.1 16 = .ok (.iload_n 1, 1) := by decide +kernel
theorem d_mo_load_17 : decode q_mo_load.2.1 17 = .ok (.putfield 105, 3) := by decide +kernel
theorem d_mo_load_20 : decode q_mo_load.2.1 20 = .ok (.aload_n 0, 1) := by decide +kernel
theorem d_mo_load_21 : decode q_mo_load.2.1 21 = .ok (.iconst 0, 1) := by decide +kernel
theorem d_mo_load_22 : decode q_mo_load.2.1 22 = .ok (.putfield 102, 3) := by decide +kernel
theorem d_mo_load_25 : decode q_mo_load.2.1 25 = .ok (.aload_n 0, 1) := by decide +kernel
theorem d_mo_load_26 : decode q_mo_load.2.1 26 = .ok (.iconst (-1), 1) := by decide +kernel
theorem d_mo_load_27 : decode q_mo_load.2.1 27 = .ok (.putfield 28, 3) := by decide +kernel
theorem d_mo_load_30 : decode q_mo_load.2.1 30 = .ok (.aload_n 0, 1) := by decide +kernel
theorem d_mo_load_31 : decode q_mo_load.2.1 31 = .ok (.invokevirtual 305, 3) := by decide +kernel
theorem d_mo_load_34 : decode q_mo_load.2.1 34 = .ok (.istore_n 2, 1) := by decide +kernel
theorem d_mo_load_35 : decode q_mo_load.2.1 35 = .ok (.aload_n 0, 1) := by decide +kernel
theorem d_mo_load_36 : decode q_mo_load.2.1 36 = .ok (.iconst 0, 1) := by decide +kernel
theorem d_mo_load_37 : decode q_mo_load.2.1 37 = .ok (.putfield 95, 3) := by decide +kernel
theorem d_mo_load_40 : decode q_mo_load.2.1 40 = .ok (.iload_n 2, 1) := by decide +kernel
theorem d_mo_load_41 : decode q_mo_load.2.1 41 = .ok (.ifCond .ne 6, 3) := by decide +kernel
theorem d_mo_load_44 : decode q_mo_load.2.1 44 = .ok (.bipush (-4), 2) := by decide +kernel
theorem d_mo_load_46 : decode q_mo_load.2.1 46 = .ok (.ireturn, 1) := by decide +kernel
theorem d_mo_load_47 : decode q_mo_load.2.1 47 = .ok (.iconst 0, 1) := by decide +kernel
theorem d_mo_load_48 : decode q_mo_load.2.1 48 = .ok (.istore_n 3, 1) := by decide +kernel
theorem d_mo_load_49 : decode q_mo_load.2.1 49 = .ok (.iload_n 3, 1) := by decide +kernel
theorem d_mo_load_50 : decode q_mo_load.2.1 50 = .ok (.sipush 1268, 3) := by decide +kernel
theorem d_mo_load_53 : decode q_mo_load.2.1 53 = .ok (.if_icmp .ge 21, 3) := by decide +kernel
theorem d_mo_load_56 : decode q_mo_load.2.1 56 = .ok (.aload_n 0, 1) := by decide +kernel
theorem d_mo_load_57 : decode q_mo_load.2.1 57 = .ok (.getfield 7, 3) := by decide +kernel
theorem d_mo_load_60 : decode q_mo_load.2.1 60 = .ok (.iload_n 3, 1) := by decide +kernel
theorem d_mo_load_61 : decode q_mo_load.2.1 61 = .ok (.aload_n 0, 1) := by decide +kernel
theorem d_mo_load_62 : decode q_mo_load.2.1 62 = .ok (.getfield 13, 3) := by decide +kernel
theorem d_mo_load_65 : decode q_mo_load.2.1 65 = .ok (.iload_n 3, 1) := by decide +kernel
theorem d_mo_load_66 : decode q_mo_load.2.1 66 = .ok (.iaload, 1) := by decide +kernel
theorem d_mo_load_67 : decode q_mo_load.2.1 67 = .ok (.iastore, 1) := by decide +kernel
theorem d_mo_load_68 : decode q_mo_load.2.1 68 = .ok (.iinc 3 1, 3) := by decide +kernel
theorem d_mo_load_71 : decode q_mo_load.2.1 71 = .ok (.goto (-22), 3) := by decide +kernel
theorem d_mo_load_74 : decode q_mo_load.2.1 74 = .ok (.aload_n 0, 1) := by decide +kernel
theorem d_mo_load_75 : decode q_mo_load.2.1 75 = .ok (.invokevirtual 70, 3) := by decide +kernel
theorem d_mo_load_78 : decode q_mo_load.2.1 78 = .ok (.aload_n 0, 1) := by decide +kernel
theorem d_mo_load_79 : decode q_mo_load.2.1 79 = .ok (.getfield 263, 3) := by decide +kernel
theorem d_mo_load_82 : decode q_mo_load.2.1 82 = .ok (.ireturn, 1) := by decide +kernel
theorem w_mo_load_L74 (l : Launch) (lo hi d : Nat) {h' : sm_H} {r0 : Int32} (a0 : Nat) (h : sm_H) (e0 : sm_at lo hi (0, 10, 0) a0) (hf : f_mo_load_L74 a0 h = some (r0, h')) : sm_W l lo hi (d + 9) q_mo_load 74 [(0, .ref a0)] [] h (some (.int r0)) h' := by
  unfold f_mo_load_L74 at hf
  refine sm_aload_n 0 rfl d_mo_load_74 ?_
  obtain ⟨g24, c25, hf⟩ := sm_bindE hf
  refine sm_callV (As := []) (rv := none) (h1 := g24) (c := 10) cvv_mo_70 rfl rfl e0 (m_mo_begin l lo hi _ e0 c25) rfl rfl d_mo_load_75 ?_
  refine sm_aload_n 0 rfl d_mo_load_78 ?_
  refine sm_getI fl_mo_263 e0 rfl d_mo_load_79 ?_
  obtain ⟨rfl, rfl⟩ := sm_ret2 hf
  exact sm_iret d_mo_load_82 rfl
theorem w_mo_load_L49 (l : Launch) (lo hi d : Nat) {h' : sm_H} {r0 : Int32} : ∀ (n : Nat) (a0 : Nat) (a3 : Int32) (h : sm_H) (e0 : sm_at lo hi (0, 10, 0) a0) (hf : f_mo_load_L49 n a0 a3 h = some (r0, h')), sm_W l lo hi (d + 9) q_mo_load 49 [(0, .ref a0), (3, .int a3)] [] h (some (.int r0)) h' := by
  intro n
  induction n with
  | zero =>
    intro a0 a3 h e0 hf
    have z : (none : Option (Int32 × sm_H)) = some _ := hf
    cases z
  | succ n ih =>
    intro a0 a3 h e0 hf
    unfold f_mo_load_L49 at hf
    refine sm_iload_n 1 rfl d_mo_load_49 ?_
    refine sm_sipush (v := 1268) (by decide) d_mo_load_50 ?_
    refine sm_icmp_ge 74 d_mo_load_53 rfl (fun c17 => ?_) (fun c17 => ?_)
    · have hf := sm_ifT c17 hf
      refine sm_sub [0] rfl ?_
      exact w_mo_load_L74 l lo hi d _ _ e0 hf
    · have hf := sm_ifF c17 hf
      refine sm_aload_n 0 rfl d_mo_load_56 ?_
      refine sm_getR (n := 1) fl_mo_7 e0 rfl d_mo_load_57 ?_
      refine sm_iload_n 1 rfl d_mo_load_60 ?_
      refine sm_aload_n 0 rfl d_mo_load_61 ?_
      refine sm_getR (n := 2) fl_mo_13 e0 rfl d_mo_load_62 ?_
      refine sm_iload_n 1 rfl d_mo_load_65 ?_
      obtain ⟨c18, hf⟩ := sm_gdE hf
      refine sm_iald (sm_at_arr (sm_inner e0 1 rfl rfl rfl)) c18 d_mo_load_66 ?_
      obtain ⟨c19, hf⟩ := sm_gdE hf
      refine sm_iast (sm_at_arr (sm_inner e0 0 rfl rfl rfl)) c19 d_mo_load_67 ?_
      refine sm_nmH (fun g20 w21 => ?_)
      have hf := sm_letV w21 hf
      obtain ⟨x22, w23⟩ : ∃ v : Int32, v = a3 + 1 := ⟨_, rfl⟩
      have hf := sm_letV w23 hf
      refine sm_iinc (v := x22) (lv' := [(3, .int x22), (0, .ref a0)]) 1 rfl (by rw [w23]; rfl) d_mo_load_68 rfl rfl ?_
      refine sm_goto 49 d_mo_load_71 rfl ?_
      refine sm_sub [1, 0] rfl ?_
      exact ih _ _ _ e0 hf
theorem m_mo_load (l : Launch) (lo hi d : Nat) {a0 : Nat} {a1 : Int32} {r0 : Int32} {h h' : sm_H} (e0 : sm_at lo hi (0, 10, 0) a0) (hf : f_mo_load a0 a1 h = some (r0, h')) : sm_Met l lo hi (d + 9) q_mo_load [.ref a0, .int a1] h (some (.int r0)) h' := by
  refine sm_Met.of (by decide +kernel) rfl ?_
  show sm_W l lo hi (d + 9) q_mo_load 0 [(0, .ref a0), (1, .int a1)] [] h (some (.int r0)) h'
  unfold f_mo_load at hf
  refine sm_iload_n 1 rfl d_mo_load_0 ?_
  refine sm_iconst (v := 0) (by decide) d_mo_load_1 ?_
  refine sm_aload_n 0 rfl d_mo_load_2 ?_
  refine sm_getI fl_mo_95 e0 rfl d_mo_load_3 ?_
  obtain ⟨r1, g2, c3, hf⟩ := sm_b2E hf
  refine sm_callS (As := [.int a1, .int 0, .int (h a0 9)]) (rv := some (.int r1)) (h1 := g2) cvs_mo_91 (m_mo_in l lo hi _ c3) rfl rfl d_mo_load_6 ?_
  refine sm_if_ne 15 d_mo_load_9 rfl (fun c4 => ?_) (fun c4 => ?_)
  · have hf := sm_ifF c4 hf
    refine sm_aload_n 0 rfl d_mo_load_15 ?_
    refine sm_iload_n 1 rfl d_mo_load_16 ?_
    refine sm_putI fp_mo_105 e0 rfl rfl d_mo_load_17 ?_
    refine sm_nmH (fun g5 w6 => ?_)
    have hf := sm_letV w6 hf
    refine sm_aload_n 0 rfl d_mo_load_20 ?_
    refine sm_iconst (v := 0) (by decide) d_mo_load_21 ?_
    refine sm_putI fp_mo_102 e0 rfl rfl d_mo_load_22 ?_
    refine sm_nmH (fun g7 w8 => ?_)
    have hf := sm_letV w8 hf
    refine sm_aload_n 0 rfl d_mo_load_25 ?_
    refine sm_iconst (v := (-1)) (by decide) d_mo_load_26 ?_
    refine sm_putI fp_mo_28 e0 rfl rfl d_mo_load_27 ?_
    refine sm_nmH (fun g9 w10 => ?_)
    have hf := sm_letV w10 hf
    refine sm_aload_n 0 rfl d_mo_load_30 ?_
    obtain ⟨r11, g12, c13, hf⟩ := sm_b2E hf
    refine sm_callV (As := []) (rv := some (.int r11)) (h1 := g12) (c := 10) cvv_mo_305 rfl rfl e0 (m_mo_readPlant l lo hi _ e0 c13) rfl rfl d_mo_load_31 ?_
    refine sm_istore_n (lv' := [(2, .int r11), (0, .ref a0), (1, .int a1)]) d_mo_load_34 rfl rfl ?_
    refine sm_aload_n 1 rfl d_mo_load_35 ?_
    refine sm_iconst (v := 0) (by decide) d_mo_load_36 ?_
    refine sm_putI fp_mo_95 e0 rfl rfl d_mo_load_37 ?_
    refine sm_nmH (fun g14 w15 => ?_)
    have hf := sm_letV w15 hf
    refine sm_iload_n 0 rfl d_mo_load_40 ?_
    refine sm_if_ne 47 d_mo_load_41 rfl (fun c16 => ?_) (fun c16 => ?_)
    · have hf := sm_ifF c16 hf
      refine sm_iconst (v := 0) (by decide) d_mo_load_47 ?_
      refine sm_istore_n (lv' := [(3, .int 0), (2, .int r11), (0, .ref a0), (1, .int a1)]) d_mo_load_48 rfl rfl ?_
      refine sm_sub [2, 0] rfl ?_
      exact w_mo_load_L49 l lo hi d sm_N _ _ _ e0 hf
    · have hf := sm_ifT c16 hf
      refine sm_bipush (v := (-4)) (by decide) d_mo_load_44 ?_
      obtain ⟨rfl, rfl⟩ := sm_ret2 hf
      exact sm_iret d_mo_load_46 rfl
  · have hf := sm_ifT c4 hf
    refine sm_bipush (v := (-2)) (by decide) d_mo_load_12 ?_
    obtain ⟨rfl, rfl⟩ := sm_ret2 hf
    exact sm_iret d_mo_load_14 rfl
theorem d_mo_count_0 : decode q_mo_count.2.1 0 = .ok (.iload_n 1, 1) := by decide +kernel
theorem d_mo_count_1 : decode q_mo_count.2.1 1 = .ok (.iconst 0, 1) := by decide +kernel
theorem d_mo_count_2 : decode q_mo_count.2.1 2 = .ok (.bipush 7, 2) := by decide +kernel
theorem d_mo_count_4 : decode q_mo_count.2.1 4 = .ok (.invokestatic 91, 3) := by decide +kernel
theorem d_mo_count_7 : decode q_mo_count.2.1 7 = .ok (.ifCond .eq 12, 3) := by decide +kernel
theorem d_mo_count_10 : decode q_mo_count.2.1 10 = .ok (.aload_n 0, 1) := by decide +kernel
theorem d_mo_count_11 : decode q_mo_count.2.1 11 = .ok (.getfield 7, 3) := by decide +kernel
theorem d_mo_count_14 : decode q_mo_count.2.1 14 = .ok (.iload_n 1, 1) := by decide +kernel
theorem d_mo_count_15 : decode q_mo_count.2.1 15 = .ok (.iaload, 1) := by decide +kernel
theorem d_mo_count_16 : decode q_mo_count.2.1 16 = .ok (.goto 5, 3) := by decide +kernel
theorem d_mo_count_19 : decode q_mo_count.2.1 19 = .ok (.bipush (-2), 2) := by decide +kernel
theorem d_mo_count_21 : decode q_mo_count.2.1 21 = .ok (.ireturn, 1) := by decide +kernel
theorem w_mo_count_L21 (l : Launch) (lo hi d : Nat) {h' : sm_H} {r0 : Int32} (s0 : Int32) (h : sm_H) (hf : f_mo_count_L21 s0 h = some (r0, h')) : sm_W l lo hi (d + 1) q_mo_count 21 [] [.int s0] h (some (.int r0)) h' := by
  unfold f_mo_count_L21 at hf
  obtain ⟨rfl, rfl⟩ := sm_ret2 hf
  exact sm_iret d_mo_count_21 rfl
theorem m_mo_count (l : Launch) (lo hi d : Nat) {a0 : Nat} {a1 : Int32} {r0 : Int32} {h h' : sm_H} (e0 : sm_at lo hi (0, 10, 0) a0) (hf : f_mo_count a0 a1 h = some (r0, h')) : sm_Met l lo hi (d + 1) q_mo_count [.ref a0, .int a1] h (some (.int r0)) h' := by
  refine sm_Met.of (by decide +kernel) rfl ?_
  show sm_W l lo hi (d + 1) q_mo_count 0 [(0, .ref a0), (1, .int a1)] [] h (some (.int r0)) h'
  unfold f_mo_count at hf
  refine sm_iload_n 1 rfl d_mo_count_0 ?_
  refine sm_iconst (v := 0) (by decide) d_mo_count_1 ?_
  refine sm_bipush (v := 7) (by decide) d_mo_count_2 ?_
  obtain ⟨r1, g2, c3, hf⟩ := sm_b2E hf
  refine sm_callS (As := [.int a1, .int 0, .int 7]) (rv := some (.int r1)) (h1 := g2) cvs_mo_91 (m_mo_in l lo hi _ c3) rfl rfl d_mo_count_4 ?_
  refine sm_if_eq 19 d_mo_count_7 rfl (fun c4 => ?_) (fun c4 => ?_)
  · have hf := sm_ifT c4 hf
    refine sm_bipush (v := (-2)) (by decide) d_mo_count_19 ?_
    refine sm_sub [] rfl ?_
    exact w_mo_count_L21 l lo hi d _ _ hf
  · have hf := sm_ifF c4 hf
    refine sm_aload_n 0 rfl d_mo_count_10 ?_
    refine sm_getR (n := 1) fl_mo_7 e0 rfl d_mo_count_11 ?_
    refine sm_iload_n 1 rfl d_mo_count_14 ?_
    obtain ⟨c5, hf⟩ := sm_gdE hf
    refine sm_iald (sm_at_arr (sm_inner e0 0 rfl rfl rfl)) c5 d_mo_count_15 ?_
    refine sm_goto 21 d_mo_count_16 rfl ?_
    refine sm_sub [] rfl ?_
    exact w_mo_count_L21 l lo hi d _ _ hf
theorem d_mo_isAlarm_0 : decode q_mo_isAlarm.2.1 0 = .ok (.aload_n 0, 1) := by decide +kernel
theorem d_mo_isAlarm_1 : decode q_mo_isAlarm.2.1 1 = .ok (.getfield 16, 3) := by decide +kernel
theorem d_mo_isAlarm_4 : decode q_mo_isAlarm.2.1 4 = .ok (.bipush 7, 2) := by decide +kernel
theorem d_mo_isAlarm_6 : decode q_mo_isAlarm.2.1 6 = .ok (.iaload, 1) := by decide +kernel
theorem d_mo_isAlarm_7 : decode q_mo_isAlarm.2.1 7 = .ok (.iconst (-1), 1) := by decide +kernel
theorem d_mo_isAlarm_8 : decode q_mo_isAlarm.2.1 8 = .ok (.if_icmp .eq 7, 3) := by decide +kernel
theorem d_mo_isAlarm_11 : decode q_mo_isAlarm.2.1 11 = .ok (.iconst 1, 1) := by decide +kernel
theorem d_mo_isAlarm_12 : decode q_mo_isAlarm.2.1 12 = .ok (.goto 4, 3) := by decide +kernel
theorem d_mo_isAlarm_15 : decode q_mo_isAlarm.2.1 15 = .ok (.iconst 0, 1) := by decide +kernel
theorem d_mo_isAlarm_16 : decode q_mo_isAlarm.2.1 16 = .ok (.ireturn, 1) := by decide +kernel
theorem w_mo_isAlarm_L16 (l : Launch) (lo hi d : Nat) {h' : sm_H} {r0 : Int32} (s0 : Int32) (h : sm_H) (hf : f_mo_isAlarm_L16 s0 h = some (r0, h')) : sm_W l lo hi (d) q_mo_isAlarm 16 [] [.int s0] h (some (.int r0)) h' := by
  unfold f_mo_isAlarm_L16 at hf
  obtain ⟨c3, hf⟩ := sm_gdE hf
  obtain ⟨rfl, rfl⟩ := sm_ret2 hf
  exact sm_bret c3 d_mo_isAlarm_16 rfl
theorem m_mo_isAlarm (l : Launch) (lo hi d : Nat) {a0 : Nat} {r0 : Int32} {h h' : sm_H} (e0 : sm_at lo hi (0, 10, 0) a0) (hf : f_mo_isAlarm a0 h = some (r0, h')) : sm_Met l lo hi (d) q_mo_isAlarm [.ref a0] h (some (.int r0)) h' := by
  refine sm_Met.of (by decide +kernel) rfl ?_
  show sm_W l lo hi (d) q_mo_isAlarm 0 [(0, .ref a0)] [] h (some (.int r0)) h'
  unfold f_mo_isAlarm at hf
  refine sm_aload_n 0 rfl d_mo_isAlarm_0 ?_
  refine sm_getR (n := 3) fl_mo_16 e0 rfl d_mo_isAlarm_1 ?_
  refine sm_bipush (v := 7) (by decide) d_mo_isAlarm_4 ?_
  obtain ⟨c1, hf⟩ := sm_gdE hf
  refine sm_iald (sm_at_arr (sm_inner e0 2 rfl rfl rfl)) c1 d_mo_isAlarm_6 ?_
  refine sm_iconst (v := (-1)) (by decide) d_mo_isAlarm_7 ?_
  refine sm_icmp_eq 15 d_mo_isAlarm_8 rfl (fun c2 => ?_) (fun c2 => ?_)
  · have hf := sm_ifT c2 hf
    refine sm_iconst (v := 0) (by decide) d_mo_isAlarm_15 ?_
    refine sm_sub [] rfl ?_
    exact w_mo_isAlarm_L16 l lo hi d _ _ hf
  · have hf := sm_ifF c2 hf
    refine sm_iconst (v := 1) (by decide) d_mo_isAlarm_11 ?_
    refine sm_goto 16 d_mo_isAlarm_12 rfl ?_
    refine sm_sub [] rfl ?_
    exact w_mo_isAlarm_L16 l lo hi d _ _ hf
theorem d_mo_isTrouble_0 : decode q_mo_isTrouble.2.1 0 = .ok (.aload_n 0, 1) := by decide +kernel
theorem d_mo_isTrouble_1 : decode q_mo_isTrouble.2.1 1 = .ok (.getfield 16, 3) := by decide +kernel
theorem d_mo_isTrouble_4 : decode q_mo_isTrouble.2.1 4 = .ok (.bipush 6, 2) := by decide +kernel
theorem d_mo_isTrouble_6 : decode q_mo_isTrouble.2.1 6 = .ok (.iaload, 1) := by decide +kernel
theorem d_mo_isTrouble_7 : decode q_mo_isTrouble.2.1 7 = .ok (.iconst 1, 1) := by decide +kernel
theorem d_mo_isTrouble_8 : decode q_mo_isTrouble.2.1 8 = .ok (.if_icmp .ne 7, 3) := by decide +kernel
theorem d_mo_isTrouble_11 : decode q_mo_isTrouble.2.1 11 = .ok (.iconst 1, 1) := by decide +kernel
theorem d_mo_isTrouble_12 : decode q_mo_isTrouble.2.1 12 = .ok (.goto 4, 3) := by decide +kernel
theorem d_mo_isTrouble_15 : decode q_mo_isTrouble.2.1 15 = .ok (.iconst 0, 1) := by decide +kernel
theorem d_mo_isTrouble_16 : decode q_mo_isTrouble.2.1 16 = .ok (.istore_n 1, 1) := by decide +kernel
theorem d_mo_isTrouble_17 : decode q_mo_isTrouble.2.1 17 = .ok (.iconst 0, 1) := by decide +kernel
theorem d_mo_isTrouble_18 : decode q_mo_isTrouble.2.1 18 = .ok (.istore_n 2, 1) := by decide +kernel
theorem d_mo_isTrouble_19 : decode q_mo_isTrouble.2.1 19 = .ok (.iload_n 2, 1) := by decide +kernel
theorem d_mo_isTrouble_20 : decode q_mo_isTrouble.2.1 20 = .ok (.aload_n 0, 1) := by decide +kernel
theorem d_mo_isTrouble_21 : decode q_mo_isTrouble.2.1 21 = .ok (.getfield 7, 3) := by decide +kernel
theorem d_mo_isTrouble_24 : decode q_mo_isTrouble.2.1 24 = .ok (.iconst 1, 1) := by decide +kernel
theorem d_mo_isTrouble_25 : decode q_mo_isTrouble.2.1 25 = .ok (.iaload, 1) := by decide +kernel
theorem d_mo_isTrouble_26 : decode q_mo_isTrouble.2.1 26 = .ok (.if_icmp .ge 30, 3) := by decide +kernel
theorem d_mo_isTrouble_29 : decode q_mo_isTrouble.2.1 29 = .ok (.iload_n 1, 1) := by decide +kernel
theorem d_mo_isTrouble_30 : decode q_mo_isTrouble.2.1 30 = .ok (.ifCond .ne 14, 3) := by decide +kernel
theorem d_mo_isTrouble_33 : decode q_mo_isTrouble.2.1 33 = .ok (.aload_n 0, 1) := by decide +kernel
theorem d_mo_isTrouble_34 : decode q_mo_isTrouble.2.1 34 = .ok (.iload_n 2, 1) := by decide +kernel
theorem d_mo_isTrouble_35 : decode q_mo_isTrouble.2.1 35 = .ok (.bipush 6, 2) := by decide +kernel
theorem d_mo_isTrouble_37 : decode q_mo_isTrouble.2.1 37 = .ok (.invokevirtual 308, 3) := by decide +kernel
theorem d_mo_isTrouble_40 : decode q_mo_isTrouble.2.1 40 = .ok (.iconst 1, 1) := by decide +kernel
theorem d_mo_isTrouble_41 : decode q_mo_isTrouble.2.1 41 = .ok (.if_icmp .ne 7, 3) := by decide +kernel
theorem d_mo_isTrouble_44 : decode q_mo_isTrouble.2.1 44 = .ok (.iconst 1, 1) := by decide +kernel
theorem d_mo_isTrouble_45 : decode q_mo_isTrouble.2.1 45 = .ok (.goto 4, 3) := by decide +kernel
theorem d_mo_isTrouble_48 : decode q_mo_isTrouble.2.1 48 = .ok (.iconst 0, 1) := by decide +kernel
theorem d_mo_isTrouble_49 : decode q_mo_isTrouble.2.1 49 = .ok (.istore_n 1, 1) := by decide +kernel
theorem d_mo_isTrouble_50 : decode q_mo_isTrouble.2.1 50 = .ok (.iinc 2 1, 3) := by decide +kernel
theorem d_mo_isTrouble_53 : decode q_mo_isTrouble.2.1 53 = .ok (.goto (-34), 3) := by decide +kernel
theorem d_mo_isTrouble_56 : decode q_mo_isTrouble.2.1 56 = .ok (.iconst 0, 1) := by decide +kernel
theorem d_mo_isTrouble_57 : decode q_mo_isTrouble.2.1 57 = .ok (.istore_n 2, 1) := by decide +kernel
theorem d_mo_isTrouble_58 : decode q_mo_isTrouble.2.1 58 = .ok (.iload_n 2, 1) := by decide +kernel
theorem d_mo_isTrouble_59 : decode q_mo_isTrouble.2.1 59 = .ok (.aload_n 0, 1) := by decide +kernel
theorem d_mo_isTrouble_60 : decode q_mo_isTrouble.2.1 60 = .ok (.getfield 7, 3) := by decide +kernel
theorem d_mo_isTrouble_63 : decode q_mo_isTrouble.2.1 63 = .ok (.iconst 2, 1) := by decide +kernel
theorem d_mo_isTrouble_64 : decode q_mo_isTrouble.2.1 64 = .ok (.iaload, 1) := by decide +kernel
theorem d_mo_isTrouble_65 : decode q_mo_isTrouble.2.1 65 = .ok (.if_icmp .ge 29, 3) := by decide +kernel
theorem d_mo_isTrouble_68 : decode q_mo_isTrouble.2.1 68 = .ok (.iload_n 1, 1) := by decide +kernel
theorem d_mo_isTrouble_69 : decode q_mo_isTrouble.2.1 69 = .ok (.ifCond .ne 13, 3) := by decide +kernel
theorem d_mo_isTrouble_72 : decode q_mo_isTrouble.2.1 72 = .ok (.aload_n 0, 1) := by decide +kernel
theorem d_mo_isTrouble_73 : decode q_mo_isTrouble.2.1 73 = .ok (.iload_n 2, 1) := by decide +kernel
theorem d_mo_isTrouble_74 : decode q_mo_isTrouble.2.1 74 = .ok (.iconst 5, 1) := by decide +kernel
theorem d_mo_isTrouble_75 : decode q_mo_isTrouble.2.1 75 = .ok (.invokevirtual 311, 3) := by decide +kernel
theorem d_mo_isTrouble_78 : decode q_mo_isTrouble.2.1 78 = .ok (.iconst 1, 1) := by decide +kernel
theorem d_mo_isTrouble_79 : decode q_mo_isTrouble.2.1 79 = .ok (.if_icmp .ne 7, 3) := by decide +kernel
theorem d_mo_isTrouble_82 : decode q_mo_isTrouble.2.1 82 = .ok (.iconst 1, 1) := by decide +kernel
theorem d_mo_isTrouble_83 : decode q_mo_isTrouble.2.1 83 = .ok (.goto 4, 3) := by decide +kernel
theorem d_mo_isTrouble_86 : decode q_mo_isTrouble.2.1 86 = .ok (.iconst 0, 1) := by decide +kernel
theorem d_mo_isTrouble_87 : decode q_mo_isTrouble.2.1 87 = .ok (.istore_n 1, 1) := by decide +kernel
theorem d_mo_isTrouble_88 : decode q_mo_isTrouble.2.1 88 = .ok (.iinc 2 1, 3) := by decide +kernel
theorem d_mo_isTrouble_91 : decode q_mo_isTrouble.2.1 91 = .ok (.goto (-33), 3) := by decide +kernel
theorem d_mo_isTrouble_94 : decode q_mo_isTrouble.2.1 94 = .ok (.iload_n 1, 1) := by decide +kernel
theorem d_mo_isTrouble_95 : decode q_mo_isTrouble.2.1 95 = .ok (.ireturn, 1) := by decide +kernel
theorem w_mo_isTrouble_L94 (l : Launch) (lo hi d : Nat) {h' : sm_H} {r0 : Int32} (a1 : Int32) (h : sm_H) (hf : f_mo_isTrouble_L94 a1 h = some (r0, h')) : sm_W l lo hi (d + 1) q_mo_isTrouble 94 [(1, .int a1)] [] h (some (.int r0)) h' := by
  unfold f_mo_isTrouble_L94 at hf
  refine sm_iload_n 0 rfl d_mo_isTrouble_94 ?_
  obtain ⟨c21, hf⟩ := sm_gdE hf
  obtain ⟨rfl, rfl⟩ := sm_ret2 hf
  exact sm_bret c21 d_mo_isTrouble_95 rfl
theorem w_mo_isTrouble_L87 (l : Launch) (lo hi d : Nat) {k58 : Nat → Int32 → Int32 → sm_H → Option (Int32 × sm_H)} {h' : sm_H} {r0 : Int32} (hk58 : ∀ (a0 : Nat) (a1 : Int32) (a2 : Int32) (h : sm_H) (_ : sm_at lo hi (0, 10, 0) a0) , k58 a0 a1 a2 h = some (r0, h') → sm_W l lo hi (d + 1) q_mo_isTrouble 58 [(0, .ref a0), (1, .int a1), (2, .int a2)] [] h (some (.int r0)) h') (a0 : Nat) (a2 : Int32) (s0 : Int32) (h : sm_H) (e0 : sm_at lo hi (0, 10, 0) a0) (hf : f_mo_isTrouble_L87 k58 a0 a2 s0 h = some (r0, h')) : sm_W l lo hi (d + 1) q_mo_isTrouble 87 [(0, .ref a0), (2, .int a2)] [.int s0] h (some (.int r0)) h' := by
  unfold f_mo_isTrouble_L87 at hf
  refine sm_istore_n (lv' := [(1, .int s0), (0, .ref a0), (2, .int a2)]) d_mo_isTrouble_87 rfl rfl ?_
  obtain ⟨x19, w20⟩ : ∃ v : Int32, v = a2 + 1 := ⟨_, rfl⟩
  have hf := sm_letV w20 hf
  refine sm_iinc (v := x19) (lv' := [(2, .int x19), (1, .int s0), (0, .ref a0)]) 2 rfl (by rw [w20]; rfl) d_mo_isTrouble_88 rfl rfl ?_
  refine sm_goto 58 d_mo_isTrouble_91 rfl ?_
  refine sm_sub [2, 1, 0] rfl ?_
  exact hk58 _ _ _ _ e0 hf
theorem w_mo_isTrouble_L82 (l : Launch) (lo hi d : Nat) {k58 : Nat → Int32 → Int32 → sm_H → Option (Int32 × sm_H)} {h' : sm_H} {r0 : Int32} (hk58 : ∀ (a0 : Nat) (a1 : Int32) (a2 : Int32) (h : sm_H) (_ : sm_at lo hi (0, 10, 0) a0) , k58 a0 a1 a2 h = some (r0, h') → sm_W l lo hi (d + 1) q_mo_isTrouble 58 [(0, .ref a0), (1, .int a1), (2, .int a2)] [] h (some (.int r0)) h') (a0 : Nat) (a2 : Int32) (h : sm_H) (e0 : sm_at lo hi (0, 10, 0) a0) (hf : f_mo_isTrouble_L82 k58 a0 a2 h = some (r0, h')) : sm_W l lo hi (d + 1) q_mo_isTrouble 82 [(0, .ref a0), (2, .int a2)] [] h (some (.int r0)) h' := by
  unfold f_mo_isTrouble_L82 at hf
  refine sm_iconst (v := 1) (by decide) d_mo_isTrouble_82 ?_
  refine sm_goto 87 d_mo_isTrouble_83 rfl ?_
  exact w_mo_isTrouble_L87 l lo hi d hk58 _ _ _ _ e0 hf
theorem w_mo_isTrouble_L58 (l : Launch) (lo hi d : Nat) {h' : sm_H} {r0 : Int32} : ∀ (n : Nat) (a0 : Nat) (a1 : Int32) (a2 : Int32) (h : sm_H) (e0 : sm_at lo hi (0, 10, 0) a0) (hf : f_mo_isTrouble_L58 n a0 a1 a2 h = some (r0, h')), sm_W l lo hi (d + 1) q_mo_isTrouble 58 [(0, .ref a0), (1, .int a1), (2, .int a2)] [] h (some (.int r0)) h' := by
  intro n
  induction n with
  | zero =>
    intro a0 a1 a2 h e0 hf
    have z : (none : Option (Int32 × sm_H)) = some _ := hf
    cases z
  | succ n ih =>
    intro a0 a1 a2 h e0 hf
    unfold f_mo_isTrouble_L58 at hf
    refine sm_iload_n 2 rfl d_mo_isTrouble_58 ?_
    refine sm_aload_n 0 rfl d_mo_isTrouble_59 ?_
    refine sm_getR (n := 1) fl_mo_7 e0 rfl d_mo_isTrouble_60 ?_
    refine sm_iconst (v := 2) (by decide) d_mo_isTrouble_63 ?_
    obtain ⟨c12, hf⟩ := sm_gdE hf
    refine sm_iald (sm_at_arr (sm_inner e0 0 rfl rfl rfl)) c12 d_mo_isTrouble_64 ?_
    refine sm_icmp_ge 94 d_mo_isTrouble_65 rfl (fun c13 => ?_) (fun c13 => ?_)
    · have hf := sm_ifT c13 hf
      refine sm_sub [1] rfl ?_
      exact w_mo_isTrouble_L94 l lo hi d _ _ hf
    · have hf := sm_ifF c13 hf
      refine sm_iload_n 1 rfl d_mo_isTrouble_68 ?_
      refine sm_if_ne 82 d_mo_isTrouble_69 rfl (fun c14 => ?_) (fun c14 => ?_)
      · have hf := sm_ifF c14 hf
        refine sm_sub [0, 2] rfl ?_
        exact w_mo_isTrouble_L82 l lo hi d ih _ _ _ e0 hf
      · have hf := sm_ifT c14 hf
        refine sm_aload_n 0 rfl d_mo_isTrouble_72 ?_
        refine sm_iload_n 2 rfl d_mo_isTrouble_73 ?_
        refine sm_iconst (v := 5) (by decide) d_mo_isTrouble_74 ?_
        obtain ⟨r15, g16, c17, hf⟩ := sm_b2E hf
        refine sm_callV (As := [.int a2, .int 5]) (rv := some (.int r15)) (h1 := g16) (c := 10) cvv_mo_311 rfl rfl e0 (m_mo_fanIs l lo hi _ e0 c17) rfl rfl d_mo_isTrouble_75 ?_
        refine sm_iconst (v := 1) (by decide) d_mo_isTrouble_78 ?_
        refine sm_icmp_ne 86 d_mo_isTrouble_79 rfl (fun c18 => ?_) (fun c18 => ?_)
        · have hf := sm_ifF c18 hf
          refine sm_iconst (v := 0) (by decide) d_mo_isTrouble_86 ?_
          refine sm_sub [0, 2] rfl ?_
          exact w_mo_isTrouble_L87 l lo hi d ih _ _ _ _ e0 hf
        · have hf := sm_ifT c18 hf
          refine sm_sub [0, 2] rfl ?_
          exact w_mo_isTrouble_L82 l lo hi d ih _ _ _ e0 hf
theorem w_mo_isTrouble_L56 (l : Launch) (lo hi d : Nat) {h' : sm_H} {r0 : Int32} (a0 : Nat) (a1 : Int32) (h : sm_H) (e0 : sm_at lo hi (0, 10, 0) a0) (hf : f_mo_isTrouble_L56 a0 a1 h = some (r0, h')) : sm_W l lo hi (d + 1) q_mo_isTrouble 56 [(0, .ref a0), (1, .int a1)] [] h (some (.int r0)) h' := by
  unfold f_mo_isTrouble_L56 at hf
  refine sm_iconst (v := 0) (by decide) d_mo_isTrouble_56 ?_
  refine sm_istore_n (lv' := [(2, .int 0), (0, .ref a0), (1, .int a1)]) d_mo_isTrouble_57 rfl rfl ?_
  refine sm_sub [1, 2, 0] rfl ?_
  exact w_mo_isTrouble_L58 l lo hi d sm_N _ _ _ _ e0 hf
theorem w_mo_isTrouble_L49 (l : Launch) (lo hi d : Nat) {k19 : Nat → Int32 → Int32 → sm_H → Option (Int32 × sm_H)} {h' : sm_H} {r0 : Int32} (hk19 : ∀ (a0 : Nat) (a1 : Int32) (a2 : Int32) (h : sm_H) (_ : sm_at lo hi (0, 10, 0) a0) , k19 a0 a1 a2 h = some (r0, h') → sm_W l lo hi (d + 1) q_mo_isTrouble 19 [(0, .ref a0), (1, .int a1), (2, .int a2)] [] h (some (.int r0)) h') (a0 : Nat) (a2 : Int32) (s0 : Int32) (h : sm_H) (e0 : sm_at lo hi (0, 10, 0) a0) (hf : f_mo_isTrouble_L49 k19 a0 a2 s0 h = some (r0, h')) : sm_W l lo hi (d + 1) q_mo_isTrouble 49 [(0, .ref a0), (2, .int a2)] [.int s0] h (some (.int r0)) h' := by
  unfold f_mo_isTrouble_L49 at hf
  refine sm_istore_n (lv' := [(1, .int s0), (0, .ref a0), (2, .int a2)]) d_mo_isTrouble_49 rfl rfl ?_
  obtain ⟨x10, w11⟩ : ∃ v : Int32, v = a2 + 1 := ⟨_, rfl⟩
  have hf := sm_letV w11 hf
  refine sm_iinc (v := x10) (lv' := [(2, .int x10), (1, .int s0), (0, .ref a0)]) 2 rfl (by rw [w11]; rfl) d_mo_isTrouble_50 rfl rfl ?_
  refine sm_goto 19 d_mo_isTrouble_53 rfl ?_
  refine sm_sub [2, 1, 0] rfl ?_
  exact hk19 _ _ _ _ e0 hf
theorem w_mo_isTrouble_L44 (l : Launch) (lo hi d : Nat) {k19 : Nat → Int32 → Int32 → sm_H → Option (Int32 × sm_H)} {h' : sm_H} {r0 : Int32} (hk19 : ∀ (a0 : Nat) (a1 : Int32) (a2 : Int32) (h : sm_H) (_ : sm_at lo hi (0, 10, 0) a0) , k19 a0 a1 a2 h = some (r0, h') → sm_W l lo hi (d + 1) q_mo_isTrouble 19 [(0, .ref a0), (1, .int a1), (2, .int a2)] [] h (some (.int r0)) h') (a0 : Nat) (a2 : Int32) (h : sm_H) (e0 : sm_at lo hi (0, 10, 0) a0) (hf : f_mo_isTrouble_L44 k19 a0 a2 h = some (r0, h')) : sm_W l lo hi (d + 1) q_mo_isTrouble 44 [(0, .ref a0), (2, .int a2)] [] h (some (.int r0)) h' := by
  unfold f_mo_isTrouble_L44 at hf
  refine sm_iconst (v := 1) (by decide) d_mo_isTrouble_44 ?_
  refine sm_goto 49 d_mo_isTrouble_45 rfl ?_
  exact w_mo_isTrouble_L49 l lo hi d hk19 _ _ _ _ e0 hf
theorem w_mo_isTrouble_L19 (l : Launch) (lo hi d : Nat) {h' : sm_H} {r0 : Int32} : ∀ (n : Nat) (a0 : Nat) (a1 : Int32) (a2 : Int32) (h : sm_H) (e0 : sm_at lo hi (0, 10, 0) a0) (hf : f_mo_isTrouble_L19 n a0 a1 a2 h = some (r0, h')), sm_W l lo hi (d + 1) q_mo_isTrouble 19 [(0, .ref a0), (1, .int a1), (2, .int a2)] [] h (some (.int r0)) h' := by
  intro n
  induction n with
  | zero =>
    intro a0 a1 a2 h e0 hf
    have z : (none : Option (Int32 × sm_H)) = some _ := hf
    cases z
  | succ n ih =>
    intro a0 a1 a2 h e0 hf
    unfold f_mo_isTrouble_L19 at hf
    refine sm_iload_n 2 rfl d_mo_isTrouble_19 ?_
    refine sm_aload_n 0 rfl d_mo_isTrouble_20 ?_
    refine sm_getR (n := 1) fl_mo_7 e0 rfl d_mo_isTrouble_21 ?_
    refine sm_iconst (v := 1) (by decide) d_mo_isTrouble_24 ?_
    obtain ⟨c3, hf⟩ := sm_gdE hf
    refine sm_iald (sm_at_arr (sm_inner e0 0 rfl rfl rfl)) c3 d_mo_isTrouble_25 ?_
    refine sm_icmp_ge 56 d_mo_isTrouble_26 rfl (fun c4 => ?_) (fun c4 => ?_)
    · have hf := sm_ifT c4 hf
      refine sm_sub [0, 1] rfl ?_
      exact w_mo_isTrouble_L56 l lo hi d _ _ _ e0 hf
    · have hf := sm_ifF c4 hf
      refine sm_iload_n 1 rfl d_mo_isTrouble_29 ?_
      refine sm_if_ne 44 d_mo_isTrouble_30 rfl (fun c5 => ?_) (fun c5 => ?_)
      · have hf := sm_ifF c5 hf
        refine sm_sub [0, 2] rfl ?_
        exact w_mo_isTrouble_L44 l lo hi d ih _ _ _ e0 hf
      · have hf := sm_ifT c5 hf
        refine sm_aload_n 0 rfl d_mo_isTrouble_33 ?_
        refine sm_iload_n 2 rfl d_mo_isTrouble_34 ?_
        refine sm_bipush (v := 6) (by decide) d_mo_isTrouble_35 ?_
        obtain ⟨r6, g7, c8, hf⟩ := sm_b2E hf
        refine sm_callV (As := [.int a2, .int 6]) (rv := some (.int r6)) (h1 := g7) (c := 10) cvv_mo_308 rfl rfl e0 (m_mo_damperIs l lo hi _ e0 c8) rfl rfl d_mo_isTrouble_37 ?_
        refine sm_iconst (v := 1) (by decide) d_mo_isTrouble_40 ?_
        refine sm_icmp_ne 48 d_mo_isTrouble_41 rfl (fun c9 => ?_) (fun c9 => ?_)
        · have hf := sm_ifF c9 hf
          refine sm_iconst (v := 0) (by decide) d_mo_isTrouble_48 ?_
          refine sm_sub [0, 2] rfl ?_
          exact w_mo_isTrouble_L49 l lo hi d ih _ _ _ _ e0 hf
        · have hf := sm_ifT c9 hf
          refine sm_sub [0, 2] rfl ?_
          exact w_mo_isTrouble_L44 l lo hi d ih _ _ _ e0 hf
theorem w_mo_isTrouble_L16 (l : Launch) (lo hi d : Nat) {h' : sm_H} {r0 : Int32} (a0 : Nat) (s0 : Int32) (h : sm_H) (e0 : sm_at lo hi (0, 10, 0) a0) (hf : f_mo_isTrouble_L16 a0 s0 h = some (r0, h')) : sm_W l lo hi (d + 1) q_mo_isTrouble 16 [(0, .ref a0)] [.int s0] h (some (.int r0)) h' := by
  unfold f_mo_isTrouble_L16 at hf
  refine sm_istore_n (lv' := [(1, .int s0), (0, .ref a0)]) d_mo_isTrouble_16 rfl rfl ?_
  refine sm_iconst (v := 0) (by decide) d_mo_isTrouble_17 ?_
  refine sm_istore_n (lv' := [(2, .int 0), (1, .int s0), (0, .ref a0)]) d_mo_isTrouble_18 rfl rfl ?_
  refine sm_sub [2, 1, 0] rfl ?_
  exact w_mo_isTrouble_L19 l lo hi d sm_N _ _ _ _ e0 hf
theorem m_mo_isTrouble (l : Launch) (lo hi d : Nat) {a0 : Nat} {r0 : Int32} {h h' : sm_H} (e0 : sm_at lo hi (0, 10, 0) a0) (hf : f_mo_isTrouble a0 h = some (r0, h')) : sm_Met l lo hi (d + 1) q_mo_isTrouble [.ref a0] h (some (.int r0)) h' := by
  refine sm_Met.of (by decide +kernel) rfl ?_
  show sm_W l lo hi (d + 1) q_mo_isTrouble 0 [(0, .ref a0)] [] h (some (.int r0)) h'
  unfold f_mo_isTrouble at hf
  refine sm_aload_n 0 rfl d_mo_isTrouble_0 ?_
  refine sm_getR (n := 3) fl_mo_16 e0 rfl d_mo_isTrouble_1 ?_
  refine sm_bipush (v := 6) (by decide) d_mo_isTrouble_4 ?_
  obtain ⟨c1, hf⟩ := sm_gdE hf
  refine sm_iald (sm_at_arr (sm_inner e0 2 rfl rfl rfl)) c1 d_mo_isTrouble_6 ?_
  refine sm_iconst (v := 1) (by decide) d_mo_isTrouble_7 ?_
  refine sm_icmp_ne 15 d_mo_isTrouble_8 rfl (fun c2 => ?_) (fun c2 => ?_)
  · have hf := sm_ifF c2 hf
    refine sm_iconst (v := 0) (by decide) d_mo_isTrouble_15 ?_
    exact w_mo_isTrouble_L16 l lo hi d _ _ _ e0 hf
  · have hf := sm_ifT c2 hf
    refine sm_iconst (v := 1) (by decide) d_mo_isTrouble_11 ?_
    refine sm_goto 16 d_mo_isTrouble_12 rfl ?_
    exact w_mo_isTrouble_L16 l lo hi d _ _ _ e0 hf
theorem d_mo_holds_0 : decode q_mo_holds.2.1 0 = .ok (.iload_n 1, 1) := by decide +kernel
theorem d_mo_holds_1 : decode q_mo_holds.2.1 1 = .ok (.tableswitch 140 0 4 #[35, 51, 68, 88, 119], 35) := by decide +kernel
theorem d_mo_holds_36 : decode q_mo_holds.2.1 36 = .ok (.aload_n 0, 1) := by decide +kernel
theorem d_mo_holds_37 : decode q_mo_holds.2.1 37 = .ok (.iload_n 2, 1) := by decide +kernel
theorem d_mo_holds_38 : decode q_mo_holds.2.1 38 = .ok (.iconst 2, 1) := by decide +kernel
theorem d_mo_holds_39 : decode q_mo_holds.2.1 39 = .ok (.invokevirtual 314, 3) := by decide +kernel
theorem d_mo_holds_42 : decode q_mo_holds.2.1 42 = .ok (.iconst 1, 1) := by decide +kernel
theorem d_mo_holds_43 : decode q_mo_holds.2.1 43 = .ok (.if_icmp .ne 7, 3) := by decide +kernel
theorem d_mo_holds_46 : decode q_mo_holds.2.1 46 = .ok (.iconst 1, 1) := by decide +kernel
theorem d_mo_holds_47 : decode q_mo_holds.2.1 47 = .ok (.goto 4, 3) := by decide +kernel
theorem d_mo_holds_50 : decode q_mo_holds.2.1 50 = .ok (.iconst 0, 1) := by decide +kernel
theorem d_mo_holds_51 : decode q_mo_holds.2.1 51 = .ok (.ireturn, 1) := by decide +kernel
theorem d_mo_holds_52 : decode q_mo_holds.2.1 52 = .ok (.aload_n 0, 1) := by decide +kernel
theorem d_mo_holds_53 : decode q_mo_holds.2.1 53 = .ok (.getfield 16, 3) := by decide +kernel
theorem d_mo_holds_56 : decode q_mo_holds.2.1 56 = .ok (.bipush 7, 2) := by decide +kernel
theorem d_mo_holds_58 : decode q_mo_holds.2.1 58 = .ok (.iaload, 1) := by decide +kernel
theorem d_mo_holds_59 : decode q_mo_holds.2.1 59 = .ok (.iload_n 2, 1) := by decide +kernel
theorem d_mo_holds_60 : decode q_mo_holds.2.1 60 = .ok (.if_icmp .ne 7, 3) := by decide +kernel
theorem d_mo_holds_63 : decode q_mo_holds.2.1 63 = .ok (.iconst 1, 1) := by decide +kernel
theorem d_mo_holds_64 : decode q_mo_holds.2.1 64 = .ok (.goto 4, 3) := by decide +kernel
theorem d_mo_holds_67 : decode q_mo_holds.2.1 67 = .ok (.iconst 0, 1) := by decide +kernel
theorem d_mo_holds_68 : decode q_mo_holds.2.1 68 = .ok (.ireturn, 1) := by decide +kernel
theorem d_mo_holds_69 : decode q_mo_holds.2.1 69 = .ok (.aload_n 0, 1) := by decide +kernel
theorem d_mo_holds_70 : decode q_mo_holds.2.1 70 = .ok (.getfield 16, 3) := by decide +kernel
theorem d_mo_holds_73 : decode q_mo_holds.2.1 73 = .ok (.sipush 190, 3) := by decide +kernel
theorem d_mo_holds_76 : decode q_mo_holds.2.1 76 = .ok (.iload_n 2, 1) := by decide +kernel
theorem d_mo_holds_77 : decode q_mo_holds.2.1 77 = .ok (.iadd, 1) := by decide +kernel
theorem d_mo_holds_78 : decode q_mo_holds.2.1 78 = .ok (.iaload, 1) := by decide +kernel
theorem d_mo_holds_79 : decode q_mo_holds.2.1 79 = .ok (.iconst 1, 1) := by decide +kernel
theorem d_mo_holds_80 : decode q_mo_holds.2.1 80 = .ok (.if_icmp .ne 7, 3) := by decide +kernel
theorem d_mo_holds_83 : decode q_mo_holds.2.1 83 = .ok (.iconst 1, 1) := by decide +kernel
theorem d_mo_holds_84 : decode q_mo_holds.2.1 84 = .ok (.goto 4, 3) := by decide +kernel
theorem d_mo_holds_87 : decode q_mo_holds.2.1 87 = .ok (.iconst 0, 1) := by decide +kernel
theorem d_mo_holds_88 : decode q_mo_holds.2.1 88 = .ok (.ireturn, 1) := by decide +kernel
theorem d_mo_holds_89 : decode q_mo_holds.2.1 89 = .ok (.aload_n 0, 1) := by decide +kernel
theorem d_mo_holds_90 : decode q_mo_holds.2.1 90 = .ok (.invokevirtual 317, 3) := by decide +kernel
theorem d_mo_holds_93 : decode q_mo_holds.2.1 93 = .ok (.ifCond .eq 25, 3) := by decide +kernel
theorem d_mo_holds_96 : decode q_mo_holds.2.1 96 = .ok (.aload_n 0, 1) := by decide +kernel
theorem d_mo_holds_97 : decode q_mo_holds.2.1 97 = .ok (.getfield 16, 3) := by decide +kernel
theorem d_mo_holds_100 : decode q_mo_holds.2.1 100 = .ok (.iconst 0, 1) := by decide +kernel
theorem d_mo_holds_101 : decode q_mo_holds.2.1 101 = .ok (.iaload, 1) := by decide +kernel
theorem d_mo_holds_102 : decode q_mo_holds.2.1 102 = .ok (.aload_n 0, 1) := by decide +kernel
theorem d_mo_holds_103 : decode q_mo_holds.2.1 103 = .ok (.getfield 16, 3) := by decide +kernel
theorem d_mo_holds_106 : decode q_mo_holds.2.1 106 = .ok (.bipush 8, 2) := by decide +kernel
theorem d_mo_holds_108 : decode q_mo_holds.2.1 108 = .ok (.iaload, 1) := by decide +kernel
theorem d_mo_holds_109 : decode q_mo_holds.2.1 109 = .ok (.isub, 1) := by decide +kernel
theorem d_mo_holds_110 : decode q_mo_holds.2.1 110 = .ok (.iload_n 2, 1) := by decide +kernel
theorem d_mo_holds_111 : decode q_mo_holds.2.1 111 = .ok (.if_icmp .lt 7, 3) := by decide +kernel
theorem d_mo_holds_114 : decode q_mo_holds.2.1 114 = .ok (.iconst 1, 1) := by decide +kernel
theorem d_mo_holds_115 : decode q_mo_holds.2.1 115 = .ok (.goto 4, 3) := by decide +kernel
theorem d_mo_holds_118 : decode q_mo_holds.2.1 118 = .ok (.iconst 0, 1) := by decide +kernel
theorem d_mo_holds_119 : decode q_mo_holds.2.1 119 = .ok (.ireturn, 1) := by decide +kernel
theorem d_mo_holds_120 : decode q_mo_holds.2.1 120 = .ok (.aload_n 0, 1) := by decide +kernel
theorem d_mo_holds_121 : decode q_mo_holds.2.1 121 = .ok (.iload_n 2, 1) := by decide +kernel
theorem d_mo_holds_122 : decode q_mo_holds.2.1 122 = .ok (.iconst 0, 1) := by decide +kernel
theorem d_mo_holds_123 : decode q_mo_holds.2.1 123 = .ok (.invokevirtual 311, 3) := by decide +kernel
theorem d_mo_holds_126 : decode q_mo_holds.2.1 126 = .ok (.aload_n 0, 1) := by decide +kernel
theorem d_mo_holds_127 : decode q_mo_holds.2.1 127 = .ok (.iload_n 2, 1) := by decide +kernel
theorem d_mo_holds_128 : decode q_mo_holds.2.1 128 = .ok (.iconst 2, 1) := by decide +kernel
theorem d_mo_holds_129 : decode q_mo_holds.2.1 129 = .ok (.invokevirtual 320, 3) := by decide +kernel
theorem d_mo_holds_132 : decode q_mo_holds.2.1 132 = .ok (.if_icmp .ne 7, 3) := by decide +kernel
theorem d_mo_holds_135 : decode q_mo_holds.2.1 135 = .ok (.iconst 1, 1) := by decide +kernel
theorem d_mo_holds_136 : decode q_mo_holds.2.1 136 = .ok (.goto 4, 3) := by decide +kernel
theorem d_mo_holds_139 : decode q_mo_holds.2.1 139 = .ok (.iconst 0, 1) := by decide +kernel
theorem d_mo_holds_140 : decode q_mo_holds.2.1 140 = .ok (.ireturn, 1) := by decide +kernel
theorem d_mo_holds_141 : decode q_mo_holds.2.1 141 = .ok (.aload_n 0, 1) := by decide +kernel
theorem d_mo_holds_142 : decode q_mo_holds.2.1 142 = .ok (.invokevirtual 323, 3) := by decide +kernel
theorem d_mo_holds_145 : decode q_mo_holds.2.1 145 = .ok (.ireturn, 1) := by decide +kernel
theorem w_mo_holds_L51 (l : Launch) (lo hi d : Nat) {h' : sm_H} {r0 : Int32} (s0 : Int32) (h : sm_H) (hf : f_mo_holds_L51 s0 h = some (r0, h')) : sm_W l lo hi (d + 2) q_mo_holds 51 [] [.int s0] h (some (.int r0)) h' := by
  unfold f_mo_holds_L51 at hf
  obtain ⟨c36, hf⟩ := sm_gdE hf
  obtain ⟨rfl, rfl⟩ := sm_ret2 hf
  exact sm_bret c36 d_mo_holds_51 rfl
theorem w_mo_holds_L68 (l : Launch) (lo hi d : Nat) {h' : sm_H} {r0 : Int32} (s0 : Int32) (h : sm_H) (hf : f_mo_holds_L68 s0 h = some (r0, h')) : sm_W l lo hi (d + 2) q_mo_holds 68 [] [.int s0] h (some (.int r0)) h' := by
  unfold f_mo_holds_L68 at hf
  obtain ⟨c35, hf⟩ := sm_gdE hf
  obtain ⟨rfl, rfl⟩ := sm_ret2 hf
  exact sm_bret c35 d_mo_holds_68 rfl
theorem w_mo_holds_L88 (l : Launch) (lo hi d : Nat) {h' : sm_H} {r0 : Int32} (s0 : Int32) (h : sm_H) (hf : f_mo_holds_L88 s0 h = some (r0, h')) : sm_W l lo hi (d + 2) q_mo_holds 88 [] [.int s0] h (some (.int r0)) h' := by
  unfold f_mo_holds_L88 at hf
  obtain ⟨c34, hf⟩ := sm_gdE hf
  obtain ⟨rfl, rfl⟩ := sm_ret2 hf
  exact sm_bret c34 d_mo_holds_88 rfl
theorem w_mo_holds_L119 (l : Launch) (lo hi d : Nat) {h' : sm_H} {r0 : Int32} (s0 : Int32) (h : sm_H) (hf : f_mo_holds_L119 s0 h = some (r0, h')) : sm_W l lo hi (d + 2) q_mo_holds 119 [] [.int s0] h (some (.int r0)) h' := by
  unfold f_mo_holds_L119 at hf
  obtain ⟨c33, hf⟩ := sm_gdE hf
  obtain ⟨rfl, rfl⟩ := sm_ret2 hf
  exact sm_bret c33 d_mo_holds_119 rfl
theorem w_mo_holds_L140 (l : Launch) (lo hi d : Nat) {h' : sm_H} {r0 : Int32} (s0 : Int32) (h : sm_H) (hf : f_mo_holds_L140 s0 h = some (r0, h')) : sm_W l lo hi (d + 2) q_mo_holds 140 [] [.int s0] h (some (.int r0)) h' := by
  unfold f_mo_holds_L140 at hf
  obtain ⟨c32, hf⟩ := sm_gdE hf
  obtain ⟨rfl, rfl⟩ := sm_ret2 hf
  exact sm_bret c32 d_mo_holds_140 rfl
theorem m_mo_holds (l : Launch) (lo hi d : Nat) {a0 : Nat} {a1 : Int32} {a2 : Int32} {r0 : Int32} {h h' : sm_H} (e0 : sm_at lo hi (0, 10, 0) a0) (hf : f_mo_holds a0 a1 a2 h = some (r0, h')) : sm_Met l lo hi (d + 2) q_mo_holds [.ref a0, .int a1, .int a2] h (some (.int r0)) h' := by
  refine sm_Met.of (by decide +kernel) rfl ?_
  show sm_W l lo hi (d + 2) q_mo_holds 0 [(0, .ref a0), (1, .int a1), (2, .int a2)] [] h (some (.int r0)) h'
  unfold f_mo_holds at hf
  refine sm_iload_n 1 rfl d_mo_holds_0 ?_
  by_cases c1 : a1 = 0
  · have hf := sm_ifT c1 hf
    refine sm_tableIn 36 d_mo_holds_1 (by rw [c1]; decide) (by rw [c1]; decide) (by rw [c1]; rfl) rfl ?_
    refine sm_aload_n 0 rfl d_mo_holds_36 ?_
    refine sm_iload_n 2 rfl d_mo_holds_37 ?_
    refine sm_iconst (v := 2) (by decide) d_mo_holds_38 ?_
    obtain ⟨r2, g3, c4, hf⟩ := sm_b2E hf
    refine sm_callV (As := [.int a2, .int 2]) (rv := some (.int r2)) (h1 := g3) (c := 10) cvv_mo_314 rfl rfl e0 (m_mo_zoneIs l lo hi _ e0 c4) rfl rfl d_mo_holds_39 ?_
    refine sm_iconst (v := 1) (by decide) d_mo_holds_42 ?_
    refine sm_icmp_ne 50 d_mo_holds_43 rfl (fun c5 => ?_) (fun c5 => ?_)
    · have hf := sm_ifF c5 hf
      refine sm_iconst (v := 0) (by decide) d_mo_holds_50 ?_
      refine sm_sub [] rfl ?_
      exact w_mo_holds_L51 l lo hi d _ _ hf
    · have hf := sm_ifT c5 hf
      refine sm_iconst (v := 1) (by decide) d_mo_holds_46 ?_
      refine sm_goto 51 d_mo_holds_47 rfl ?_
      refine sm_sub [] rfl ?_
      exact w_mo_holds_L51 l lo hi d _ _ hf
  have hf := sm_ifF c1 hf
  by_cases c6 : a1 = 1
  · have hf := sm_ifT c6 hf
    refine sm_tableIn 52 d_mo_holds_1 (by rw [c6]; decide) (by rw [c6]; decide) (by rw [c6]; rfl) rfl ?_
    refine sm_aload_n 0 rfl d_mo_holds_52 ?_
    refine sm_getR (n := 3) fl_mo_16 e0 rfl d_mo_holds_53 ?_
    refine sm_bipush (v := 7) (by decide) d_mo_holds_56 ?_
    obtain ⟨c7, hf⟩ := sm_gdE hf
    refine sm_iald (sm_at_arr (sm_inner e0 2 rfl rfl rfl)) c7 d_mo_holds_58 ?_
    refine sm_iload_n 2 rfl d_mo_holds_59 ?_
    refine sm_icmp_ne 67 d_mo_holds_60 rfl (fun c8 => ?_) (fun c8 => ?_)
    · have hf := sm_ifF c8 hf
      refine sm_iconst (v := 0) (by decide) d_mo_holds_67 ?_
      refine sm_sub [] rfl ?_
      exact w_mo_holds_L68 l lo hi d _ _ hf
    · have hf := sm_ifT c8 hf
      refine sm_iconst (v := 1) (by decide) d_mo_holds_63 ?_
      refine sm_goto 68 d_mo_holds_64 rfl ?_
      refine sm_sub [] rfl ?_
      exact w_mo_holds_L68 l lo hi d _ _ hf
  have hf := sm_ifF c6 hf
  by_cases c9 : a1 = 2
  · have hf := sm_ifT c9 hf
    refine sm_tableIn 69 d_mo_holds_1 (by rw [c9]; decide) (by rw [c9]; decide) (by rw [c9]; rfl) rfl ?_
    refine sm_aload_n 0 rfl d_mo_holds_69 ?_
    refine sm_getR (n := 3) fl_mo_16 e0 rfl d_mo_holds_70 ?_
    refine sm_sipush (v := 190) (by decide) d_mo_holds_73 ?_
    refine sm_iload_n 2 rfl d_mo_holds_76 ?_
    refine sm_iadd d_mo_holds_77 ?_
    obtain ⟨c10, hf⟩ := sm_gdE hf
    refine sm_iald (sm_at_arr (sm_inner e0 2 rfl rfl rfl)) c10 d_mo_holds_78 ?_
    refine sm_iconst (v := 1) (by decide) d_mo_holds_79 ?_
    refine sm_icmp_ne 87 d_mo_holds_80 rfl (fun c11 => ?_) (fun c11 => ?_)
    · have hf := sm_ifF c11 hf
      refine sm_iconst (v := 0) (by decide) d_mo_holds_87 ?_
      refine sm_sub [] rfl ?_
      exact w_mo_holds_L88 l lo hi d _ _ hf
    · have hf := sm_ifT c11 hf
      refine sm_iconst (v := 1) (by decide) d_mo_holds_83 ?_
      refine sm_goto 88 d_mo_holds_84 rfl ?_
      refine sm_sub [] rfl ?_
      exact w_mo_holds_L88 l lo hi d _ _ hf
  have hf := sm_ifF c9 hf
  by_cases c12 : a1 = 3
  · have hf := sm_ifT c12 hf
    refine sm_tableIn 89 d_mo_holds_1 (by rw [c12]; decide) (by rw [c12]; decide) (by rw [c12]; rfl) rfl ?_
    refine sm_aload_n 0 rfl d_mo_holds_89 ?_
    obtain ⟨r13, g14, c15, hf⟩ := sm_b2E hf
    refine sm_callV (As := []) (rv := some (.int r13)) (h1 := g14) (c := 10) cvv_mo_317 rfl rfl e0 (m_mo_isAlarm l lo hi _ e0 c15) rfl rfl d_mo_holds_90 ?_
    refine sm_if_eq 118 d_mo_holds_93 rfl (fun c16 => ?_) (fun c16 => ?_)
    · have hf := sm_ifT c16 hf
      refine sm_iconst (v := 0) (by decide) d_mo_holds_118 ?_
      refine sm_sub [] rfl ?_
      exact w_mo_holds_L119 l lo hi d _ _ hf
    · have hf := sm_ifF c16 hf
      refine sm_aload_n 0 rfl d_mo_holds_96 ?_
      refine sm_getR (n := 3) fl_mo_16 e0 rfl d_mo_holds_97 ?_
      refine sm_iconst (v := 0) (by decide) d_mo_holds_100 ?_
      obtain ⟨c17, hf⟩ := sm_gdE hf
      refine sm_iald (sm_at_arr (sm_inner e0 2 rfl rfl rfl)) c17 d_mo_holds_101 ?_
      refine sm_aload_n 0 rfl d_mo_holds_102 ?_
      refine sm_getR (n := 3) fl_mo_16 e0 rfl d_mo_holds_103 ?_
      refine sm_bipush (v := 8) (by decide) d_mo_holds_106 ?_
      obtain ⟨c18, hf⟩ := sm_gdE hf
      refine sm_iald (sm_at_arr (sm_inner e0 2 rfl rfl rfl)) c18 d_mo_holds_108 ?_
      refine sm_isub d_mo_holds_109 ?_
      refine sm_iload_n 2 rfl d_mo_holds_110 ?_
      refine sm_icmp_lt 118 d_mo_holds_111 rfl (fun c19 => ?_) (fun c19 => ?_)
      · have hf := sm_ifT c19 hf
        refine sm_iconst (v := 0) (by decide) d_mo_holds_118 ?_
        refine sm_sub [] rfl ?_
        exact w_mo_holds_L119 l lo hi d _ _ hf
      · have hf := sm_ifF c19 hf
        refine sm_iconst (v := 1) (by decide) d_mo_holds_114 ?_
        refine sm_goto 119 d_mo_holds_115 rfl ?_
        refine sm_sub [] rfl ?_
        exact w_mo_holds_L119 l lo hi d _ _ hf
  have hf := sm_ifF c12 hf
  by_cases c20 : a1 = 4
  · have hf := sm_ifT c20 hf
    refine sm_tableIn 120 d_mo_holds_1 (by rw [c20]; decide) (by rw [c20]; decide) (by rw [c20]; rfl) rfl ?_
    refine sm_aload_n 0 rfl d_mo_holds_120 ?_
    refine sm_iload_n 2 rfl d_mo_holds_121 ?_
    refine sm_iconst (v := 0) (by decide) d_mo_holds_122 ?_
    obtain ⟨r21, g22, c23, hf⟩ := sm_b2E hf
    refine sm_callV (As := [.int a2, .int 0]) (rv := some (.int r21)) (h1 := g22) (c := 10) cvv_mo_311 rfl rfl e0 (m_mo_fanIs l lo hi _ e0 c23) rfl rfl d_mo_holds_123 ?_
    refine sm_aload_n 0 rfl d_mo_holds_126 ?_
    refine sm_iload_n 2 rfl d_mo_holds_127 ?_
    refine sm_iconst (v := 2) (by decide) d_mo_holds_128 ?_
    obtain ⟨r24, g25, c26, hf⟩ := sm_b2E hf
    refine sm_callV (As := [.int a2, .int 2]) (rv := some (.int r24)) (h1 := g25) (c := 10) cvv_mo_320 rfl rfl e0 (m_mo_fanOf l lo hi _ e0 c26) rfl rfl d_mo_holds_129 ?_
    refine sm_icmp_ne 139 d_mo_holds_132 rfl (fun c27 => ?_) (fun c27 => ?_)
    · have hf := sm_ifF c27 hf
      refine sm_iconst (v := 0) (by decide) d_mo_holds_139 ?_
      refine sm_sub [] rfl ?_
      exact w_mo_holds_L140 l lo hi d _ _ hf
    · have hf := sm_ifT c27 hf
      refine sm_iconst (v := 1) (by decide) d_mo_holds_135 ?_
      refine sm_goto 140 d_mo_holds_136 rfl ?_
      refine sm_sub [] rfl ?_
      exact w_mo_holds_L140 l lo hi d _ _ hf
  have hf := sm_ifF c20 hf
  refine sm_tableOut 141 d_mo_holds_1 (sm_swOut 0 5 (by decide) (by decide) (fun j hj => by match j, hj with | 0, _ => exact c1 | 1, _ => exact c6 | 2, _ => exact c9 | 3, _ => exact c12 | 4, _ => exact c20 | j + 5, hj => exact absurd hj (by omega))) rfl ?_
  refine sm_aload_n 0 rfl d_mo_holds_141 ?_
  obtain ⟨r28, g29, c30, hf⟩ := sm_b2E hf
  refine sm_callV (As := []) (rv := some (.int r28)) (h1 := g29) (c := 10) cvv_mo_323 rfl rfl e0 (m_mo_isTrouble l lo hi _ e0 c30) rfl rfl d_mo_holds_142 ?_
  obtain ⟨c31, hf⟩ := sm_gdE hf
  obtain ⟨rfl, rfl⟩ := sm_ret2 hf
  exact sm_bret c31 d_mo_holds_145 rfl
theorem d_mo_isHolding_0 : decode q_mo_isHolding.2.1 0 = .ok (.iconst 0, 1) := by decide +kernel
theorem d_mo_isHolding_1 : decode q_mo_isHolding.2.1 1 = .ok (.istore_n 2, 1) := by decide +kernel
theorem d_mo_isHolding_2 : decode q_mo_isHolding.2.1 2 = .ok (.aload_n 0, 1) := by decide +kernel
theorem d_mo_isHolding_3 : decode q_mo_isHolding.2.1 3 = .ok (.getfield 7, 3) := by decide +kernel
theorem d_mo_isHolding_6 : decode q_mo_isHolding.2.1 6 = .ok (.sipush 128, 3) := by decide +kernel
theorem d_mo_isHolding_9 : decode q_mo_isHolding.2.1 9 = .ok (.iconst 4, 1) := by decide +kernel
theorem d_mo_isHolding_10 : decode q_mo_isHolding.2.1 10 = .ok (.iload_n 1, 1) := by decide +kernel
theorem d_mo_isHolding_11 : decode q_mo_isHolding.2.1 11 = .ok (.imul, 1) := by decide +kernel
theorem d_mo_isHolding_12 : decode q_mo_isHolding.2.1 12 = .ok (.iadd, 1) := by decide +kernel
theorem d_mo_isHolding_13 : decode q_mo_isHolding.2.1 13 = .ok (.iaload, 1) := by decide +kernel
theorem d_mo_isHolding_14 : decode q_mo_isHolding.2.1 14 = .ok (.istore_n 3, 1) := by decide +kernel
theorem d_mo_isHolding_15 : decode q_mo_isHolding.2.1 15 = .ok (.iload_n 3, 1) := by decide +kernel
theorem d_mo_isHolding_16 : decode q_mo_isHolding.2.1 16 = .ok (.aload_n 0, 1) := by decide +kernel
theorem d_mo_isHolding_17 : decode q_mo_isHolding.2.1 17 = .ok (.getfield 7, 3) := by decide +kernel
theorem d_mo_isHolding_20 : decode q_mo_isHolding.2.1 20 = .ok (.sipush 128, 3) := by decide +kernel
theorem d_mo_isHolding_23 : decode q_mo_isHolding.2.1 23 = .ok (.iconst 4, 1) := by decide +kernel
theorem d_mo_isHolding_24 : decode q_mo_isHolding.2.1 24 = .ok (.iload_n 1, 1) := by decide +kernel
theorem d_mo_isHolding_25 : decode q_mo_isHolding.2.1 25 = .ok (.imul, 1) := by decide +kernel
theorem d_mo_isHolding_26 : decode q_mo_isHolding.2.1 26 = .ok (.iadd, 1) := by decide +kernel
theorem d_mo_isHolding_27 : decode q_mo_isHolding.2.1 27 = .ok (.iconst 1, 1) := by decide +kernel
theorem d_mo_isHolding_28 : decode q_mo_isHolding.2.1 28 = .ok (.iadd, 1) := by decide +kernel
theorem d_mo_isHolding_29 : decode q_mo_isHolding.2.1 29 = .ok (.iaload, 1) := by decide +kernel
theorem d_mo_isHolding_30 : decode q_mo_isHolding.2.1 30 = .ok (.if_icmp .ge 176, 3) := by decide +kernel
theorem d_mo_isHolding_33 : decode q_mo_isHolding.2.1 33 = .ok (.aload_n 0, 1) := by decide +kernel
theorem d_mo_isHolding_34 : decode q_mo_isHolding.2.1 34 = .ok (.getfield 7, 3) := by decide +kernel
theorem d_mo_isHolding_37 : decode q_mo_isHolding.2.1 37 = .ok (.sipush 176, 3) := by decide +kernel
theorem d_mo_isHolding_40 : decode q_mo_isHolding.2.1 40 = .ok (.iconst 2, 1) := by decide +kernel
theorem d_mo_isHolding_41 : decode q_mo_isHolding.2.1 41 = .ok (.iload_n 3, 1) := by decide +kernel
theorem d_mo_isHolding_42 : decode q_mo_isHolding.2.1 42 = .ok (.imul, 1) := by decide +kernel
theorem d_mo_isHolding_43 : decode q_mo_isHolding.2.1 43 = .ok (.iadd, 1) := by decide +kernel
theorem d_mo_isHolding_44 : decode q_mo_isHolding.2.1 44 = .ok (.iaload, 1) := by decide +kernel
theorem d_mo_isHolding_45 : decode q_mo_isHolding.2.1 45 = .ok (.istore 4, 2) := by decide +kernel
theorem d_mo_isHolding_47 : decode q_mo_isHolding.2.1 47 = .ok (.iload 4, 2) := by decide +kernel
theorem d_mo_isHolding_49 : decode q_mo_isHolding.2.1 49 = .ok (.bipush 6, 2) := by decide +kernel
theorem d_mo_isHolding_51 : decode q_mo_isHolding.2.1 51 = .ok (.if_icmp .ne 30, 3) := by decide +kernel
theorem d_mo_isHolding_54 : decode q_mo_isHolding.2.1 54 = .ok (.aload_n 0, 1) := by decide +kernel
theorem d_mo_isHolding_55 : decode q_mo_isHolding.2.1 55 = .ok (.getfield 35, 3) := by decide +kernel
theorem d_mo_isHolding_58 : decode q_mo_isHolding.2.1 58 = .ok (.iload_n 2, 1) := by decide +kernel
theorem d_mo_isHolding_59 : decode q_mo_isHolding.2.1 59 = .ok (.iconst 1, 1) := by decide +kernel
theorem d_mo_isHolding_60 : decode q_mo_isHolding.2.1 60 = .ok (.isub, 1) := by decide +kernel
theorem d_mo_isHolding_61 : decode q_mo_isHolding.2.1 61 = .ok (.aload_n 0, 1) := by decide +kernel
theorem d_mo_isHolding_62 : decode q_mo_isHolding.2.1 62 = .ok (.getfield 35, 3) := by decide +kernel
theorem d_mo_isHolding_65 : decode q_mo_isHolding.2.1 65 = .ok (.iload_n 2, 1) := by decide +kernel
theorem d_mo_isHolding_66 : decode q_mo_isHolding.2.1 66 = .ok (.iconst 1, 1) := by decide +kernel
theorem d_mo_isHolding_67 : decode q_mo_isHolding.2.1 67 = .ok (.isub, 1) := by decide +kernel
theorem d_mo_isHolding_68 : decode q_mo_isHolding.2.1 68 = .ok (.baload, 1) := by decide +kernel
theorem d_mo_isHolding_69 : decode q_mo_isHolding.2.1 69 = .ok (.ifCond .ne 7, 3) := by decide +kernel
theorem d_mo_isHolding_72 : decode q_mo_isHolding.2.1 72 = .ok (.iconst 1, 1) := by decide +kernel
theorem d_mo_isHolding_73 : decode q_mo_isHolding.2.1 73 = .ok (.goto 4, 3) := by decide +kernel
theorem d_mo_isHolding_76 : decode q_mo_isHolding.2.1 76 = .ok (.iconst 0, 1) := by decide +kernel
theorem d_mo_isHolding_77 : decode q_mo_isHolding.2.1 77 = .ok (.bastore, 1) := by decide +kernel
theorem d_mo_isHolding_78 : decode q_mo_isHolding.2.1 78 = .ok (.goto 122, 3) := by decide +kernel
theorem d_mo_isHolding_81 : decode q_mo_isHolding.2.1 81 = .ok (.iload 4, 2) := by decide +kernel
theorem d_mo_isHolding_83 : decode q_mo_isHolding.2.1 83 = .ok (.bipush 7, 2) := by decide +kernel
theorem d_mo_isHolding_85 : decode q_mo_isHolding.2.1 85 = .ok (.if_icmp .eq 10, 3) := by decide +kernel
theorem d_mo_isHolding_88 : decode q_mo_isHolding.2.1 88 = .ok (.iload 4, 2) := by decide +kernel
theorem d_mo_isHolding_90 : decode q_mo_isHolding.2.1 90 = .ok (.bipush 8, 2) := by decide +kernel
theorem d_mo_isHolding_92 : decode q_mo_isHolding.2.1 92 = .ok (.if_icmp .ne 78, 3) := by decide +kernel
theorem d_mo_isHolding_95 : decode q_mo_isHolding.2.1 95 = .ok (.iload_n 2, 1) := by decide +kernel
theorem d_mo_isHolding_96 : decode q_mo_isHolding.2.1 96 = .ok (.iconst 1, 1) := by decide +kernel
theorem d_mo_isHolding_97 : decode q_mo_isHolding.2.1 97 = .ok (.isub, 1) := by decide +kernel
theorem d_mo_isHolding_98 : decode q_mo_isHolding.2.1 98 = .ok (.istore_n 2, 1) := by decide +kernel
theorem d_mo_isHolding_99 : decode q_mo_isHolding.2.1 99 = .ok (.aload_n 0, 1) := by decide +kernel
theorem d_mo_isHolding_100 : decode q_mo_isHolding.2.1 100 = .ok (.getfield 35, 3) := by decide +kernel
theorem d_mo_isHolding_103 : decode q_mo_isHolding.2.1 103 = .ok (.iload_n 2, 1) := by decide +kernel
theorem d_mo_isHolding_104 : decode q_mo_isHolding.2.1 104 = .ok (.iconst 1, 1) := by decide +kernel
theorem d_mo_isHolding_105 : decode q_mo_isHolding.2.1 105 = .ok (.isub, 1) := by decide +kernel
theorem d_mo_isHolding_106 : decode q_mo_isHolding.2.1 106 = .ok (.iload 4, 2) := by decide +kernel
theorem d_mo_isHolding_108 : decode q_mo_isHolding.2.1 108 = .ok (.bipush 7, 2) := by decide +kernel
theorem d_mo_isHolding_110 : decode q_mo_isHolding.2.1 110 = .ok (.if_icmp .ne 31, 3) := by decide +kernel
theorem d_mo_isHolding_113 : decode q_mo_isHolding.2.1 113 = .ok (.aload_n 0, 1) := by decide +kernel
theorem d_mo_isHolding_114 : decode q_mo_isHolding.2.1 114 = .ok (.getfield 35, 3) := by decide +kernel
theorem d_mo_isHolding_117 : decode q_mo_isHolding.2.1 117 = .ok (.iload_n 2, 1) := by decide +kernel
theorem d_mo_isHolding_118 : decode q_mo_isHolding.2.1 118 = .ok (.iconst 1, 1) := by decide +kernel
theorem d_mo_isHolding_119 : decode q_mo_isHolding.2.1 119 = .ok (.isub, 1) := by decide +kernel
theorem d_mo_isHolding_120 : decode q_mo_isHolding.2.1 120 = .ok (.baload, 1) := by decide +kernel
theorem d_mo_isHolding_121 : decode q_mo_isHolding.2.1 121 = .ok (.ifCond .eq 16, 3) := by decide +kernel
theorem d_mo_isHolding_124 : decode q_mo_isHolding.2.1 124 = .ok (.aload_n 0, 1) := by decide +kernel
theorem d_mo_isHolding_125 : decode q_mo_isHolding.2.1 125 = .ok (.getfield 35, 3) := by decide +kernel
theorem d_mo_isHolding_128 : decode q_mo_isHolding.2.1 128 = .ok (.iload_n 2, 1) := by decide +kernel
theorem d_mo_isHolding_129 : decode q_mo_isHolding.2.1 129 = .ok (.baload, 1) := by decide +kernel
theorem d_mo_isHolding_130 : decode q_mo_isHolding.2.1 130 = .ok (.ifCond .eq 7, 3) := by decide +kernel
theorem d_mo_isHolding_133 : decode q_mo_isHolding.2.1 133 = .ok (.iconst 1, 1) := by decide +kernel
theorem d_mo_isHolding_134 : decode q_mo_isHolding.2.1 134 = .ok (.goto 32, 3) := by decide +kernel
theorem d_mo_isHolding_137 : decode q_mo_isHolding.2.1 137 = .ok (.iconst 0, 1) := by decide +kernel
theorem d_mo_isHolding_138 : decode q_mo_isHolding.2.1 138 = .ok (.goto 28, 3) := by decide +kernel
theorem d_mo_isHolding_141 : decode q_mo_isHolding.2.1 141 = .ok (.aload_n 0, 1) := by decide +kernel
theorem d_mo_isHolding_142 : decode q_mo_isHolding.2.1 142 = .ok (.getfield 35, 3) := by decide +kernel
theorem d_mo_isHolding_145 : decode q_mo_isHolding.2.1 145 = .ok (.iload_n 2, 1) := by decide +kernel
theorem d_mo_isHolding_146 : decode q_mo_isHolding.2.1 146 = .ok (.iconst 1, 1) := by decide +kernel
theorem d_mo_isHolding_147 : decode q_mo_isHolding.2.1 147 = .ok (.isub, 1) := by decide +kernel
theorem d_mo_isHolding_148 : decode q_mo_isHolding.2.1 148 = .ok (.baload, 1) := by decide +kernel
theorem d_mo_isHolding_149 : decode q_mo_isHolding.2.1 149 = .ok (.ifCond .ne 12, 3) := by decide +kernel
theorem d_mo_isHolding_152 : decode q_mo_isHolding.2.1 152 = .ok (.aload_n 0, 1) := by decide +kernel
theorem d_mo_isHolding_153 : decode q_mo_isHolding.2.1 153 = .ok (.getfield 35, 3) := by decide +kernel
theorem d_mo_isHolding_156 : decode q_mo_isHolding.2.1 156 = .ok (.iload_n 2, 1) := by decide +kernel
theorem d_mo_isHolding_157 : decode q_mo_isHolding.2.1 157 = .ok (.baload, 1) := by decide +kernel
theorem d_mo_isHolding_158 : decode q_mo_isHolding.2.1 158 = .ok (.ifCond .eq 7, 3) := by decide +kernel
theorem d_mo_isHolding_161 : decode q_mo_isHolding.2.1 161 = .ok (.iconst 1, 1) := by decide +kernel
theorem d_mo_isHolding_162 : decode q_mo_isHolding.2.1 162 = .ok (.goto 4, 3) := by decide +kernel
theorem d_mo_isHolding_165 : decode q_mo_isHolding.2.1 165 = .ok (.iconst 0, 1) := by decide +kernel
theorem d_mo_isHolding_166 : decode q_mo_isHolding.2.1 166 = .ok (.bastore, 1) := by decide +kernel
theorem d_mo_isHolding_167 : decode q_mo_isHolding.2.1 167 = .ok (.goto 33, 3) := by decide +kernel
theorem d_mo_isHolding_170 : decode q_mo_isHolding.2.1 170 = .ok (.aload_n 0, 1) := by decide +kernel
theorem d_mo_isHolding_171 : decode q_mo_isHolding.2.1 171 = .ok (.getfield 35, 3) := by decide +kernel
theorem d_mo_isHolding_174 : decode q_mo_isHolding.2.1 174 = .ok (.iload_n 2, 1) := by decide +kernel
theorem d_mo_isHolding_175 : decode q_mo_isHolding.2.1 175 = .ok (.aload_n 0, 1) := by decide +kernel
theorem d_mo_isHolding_176 : decode q_mo_isHolding.2.1 176 = .ok (.iload 4, 2) := by decide +kernel
theorem d_mo_isHolding_178 : decode q_mo_isHolding.2.1 178 = .ok (.aload_n 0, 1) := by decide +kernel
theorem d_mo_isHolding_179 : decode q_mo_isHolding.2.1 179 = .ok (.getfield 7, 3) := by decide +kernel
theorem d_mo_isHolding_182 : decode q_mo_isHolding.2.1 182 = .ok (.sipush 176, 3) := by decide +kernel
theorem d_mo_isHolding_185 : decode q_mo_isHolding.2.1 185 = .ok (.iconst 2, 1) := by decide +kernel
theorem d_mo_isHolding_186 : decode q_mo_isHolding.2.1 186 = .ok (.iload_n 3, 1) := by decide +kernel
theorem d_mo_isHolding_187 : decode q_mo_isHolding.2.1 187 = .ok (.imul, 1) := by decide +kernel
theorem d_mo_isHolding_188 : decode q_mo_isHolding.2.1 188 = .ok (.iadd, 1) := by decide +kernel
theorem d_mo_isHolding_189 : decode q_mo_isHolding.2.1 189 = .ok (.iconst 1, 1) := by decide +kernel
theorem d_mo_isHolding_190 : decode q_mo_isHolding.2.1 190 = .ok (.iadd, 1) := by decide +kernel
theorem d_mo_isHolding_191 : decode q_mo_isHolding.2.1 191 = .ok (.iaload, 1) := by decide +kernel
theorem d_mo_isHolding_192 : decode q_mo_isHolding.2.1 192 = .ok (.invokevirtual 326, 3) := by decide +kernel
theorem d_mo_isHolding_195 : decode q_mo_isHolding.2.1 195 = .ok (.bastore, 1) := by decide +kernel
theorem d_mo_isHolding_196 : decode q_mo_isHolding.2.1 196 = .ok (.iload_n 2, 1) := by decide +kernel
theorem d_mo_isHolding_197 : decode q_mo_isHolding.2.1 197 = .ok (.iconst 1, 1) := by decide +kernel
theorem d_mo_isHolding_198 : decode q_mo_isHolding.2.1 198 = .ok (.iadd, 1) := by decide +kernel
theorem d_mo_isHolding_199 : decode q_mo_isHolding.2.1 199 = .ok (.istore_n 2, 1) := by decide +kernel
theorem d_mo_isHolding_200 : decode q_mo_isHolding.2.1 200 = .ok (.iinc 3 1, 3) := by decide +kernel
theorem d_mo_isHolding_203 : decode q_mo_isHolding.2.1 203 = .ok (.goto (-188), 3) := by decide +kernel
theorem d_mo_isHolding_206 : decode q_mo_isHolding.2.1 206 = .ok (.aload_n 0, 1) := by decide +kernel
theorem d_mo_isHolding_207 : decode q_mo_isHolding.2.1 207 = .ok (.getfield 35, 3) := by decide +kernel
theorem d_mo_isHolding_210 : decode q_mo_isHolding.2.1 210 = .ok (.iconst 0, 1) := by decide +kernel
theorem d_mo_isHolding_211 : decode q_mo_isHolding.2.1 211 = .ok (.baload, 1) := by decide +kernel
theorem d_mo_isHolding_212 : decode q_mo_isHolding.2.1 212 = .ok (.ireturn, 1) := by decide +kernel
theorem w_mo_isHolding_L206 (l : Launch) (lo hi d : Nat) {h' : sm_H} {r0 : Int32} (a0 : Nat) (h : sm_H) (e0 : sm_at lo hi (0, 10, 0) a0) (hf : f_mo_isHolding_L206 a0 h = some (r0, h')) : sm_W l lo hi (d + 3) q_mo_isHolding 206 [(0, .ref a0)] [] h (some (.int r0)) h' := by
  unfold f_mo_isHolding_L206 at hf
  refine sm_aload_n 0 rfl d_mo_isHolding_206 ?_
  refine sm_getR (n := 8) fl_mo_35 e0 rfl d_mo_isHolding_207 ?_
  refine sm_iconst (v := 0) (by decide) d_mo_isHolding_210 ?_
  obtain ⟨c42, hf⟩ := sm_gdE hf
  refine sm_zald (sm_at_arr (sm_inner e0 24 rfl rfl rfl)) c42 d_mo_isHolding_211 ?_
  obtain ⟨c43, hf⟩ := sm_gdE hf
  obtain ⟨rfl, rfl⟩ := sm_ret2 hf
  exact sm_bret c43 d_mo_isHolding_212 rfl
theorem w_mo_isHolding_L200 (l : Launch) (lo hi d : Nat) {k15 : Nat → Int32 → Int32 → Int32 → sm_H → Option (Int32 × sm_H)} {h' : sm_H} {r0 : Int32} (hk15 : ∀ (a0 : Nat) (a1 : Int32) (a2 : Int32) (a3 : Int32) (h : sm_H) (_ : sm_at lo hi (0, 10, 0) a0) , k15 a0 a1 a2 a3 h = some (r0, h') → sm_W l lo hi (d + 3) q_mo_isHolding 15 [(0, .ref a0), (1, .int a1), (2, .int a2), (3, .int a3)] [] h (some (.int r0)) h') (a0 : Nat) (a1 : Int32) (a2 : Int32) (a3 : Int32) (h : sm_H) (e0 : sm_at lo hi (0, 10, 0) a0) (hf : f_mo_isHolding_L200 k15 a0 a1 a2 a3 h = some (r0, h')) : sm_W l lo hi (d + 3) q_mo_isHolding 200 [(0, .ref a0), (1, .int a1), (2, .int a2), (3, .int a3)] [] h (some (.int r0)) h' := by
  unfold f_mo_isHolding_L200 at hf
  obtain ⟨x40, w41⟩ : ∃ v : Int32, v = a3 + 1 := ⟨_, rfl⟩
  have hf := sm_letV w41 hf
  refine sm_iinc (v := x40) (lv' := [(3, .int x40), (0, .ref a0), (1, .int a1), (2, .int a2)]) 3 rfl (by rw [w41]; rfl) d_mo_isHolding_200 rfl rfl ?_
  refine sm_goto 15 d_mo_isHolding_203 rfl ?_
  refine sm_sub [1, 2, 3, 0] rfl ?_
  exact hk15 _ _ _ _ _ e0 hf
theorem w_mo_isHolding_L166 (l : Launch) (lo hi d : Nat) {k15 : Nat → Int32 → Int32 → Int32 → sm_H → Option (Int32 × sm_H)} {h' : sm_H} {r0 : Int32} (hk15 : ∀ (a0 : Nat) (a1 : Int32) (a2 : Int32) (a3 : Int32) (h : sm_H) (_ : sm_at lo hi (0, 10, 0) a0) , k15 a0 a1 a2 a3 h = some (r0, h') → sm_W l lo hi (d + 3) q_mo_isHolding 15 [(0, .ref a0), (1, .int a1), (2, .int a2), (3, .int a3)] [] h (some (.int r0)) h') (a0 : Nat) (a1 : Int32) (a2 : Int32) (a3 : Int32) (s0 : Int32) (s1 : Int32) (s2 : Nat) (h : sm_H) (e0 : sm_at lo hi (0, 10, 0) a0) (t2 : sm_arr lo hi 2 450 s2) (hf : f_mo_isHolding_L166 k15 a0 a1 a2 a3 s0 s1 s2 h = some (r0, h')) : sm_W l lo hi (d + 3) q_mo_isHolding 166 [(0, .ref a0), (1, .int a1), (2, .int a2), (3, .int a3)] [.int s0, .int s1, .ref s2] h (some (.int r0)) h' := by
  unfold f_mo_isHolding_L166 at hf
  obtain ⟨c37, hf⟩ := sm_gdE hf
  refine sm_zast t2 c37 d_mo_isHolding_166 ?_
  refine sm_nmH (fun g38 w39 => ?_)
  have hf := sm_letV w39 hf
  refine sm_goto 200 d_mo_isHolding_167 rfl ?_
  exact w_mo_isHolding_L200 l lo hi d hk15 _ _ _ _ _ e0 hf
theorem w_mo_isHolding_L161 (l : Launch) (lo hi d : Nat) {k15 : Nat → Int32 → Int32 → Int32 → sm_H → Option (Int32 × sm_H)} {h' : sm_H} {r0 : Int32} (hk15 : ∀ (a0 : Nat) (a1 : Int32) (a2 : Int32) (a3 : Int32) (h : sm_H) (_ : sm_at lo hi (0, 10, 0) a0) , k15 a0 a1 a2 a3 h = some (r0, h') → sm_W l lo hi (d + 3) q_mo_isHolding 15 [(0, .ref a0), (1, .int a1), (2, .int a2), (3, .int a3)] [] h (some (.int r0)) h') (a0 : Nat) (a1 : Int32) (a2 : Int32) (a3 : Int32) (s0 : Int32) (s1 : Nat) (h : sm_H) (e0 : sm_at lo hi (0, 10, 0) a0) (t1 : sm_arr lo hi 2 450 s1) (hf : f_mo_isHolding_L161 k15 a0 a1 a2 a3 s0 s1 h = some (r0, h')) : sm_W l lo hi (d + 3) q_mo_isHolding 161 [(0, .ref a0), (1, .int a1), (2, .int a2), (3, .int a3)] [.int s0, .ref s1] h (some (.int r0)) h' := by
  unfold f_mo_isHolding_L161 at hf
  refine sm_iconst (v := 1) (by decide) d_mo_isHolding_161 ?_
  refine sm_goto 166 d_mo_isHolding_162 rfl ?_
  exact w_mo_isHolding_L166 l lo hi d hk15 _ _ _ _ _ _ _ _ e0 t1 hf
theorem w_mo_isHolding_L137 (l : Launch) (lo hi d : Nat) {k15 : Nat → Int32 → Int32 → Int32 → sm_H → Option (Int32 × sm_H)} {h' : sm_H} {r0 : Int32} (hk15 : ∀ (a0 : Nat) (a1 : Int32) (a2 : Int32) (a3 : Int32) (h : sm_H) (_ : sm_at lo hi (0, 10, 0) a0) , k15 a0 a1 a2 a3 h = some (r0, h') → sm_W l lo hi (d + 3) q_mo_isHolding 15 [(0, .ref a0), (1, .int a1), (2, .int a2), (3, .int a3)] [] h (some (.int r0)) h') (a0 : Nat) (a1 : Int32) (a2 : Int32) (a3 : Int32) (s0 : Int32) (s1 : Nat) (h : sm_H) (e0 : sm_at lo hi (0, 10, 0) a0) (t1 : sm_arr lo hi 2 450 s1) (hf : f_mo_isHolding_L137 k15 a0 a1 a2 a3 s0 s1 h = some (r0, h')) : sm_W l lo hi (d + 3) q_mo_isHolding 137 [(0, .ref a0), (1, .int a1), (2, .int a2), (3, .int a3)] [.int s0, .ref s1] h (some (.int r0)) h' := by
  unfold f_mo_isHolding_L137 at hf
  refine sm_iconst (v := 0) (by decide) d_mo_isHolding_137 ?_
  refine sm_goto 166 d_mo_isHolding_138 rfl ?_
  exact w_mo_isHolding_L166 l lo hi d hk15 _ _ _ _ _ _ _ _ e0 t1 hf
theorem w_mo_isHolding_L95 (l : Launch) (lo hi d : Nat) {k15 : Nat → Int32 → Int32 → Int32 → sm_H → Option (Int32 × sm_H)} {h' : sm_H} {r0 : Int32} (hk15 : ∀ (a0 : Nat) (a1 : Int32) (a2 : Int32) (a3 : Int32) (h : sm_H) (_ : sm_at lo hi (0, 10, 0) a0) , k15 a0 a1 a2 a3 h = some (r0, h') → sm_W l lo hi (d + 3) q_mo_isHolding 15 [(0, .ref a0), (1, .int a1), (2, .int a2), (3, .int a3)] [] h (some (.int r0)) h') (a0 : Nat) (a1 : Int32) (a2 : Int32) (a3 : Int32) (a4 : Int32) (h : sm_H) (e0 : sm_at lo hi (0, 10, 0) a0) (hf : f_mo_isHolding_L95 k15 a0 a1 a2 a3 a4 h = some (r0, h')) : sm_W l lo hi (d + 3) q_mo_isHolding 95 [(0, .ref a0), (1, .int a1), (2, .int a2), (3, .int a3), (4, .int a4)] [] h (some (.int r0)) h' := by
  unfold f_mo_isHolding_L95 at hf
  refine sm_iload_n 2 rfl d_mo_isHolding_95 ?_
  refine sm_iconst (v := 1) (by decide) d_mo_isHolding_96 ?_
  refine sm_isub d_mo_isHolding_97 ?_
  refine sm_nmI (fun x26 w27 => ?_)
  have hf := sm_letV w27 hf
  refine sm_istore_n (lv' := [(2, .int x26), (0, .ref a0), (1, .int a1), (3, .int a3), (4, .int a4)]) d_mo_isHolding_98 rfl rfl ?_
  refine sm_aload_n 1 rfl d_mo_isHolding_99 ?_
  refine sm_getR (n := 8) fl_mo_35 e0 rfl d_mo_isHolding_100 ?_
  refine sm_iload_n 0 rfl d_mo_isHolding_103 ?_
  refine sm_iconst (v := 1) (by decide) d_mo_isHolding_104 ?_
  refine sm_isub d_mo_isHolding_105 ?_
  refine sm_iload 4 rfl d_mo_isHolding_106 ?_
  refine sm_bipush (v := 7) (by decide) d_mo_isHolding_108 ?_
  refine sm_icmp_ne 141 d_mo_isHolding_110 rfl (fun c28 => ?_) (fun c28 => ?_)
  · have hf := sm_ifF c28 hf
    refine sm_aload_n 1 rfl d_mo_isHolding_141 ?_
    refine sm_getR (n := 8) fl_mo_35 e0 rfl d_mo_isHolding_142 ?_
    refine sm_iload_n 0 rfl d_mo_isHolding_145 ?_
    refine sm_iconst (v := 1) (by decide) d_mo_isHolding_146 ?_
    refine sm_isub d_mo_isHolding_147 ?_
    obtain ⟨c29, hf⟩ := sm_gdE hf
    refine sm_zald (sm_at_arr (sm_inner e0 24 rfl rfl rfl)) c29 d_mo_isHolding_148 ?_
    refine sm_if_ne 161 d_mo_isHolding_149 rfl (fun c30 => ?_) (fun c30 => ?_)
    · have hf := sm_ifF c30 hf
      refine sm_sub [1, 2, 0, 3] rfl ?_
      exact w_mo_isHolding_L161 l lo hi d hk15 _ _ _ _ _ _ _ e0 (sm_at_arr (sm_inner e0 24 rfl rfl rfl)) hf
    · have hf := sm_ifT c30 hf
      refine sm_aload_n 1 rfl d_mo_isHolding_152 ?_
      refine sm_getR (n := 8) fl_mo_35 e0 rfl d_mo_isHolding_153 ?_
      refine sm_iload_n 0 rfl d_mo_isHolding_156 ?_
      obtain ⟨c31, hf⟩ := sm_gdE hf
      refine sm_zald (sm_at_arr (sm_inner e0 24 rfl rfl rfl)) c31 d_mo_isHolding_157 ?_
      refine sm_if_eq 165 d_mo_isHolding_158 rfl (fun c32 => ?_) (fun c32 => ?_)
      · have hf := sm_ifT c32 hf
        refine sm_iconst (v := 0) (by decide) d_mo_isHolding_165 ?_
        refine sm_sub [1, 2, 0, 3] rfl ?_
        exact w_mo_isHolding_L166 l lo hi d hk15 _ _ _ _ _ _ _ _ e0 (sm_at_arr (sm_inner e0 24 rfl rfl rfl)) hf
      · have hf := sm_ifF c32 hf
        refine sm_sub [1, 2, 0, 3] rfl ?_
        exact w_mo_isHolding_L161 l lo hi d hk15 _ _ _ _ _ _ _ e0 (sm_at_arr (sm_inner e0 24 rfl rfl rfl)) hf
  · have hf := sm_ifT c28 hf
    refine sm_aload_n 1 rfl d_mo_isHolding_113 ?_
    refine sm_getR (n := 8) fl_mo_35 e0 rfl d_mo_isHolding_114 ?_
    refine sm_iload_n 0 rfl d_mo_isHolding_117 ?_
    refine sm_iconst (v := 1) (by decide) d_mo_isHolding_118 ?_
    refine sm_isub d_mo_isHolding_119 ?_
    obtain ⟨c33, hf⟩ := sm_gdE hf
    refine sm_zald (sm_at_arr (sm_inner e0 24 rfl rfl rfl)) c33 d_mo_isHolding_120 ?_
    refine sm_if_eq 137 d_mo_isHolding_121 rfl (fun c34 => ?_) (fun c34 => ?_)
    · have hf := sm_ifT c34 hf
      refine sm_sub [1, 2, 0, 3] rfl ?_
      exact w_mo_isHolding_L137 l lo hi d hk15 _ _ _ _ _ _ _ e0 (sm_at_arr (sm_inner e0 24 rfl rfl rfl)) hf
    · have hf := sm_ifF c34 hf
      refine sm_aload_n 1 rfl d_mo_isHolding_124 ?_
      refine sm_getR (n := 8) fl_mo_35 e0 rfl d_mo_isHolding_125 ?_
      refine sm_iload_n 0 rfl d_mo_isHolding_128 ?_
      obtain ⟨c35, hf⟩ := sm_gdE hf
      refine sm_zald (sm_at_arr (sm_inner e0 24 rfl rfl rfl)) c35 d_mo_isHolding_129 ?_
      refine sm_if_eq 137 d_mo_isHolding_130 rfl (fun c36 => ?_) (fun c36 => ?_)
      · have hf := sm_ifT c36 hf
        refine sm_sub [1, 2, 0, 3] rfl ?_
        exact w_mo_isHolding_L137 l lo hi d hk15 _ _ _ _ _ _ _ e0 (sm_at_arr (sm_inner e0 24 rfl rfl rfl)) hf
      · have hf := sm_ifF c36 hf
        refine sm_iconst (v := 1) (by decide) d_mo_isHolding_133 ?_
        refine sm_goto 166 d_mo_isHolding_134 rfl ?_
        refine sm_sub [1, 2, 0, 3] rfl ?_
        exact w_mo_isHolding_L166 l lo hi d hk15 _ _ _ _ _ _ _ _ e0 (sm_at_arr (sm_inner e0 24 rfl rfl rfl)) hf
theorem w_mo_isHolding_L77 (l : Launch) (lo hi d : Nat) {k15 : Nat → Int32 → Int32 → Int32 → sm_H → Option (Int32 × sm_H)} {h' : sm_H} {r0 : Int32} (hk15 : ∀ (a0 : Nat) (a1 : Int32) (a2 : Int32) (a3 : Int32) (h : sm_H) (_ : sm_at lo hi (0, 10, 0) a0) , k15 a0 a1 a2 a3 h = some (r0, h') → sm_W l lo hi (d + 3) q_mo_isHolding 15 [(0, .ref a0), (1, .int a1), (2, .int a2), (3, .int a3)] [] h (some (.int r0)) h') (a0 : Nat) (a1 : Int32) (a2 : Int32) (a3 : Int32) (s0 : Int32) (s1 : Int32) (s2 : Nat) (h : sm_H) (e0 : sm_at lo hi (0, 10, 0) a0) (t2 : sm_arr lo hi 2 450 s2) (hf : f_mo_isHolding_L77 k15 a0 a1 a2 a3 s0 s1 s2 h = some (r0, h')) : sm_W l lo hi (d + 3) q_mo_isHolding 77 [(0, .ref a0), (1, .int a1), (2, .int a2), (3, .int a3)] [.int s0, .int s1, .ref s2] h (some (.int r0)) h' := by
  unfold f_mo_isHolding_L77 at hf
  obtain ⟨c23, hf⟩ := sm_gdE hf
  refine sm_zast t2 c23 d_mo_isHolding_77 ?_
  refine sm_nmH (fun g24 w25 => ?_)
  have hf := sm_letV w25 hf
  refine sm_goto 200 d_mo_isHolding_78 rfl ?_
  exact w_mo_isHolding_L200 l lo hi d hk15 _ _ _ _ _ e0 hf
theorem w_mo_isHolding_L15 (l : Launch) (lo hi d : Nat) {h' : sm_H} {r0 : Int32} : ∀ (n : Nat) (a0 : Nat) (a1 : Int32) (a2 : Int32) (a3 : Int32) (h : sm_H) (e0 : sm_at lo hi (0, 10, 0) a0) (hf : f_mo_isHolding_L15 n a0 a1 a2 a3 h = some (r0, h')), sm_W l lo hi (d + 3) q_mo_isHolding 15 [(0, .ref a0), (1, .int a1), (2, .int a2), (3, .int a3)] [] h (some (.int r0)) h' := by
  intro n
  induction n with
  | zero =>
    intro a0 a1 a2 a3 h e0 hf
    have z : (none : Option (Int32 × sm_H)) = some _ := hf
    cases z
  | succ n ih =>
    intro a0 a1 a2 a3 h e0 hf
    unfold f_mo_isHolding_L15 at hf
    refine sm_iload_n 3 rfl d_mo_isHolding_15 ?_
    refine sm_aload_n 0 rfl d_mo_isHolding_16 ?_
    refine sm_getR (n := 1) fl_mo_7 e0 rfl d_mo_isHolding_17 ?_
    refine sm_sipush (v := 128) (by decide) d_mo_isHolding_20 ?_
    refine sm_iconst (v := 4) (by decide) d_mo_isHolding_23 ?_
    refine sm_iload_n 1 rfl d_mo_isHolding_24 ?_
    refine sm_imul d_mo_isHolding_25 ?_
    refine sm_iadd d_mo_isHolding_26 ?_
    refine sm_iconst (v := 1) (by decide) d_mo_isHolding_27 ?_
    refine sm_iadd d_mo_isHolding_28 ?_
    obtain ⟨c4, hf⟩ := sm_gdE hf
    refine sm_iald (sm_at_arr (sm_inner e0 0 rfl rfl rfl)) c4 d_mo_isHolding_29 ?_
    refine sm_icmp_ge 206 d_mo_isHolding_30 rfl (fun c5 => ?_) (fun c5 => ?_)
    · have hf := sm_ifT c5 hf
      refine sm_sub [0] rfl ?_
      exact w_mo_isHolding_L206 l lo hi d _ _ e0 hf
    · have hf := sm_ifF c5 hf
      refine sm_aload_n 0 rfl d_mo_isHolding_33 ?_
      refine sm_getR (n := 1) fl_mo_7 e0 rfl d_mo_isHolding_34 ?_
      refine sm_sipush (v := 176) (by decide) d_mo_isHolding_37 ?_
      refine sm_iconst (v := 2) (by decide) d_mo_isHolding_40 ?_
      refine sm_iload_n 3 rfl d_mo_isHolding_41 ?_
      refine sm_imul d_mo_isHolding_42 ?_
      refine sm_iadd d_mo_isHolding_43 ?_
      obtain ⟨c6, hf⟩ := sm_gdE hf
      refine sm_iald (sm_at_arr (sm_inner e0 0 rfl rfl rfl)) c6 d_mo_isHolding_44 ?_
      refine sm_nmI (fun x7 w8 => ?_)
      have hf := sm_letV w8 hf
      refine sm_istore (lv' := [(4, .int x7), (0, .ref a0), (1, .int a1), (2, .int a2), (3, .int a3)]) d_mo_isHolding_45 rfl rfl ?_
      refine sm_iload 0 rfl d_mo_isHolding_47 ?_
      refine sm_bipush (v := 6) (by decide) d_mo_isHolding_49 ?_
      refine sm_icmp_ne 81 d_mo_isHolding_51 rfl (fun c9 => ?_) (fun c9 => ?_)
      · have hf := sm_ifF c9 hf
        refine sm_iload 0 rfl d_mo_isHolding_81 ?_
        refine sm_bipush (v := 7) (by decide) d_mo_isHolding_83 ?_
        refine sm_icmp_eq 95 d_mo_isHolding_85 rfl (fun c10 => ?_) (fun c10 => ?_)
        · have hf := sm_ifT c10 hf
          refine sm_sub [1, 2, 3, 4, 0] rfl ?_
          exact w_mo_isHolding_L95 l lo hi d ih _ _ _ _ _ _ e0 hf
        · have hf := sm_ifF c10 hf
          refine sm_iload 0 rfl d_mo_isHolding_88 ?_
          refine sm_bipush (v := 8) (by decide) d_mo_isHolding_90 ?_
          refine sm_icmp_ne 170 d_mo_isHolding_92 rfl (fun c11 => ?_) (fun c11 => ?_)
          · have hf := sm_ifF c11 hf
            refine sm_aload_n 1 rfl d_mo_isHolding_170 ?_
            refine sm_getR (n := 8) fl_mo_35 e0 rfl d_mo_isHolding_171 ?_
            refine sm_iload_n 3 rfl d_mo_isHolding_174 ?_
            refine sm_aload_n 1 rfl d_mo_isHolding_175 ?_
            refine sm_iload 0 rfl d_mo_isHolding_176 ?_
            refine sm_aload_n 1 rfl d_mo_isHolding_178 ?_
            refine sm_getR (n := 1) fl_mo_7 e0 rfl d_mo_isHolding_179 ?_
            refine sm_sipush (v := 176) (by decide) d_mo_isHolding_182 ?_
            refine sm_iconst (v := 2) (by decide) d_mo_isHolding_185 ?_
            refine sm_iload_n 4 rfl d_mo_isHolding_186 ?_
            refine sm_imul d_mo_isHolding_187 ?_
            refine sm_iadd d_mo_isHolding_188 ?_
            refine sm_iconst (v := 1) (by decide) d_mo_isHolding_189 ?_
            refine sm_iadd d_mo_isHolding_190 ?_
            obtain ⟨c12, hf⟩ := sm_gdE hf
            refine sm_iald (sm_at_arr (sm_inner e0 0 rfl rfl rfl)) c12 d_mo_isHolding_191 ?_
            obtain ⟨r13, g14, c15, hf⟩ := sm_b2E hf
            refine sm_callV (As := [.int x7, .int (h (a0 + 1) ((176 + (2 * a3)) + 1 : Int32).toNatClampNeg)]) (rv := some (.int r13)) (h1 := g14) (c := 10) cvv_mo_326 rfl rfl e0 (m_mo_holds l lo hi _ e0 c15) rfl rfl d_mo_isHolding_192 ?_
            obtain ⟨c16, hf⟩ := sm_gdE hf
            refine sm_zast (sm_at_arr (sm_inner e0 24 rfl rfl rfl)) c16 d_mo_isHolding_195 ?_
            refine sm_nmH (fun g17 w18 => ?_)
            have hf := sm_letV w18 hf
            refine sm_iload_n 3 rfl d_mo_isHolding_196 ?_
            refine sm_iconst (v := 1) (by decide) d_mo_isHolding_197 ?_
            refine sm_iadd d_mo_isHolding_198 ?_
            refine sm_nmI (fun x19 w20 => ?_)
            have hf := sm_letV w20 hf
            refine sm_istore_n (lv' := [(2, .int x19), (4, .int x7), (0, .ref a0), (1, .int a1), (3, .int a3)]) d_mo_isHolding_199 rfl rfl ?_
            refine sm_sub [2, 3, 0, 4] rfl ?_
            exact w_mo_isHolding_L200 l lo hi d ih _ _ _ _ _ e0 hf
          · have hf := sm_ifT c11 hf
            refine sm_sub [1, 2, 3, 4, 0] rfl ?_
            exact w_mo_isHolding_L95 l lo hi d ih _ _ _ _ _ _ e0 hf
      · have hf := sm_ifT c9 hf
        refine sm_aload_n 1 rfl d_mo_isHolding_54 ?_
        refine sm_getR (n := 8) fl_mo_35 e0 rfl d_mo_isHolding_55 ?_
        refine sm_iload_n 3 rfl d_mo_isHolding_58 ?_
        refine sm_iconst (v := 1) (by decide) d_mo_isHolding_59 ?_
        refine sm_isub d_mo_isHolding_60 ?_
        refine sm_aload_n 1 rfl d_mo_isHolding_61 ?_
        refine sm_getR (n := 8) fl_mo_35 e0 rfl d_mo_isHolding_62 ?_
        refine sm_iload_n 3 rfl d_mo_isHolding_65 ?_
        refine sm_iconst (v := 1) (by decide) d_mo_isHolding_66 ?_
        refine sm_isub d_mo_isHolding_67 ?_
        obtain ⟨c21, hf⟩ := sm_gdE hf
        refine sm_zald (sm_at_arr (sm_inner e0 24 rfl rfl rfl)) c21 d_mo_isHolding_68 ?_
        refine sm_if_ne 76 d_mo_isHolding_69 rfl (fun c22 => ?_) (fun c22 => ?_)
        · have hf := sm_ifF c22 hf
          refine sm_iconst (v := 0) (by decide) d_mo_isHolding_76 ?_
          refine sm_sub [1, 2, 3, 4] rfl ?_
          exact w_mo_isHolding_L77 l lo hi d ih _ _ _ _ _ _ _ _ e0 (sm_at_arr (sm_inner e0 24 rfl rfl rfl)) hf
        · have hf := sm_ifT c22 hf
          refine sm_iconst (v := 1) (by decide) d_mo_isHolding_72 ?_
          refine sm_goto 77 d_mo_isHolding_73 rfl ?_
          refine sm_sub [1, 2, 3, 4] rfl ?_
          exact w_mo_isHolding_L77 l lo hi d ih _ _ _ _ _ _ _ _ e0 (sm_at_arr (sm_inner e0 24 rfl rfl rfl)) hf
theorem m_mo_isHolding (l : Launch) (lo hi d : Nat) {a0 : Nat} {a1 : Int32} {r0 : Int32} {h h' : sm_H} (e0 : sm_at lo hi (0, 10, 0) a0) (hf : f_mo_isHolding a0 a1 h = some (r0, h')) : sm_Met l lo hi (d + 3) q_mo_isHolding [.ref a0, .int a1] h (some (.int r0)) h' := by
  refine sm_Met.of (by decide +kernel) rfl ?_
  show sm_W l lo hi (d + 3) q_mo_isHolding 0 [(0, .ref a0), (1, .int a1)] [] h (some (.int r0)) h'
  unfold f_mo_isHolding at hf
  refine sm_iconst (v := 0) (by decide) d_mo_isHolding_0 ?_
  refine sm_istore_n (lv' := [(2, .int 0), (0, .ref a0), (1, .int a1)]) d_mo_isHolding_1 rfl rfl ?_
  refine sm_aload_n 1 rfl d_mo_isHolding_2 ?_
  refine sm_getR (n := 1) fl_mo_7 e0 rfl d_mo_isHolding_3 ?_
  refine sm_sipush (v := 128) (by decide) d_mo_isHolding_6 ?_
  refine sm_iconst (v := 4) (by decide) d_mo_isHolding_9 ?_
  refine sm_iload_n 2 rfl d_mo_isHolding_10 ?_
  refine sm_imul d_mo_isHolding_11 ?_
  refine sm_iadd d_mo_isHolding_12 ?_
  obtain ⟨c1, hf⟩ := sm_gdE hf
  refine sm_iald (sm_at_arr (sm_inner e0 0 rfl rfl rfl)) c1 d_mo_isHolding_13 ?_
  refine sm_nmI (fun x2 w3 => ?_)
  have hf := sm_letV w3 hf
  refine sm_istore_n (lv' := [(3, .int x2), (2, .int 0), (0, .ref a0), (1, .int a1)]) d_mo_isHolding_14 rfl rfl ?_
  refine sm_sub [2, 3, 1, 0] rfl ?_
  exact w_mo_isHolding_L15 l lo hi d sm_N _ _ _ _ _ e0 hf
theorem d_mo_orderDampers_0 : decode q_mo_orderDampers.2.1 0 = .ok (.iconst 0, 1) := by decide +kernel
theorem d_mo_orderDampers_1 : decode q_mo_orderDampers.2.1 1 = .ok (.istore 4, 2) := by decide +kernel
theorem d_mo_orderDampers_3 : decode q_mo_orderDampers.2.1 3 = .ok (.iload 4, 2) := by decide +kernel
theorem d_mo_orderDampers_5 : decode q_mo_orderDampers.2.1 5 = .ok (.aload_n 0, 1) := by decide +kernel
theorem d_mo_orderDampers_6 : decode q_mo_orderDampers.2.1 6 = .ok (.getfield 7, 3) := by decide +kernel
theorem d_mo_orderDampers_9 : decode q_mo_orderDampers.2.1 9 = .ok (.iconst 1, 1) := by decide +kernel
theorem d_mo_orderDampers_10 : decode q_mo_orderDampers.2.1 10 = .ok (.iaload, 1) := by decide +kernel
theorem d_mo_orderDampers_11 : decode q_mo_orderDampers.2.1 11 = .ok (.if_icmp .ge 52, 3) := by decide +kernel
theorem d_mo_orderDampers_14 : decode q_mo_orderDampers.2.1 14 = .ok (.aload_n 0, 1) := by decide +kernel
theorem d_mo_orderDampers_15 : decode q_mo_orderDampers.2.1 15 = .ok (.iload 4, 2) := by decide +kernel
theorem d_mo_orderDampers_17 : decode q_mo_orderDampers.2.1 17 = .ok (.iconst 1, 1) := by decide +kernel
theorem d_mo_orderDampers_18 : decode q_mo_orderDampers.2.1 18 = .ok (.invokevirtual 73, 3) := by decide +kernel
theorem d_mo_orderDampers_21 : decode q_mo_orderDampers.2.1 21 = .ok (.iload_n 1, 1) := by decide +kernel
theorem d_mo_orderDampers_22 : decode q_mo_orderDampers.2.1 22 = .ok (.if_icmp .ne 35, 3) := by decide +kernel
theorem d_mo_orderDampers_25 : decode q_mo_orderDampers.2.1 25 = .ok (.aload_n 0, 1) := by decide +kernel
theorem d_mo_orderDampers_26 : decode q_mo_orderDampers.2.1 26 = .ok (.getfield 39, 3) := by decide +kernel
theorem d_mo_orderDampers_29 : decode q_mo_orderDampers.2.1 29 = .ok (.iload 4, 2) := by decide +kernel
theorem d_mo_orderDampers_31 : decode q_mo_orderDampers.2.1 31 = .ok (.iaload, 1) := by decide +kernel
theorem d_mo_orderDampers_32 : decode q_mo_orderDampers.2.1 32 = .ok (.ifCond .ne 25, 3) := by decide +kernel
theorem d_mo_orderDampers_35 : decode q_mo_orderDampers.2.1 35 = .ok (.aload_n 0, 1) := by decide +kernel
theorem d_mo_orderDampers_36 : decode q_mo_orderDampers.2.1 36 = .ok (.getfield 39, 3) := by decide +kernel
theorem d_mo_orderDampers_39 : decode q_mo_orderDampers.2.1 39 = .ok (.iload 4, 2) := by decide +kernel
theorem d_mo_orderDampers_41 : decode q_mo_orderDampers.2.1 41 = .ok (.aload_n 0, 1) := by decide +kernel
theorem d_mo_orderDampers_42 : decode q_mo_orderDampers.2.1 42 = .ok (.iload 4, 2) := by decide +kernel
theorem d_mo_orderDampers_44 : decode q_mo_orderDampers.2.1 44 = .ok (.iconst 0, 1) := by decide +kernel
theorem d_mo_orderDampers_45 : decode q_mo_orderDampers.2.1 45 = .ok (.invokevirtual 73, 3) := by decide +kernel
theorem d_mo_orderDampers_48 : decode q_mo_orderDampers.2.1 48 = .ok (.ifCond .ne 7, 3) := by decide +kernel
theorem d_mo_orderDampers_51 : decode q_mo_orderDampers.2.1 51 = .ok (.iload_n 2, 1) := by decide +kernel
theorem d_mo_orderDampers_52 : decode q_mo_orderDampers.2.1 52 = .ok (.goto 4, 3) := by decide +kernel
theorem d_mo_orderDampers_55 : decode q_mo_orderDampers.2.1 55 = .ok (.iload_n 3, 1) := by decide +kernel
theorem d_mo_orderDampers_56 : decode q_mo_orderDampers.2.1 56 = .ok (.iastore, 1) := by decide +kernel
theorem d_mo_orderDampers_57 : decode q_mo_orderDampers.2.1 57 = .ok (.iinc 4 1, 3) := by decide +kernel
theorem d_mo_orderDampers_60 : decode q_mo_orderDampers.2.1 60 = .ok (.goto (-57), 3) := by decide +kernel
theorem d_mo_orderDampers_63 : decode q_mo_orderDampers.2.1 63 = .ok (.return_, 1) := by decide +kernel
theorem w_mo_orderDampers_L57 (l : Launch) (lo hi d : Nat) {k3 : Nat → Int32 → Int32 → Int32 → Int32 → sm_H → Option sm_H} {h' : sm_H} (hk3 : ∀ (a0 : Nat) (a1 : Int32) (a2 : Int32) (a3 : Int32) (a4 : Int32) (h : sm_H) (_ : sm_at lo hi (0, 10, 0) a0) , k3 a0 a1 a2 a3 a4 h = some h' → sm_W l lo hi (d + 1) q_mo_orderDampers 3 [(0, .ref a0), (1, .int a1), (2, .int a2), (3, .int a3), (4, .int a4)] [] h none h') (a0 : Nat) (a1 : Int32) (a2 : Int32) (a3 : Int32) (a4 : Int32) (h : sm_H) (e0 : sm_at lo hi (0, 10, 0) a0) (hf : f_mo_orderDampers_L57 k3 a0 a1 a2 a3 a4 h = some h') : sm_W l lo hi (d + 1) q_mo_orderDampers 57 [(0, .ref a0), (1, .int a1), (2, .int a2), (3, .int a3), (4, .int a4)] [] h none h' := by
  unfold f_mo_orderDampers_L57 at hf
  obtain ⟨x16, w17⟩ : ∃ v : Int32, v = a4 + 1 := ⟨_, rfl⟩
  have hf := sm_letV w17 hf
  refine sm_iinc (v := x16) (lv' := [(4, .int x16), (0, .ref a0), (1, .int a1), (2, .int a2), (3, .int a3)]) 4 rfl (by rw [w17]; rfl) d_mo_orderDampers_57 rfl rfl ?_
  refine sm_goto 3 d_mo_orderDampers_60 rfl ?_
  refine sm_sub [1, 2, 3, 4, 0] rfl ?_
  exact hk3 _ _ _ _ _ _ e0 hf
theorem w_mo_orderDampers_L56 (l : Launch) (lo hi d : Nat) {k3 : Nat → Int32 → Int32 → Int32 → Int32 → sm_H → Option sm_H} {h' : sm_H} (hk3 : ∀ (a0 : Nat) (a1 : Int32) (a2 : Int32) (a3 : Int32) (a4 : Int32) (h : sm_H) (_ : sm_at lo hi (0, 10, 0) a0) , k3 a0 a1 a2 a3 a4 h = some h' → sm_W l lo hi (d + 1) q_mo_orderDampers 3 [(0, .ref a0), (1, .int a1), (2, .int a2), (3, .int a3), (4, .int a4)] [] h none h') (a0 : Nat) (a1 : Int32) (a2 : Int32) (a3 : Int32) (a4 : Int32) (s0 : Int32) (s1 : Int32) (s2 : Nat) (h : sm_H) (e0 : sm_at lo hi (0, 10, 0) a0) (t2 : sm_arr lo hi 0 16 s2) (hf : f_mo_orderDampers_L56 k3 a0 a1 a2 a3 a4 s0 s1 s2 h = some h') : sm_W l lo hi (d + 1) q_mo_orderDampers 56 [(0, .ref a0), (1, .int a1), (2, .int a2), (3, .int a3), (4, .int a4)] [.int s0, .int s1, .ref s2] h none h' := by
  unfold f_mo_orderDampers_L56 at hf
  obtain ⟨c13, hf⟩ := sm_gdE hf
  refine sm_iast t2 c13 d_mo_orderDampers_56 ?_
  refine sm_nmH (fun g14 w15 => ?_)
  have hf := sm_letV w15 hf
  exact w_mo_orderDampers_L57 l lo hi d hk3 _ _ _ _ _ _ e0 hf
theorem w_mo_orderDampers_L3 (l : Launch) (lo hi d : Nat) {h' : sm_H} : ∀ (n : Nat) (a0 : Nat) (a1 : Int32) (a2 : Int32) (a3 : Int32) (a4 : Int32) (h : sm_H) (e0 : sm_at lo hi (0, 10, 0) a0) (hf : f_mo_orderDampers_L3 n a0 a1 a2 a3 a4 h = some h'), sm_W l lo hi (d + 1) q_mo_orderDampers 3 [(0, .ref a0), (1, .int a1), (2, .int a2), (3, .int a3), (4, .int a4)] [] h none h' := by
  intro n
  induction n with
  | zero =>
    intro a0 a1 a2 a3 a4 h e0 hf
    have z : (none : Option sm_H) = some _ := hf
    cases z
  | succ n ih =>
    intro a0 a1 a2 a3 a4 h e0 hf
    unfold f_mo_orderDampers_L3 at hf
    refine sm_iload 4 rfl d_mo_orderDampers_3 ?_
    refine sm_aload_n 0 rfl d_mo_orderDampers_5 ?_
    refine sm_getR (n := 1) fl_mo_7 e0 rfl d_mo_orderDampers_6 ?_
    refine sm_iconst (v := 1) (by decide) d_mo_orderDampers_9 ?_
    obtain ⟨c1, hf⟩ := sm_gdE hf
    refine sm_iald (sm_at_arr (sm_inner e0 0 rfl rfl rfl)) c1 d_mo_orderDampers_10 ?_
    refine sm_icmp_ge 63 d_mo_orderDampers_11 rfl (fun c2 => ?_) (fun c2 => ?_)
    · have hf := sm_ifT c2 hf
      obtain rfl := sm_ret1 hf
      exact sm_vret d_mo_orderDampers_63 rfl
    · have hf := sm_ifF c2 hf
      refine sm_aload_n 0 rfl d_mo_orderDampers_14 ?_
      refine sm_iload 4 rfl d_mo_orderDampers_15 ?_
      refine sm_iconst (v := 1) (by decide) d_mo_orderDampers_17 ?_
      obtain ⟨r3, g4, c5, hf⟩ := sm_b2E hf
      refine sm_callV (As := [.int a4, .int 1]) (rv := some (.int r3)) (h1 := g4) (c := 10) cvv_mo_73 rfl rfl e0 (m_mo_damperOf l lo hi _ e0 c5) rfl rfl d_mo_orderDampers_18 ?_
      refine sm_iload_n 1 rfl d_mo_orderDampers_21 ?_
      refine sm_icmp_ne 57 d_mo_orderDampers_22 rfl (fun c6 => ?_) (fun c6 => ?_)
      · have hf := sm_ifF c6 hf
        exact w_mo_orderDampers_L57 l lo hi d ih _ _ _ _ _ _ e0 hf
      · have hf := sm_ifT c6 hf
        refine sm_aload_n 0 rfl d_mo_orderDampers_25 ?_
        refine sm_getR (n := 9) fl_mo_39 e0 rfl d_mo_orderDampers_26 ?_
        refine sm_iload 4 rfl d_mo_orderDampers_29 ?_
        obtain ⟨c7, hf⟩ := sm_gdE hf
        refine sm_iald (sm_at_arr (sm_inner e0 25 rfl rfl rfl)) c7 d_mo_orderDampers_31 ?_
        refine sm_if_ne 57 d_mo_orderDampers_32 rfl (fun c8 => ?_) (fun c8 => ?_)
        · have hf := sm_ifF c8 hf
          exact w_mo_orderDampers_L57 l lo hi d ih _ _ _ _ _ _ e0 hf
        · have hf := sm_ifT c8 hf
          refine sm_aload_n 0 rfl d_mo_orderDampers_35 ?_
          refine sm_getR (n := 9) fl_mo_39 e0 rfl d_mo_orderDampers_36 ?_
          refine sm_iload 4 rfl d_mo_orderDampers_39 ?_
          refine sm_aload_n 0 rfl d_mo_orderDampers_41 ?_
          refine sm_iload 4 rfl d_mo_orderDampers_42 ?_
          refine sm_iconst (v := 0) (by decide) d_mo_orderDampers_44 ?_
          obtain ⟨r9, g10, c11, hf⟩ := sm_b2E hf
          refine sm_callV (As := [.int a4, .int 0]) (rv := some (.int r9)) (h1 := g10) (c := 10) cvv_mo_73 rfl rfl e0 (m_mo_damperOf l lo hi _ e0 c11) rfl rfl d_mo_orderDampers_45 ?_
          refine sm_if_ne 55 d_mo_orderDampers_48 rfl (fun c12 => ?_) (fun c12 => ?_)
          · have hf := sm_ifF c12 hf
            refine sm_iload_n 3 rfl d_mo_orderDampers_55 ?_
            exact w_mo_orderDampers_L56 l lo hi d ih _ _ _ _ _ _ _ _ _ e0 (sm_at_arr (sm_inner e0 25 rfl rfl rfl)) hf
          · have hf := sm_ifT c12 hf
            refine sm_iload_n 2 rfl d_mo_orderDampers_51 ?_
            refine sm_goto 56 d_mo_orderDampers_52 rfl ?_
            exact w_mo_orderDampers_L56 l lo hi d ih _ _ _ _ _ _ _ _ _ e0 (sm_at_arr (sm_inner e0 25 rfl rfl rfl)) hf
theorem m_mo_orderDampers (l : Launch) (lo hi d : Nat) {a0 : Nat} {a1 : Int32} {a2 : Int32} {a3 : Int32} {h h' : sm_H} (e0 : sm_at lo hi (0, 10, 0) a0) (hf : f_mo_orderDampers a0 a1 a2 a3 h = some h') : sm_Met l lo hi (d + 1) q_mo_orderDampers [.ref a0, .int a1, .int a2, .int a3] h none h' := by
  refine sm_Met.of (by decide +kernel) rfl ?_
  show sm_W l lo hi (d + 1) q_mo_orderDampers 0 [(0, .ref a0), (1, .int a1), (2, .int a2), (3, .int a3)] [] h none h'
  unfold f_mo_orderDampers at hf
  refine sm_iconst (v := 0) (by decide) d_mo_orderDampers_0 ?_
  refine sm_istore (lv' := [(4, .int 0), (0, .ref a0), (1, .int a1), (2, .int a2), (3, .int a3)]) d_mo_orderDampers_1 rfl rfl ?_
  refine sm_sub [1, 2, 3, 4, 0] rfl ?_
  exact w_mo_orderDampers_L3 l lo hi d sm_N _ _ _ _ _ _ e0 hf
theorem d_mo_order_0 : decode q_mo_order.2.1 0 = .ok (.iload_n 1, 1) := by decide +kernel
theorem d_mo_order_1 : decode q_mo_order.2.1 1 = .ok (.tableswitch 123 0 6 #[43, 43, 71, 71, 99, 107, 115], 43) := by decide +kernel
theorem d_mo_order_44 : decode q_mo_order.2.1 44 = .ok (.aload_n 0, 1) := by decide +kernel
theorem d_mo_order_45 : decode q_mo_order.2.1 45 = .ok (.getfield 39, 3) := by decide +kernel
theorem d_mo_order_48 : decode q_mo_order.2.1 48 = .ok (.iload_n 2, 1) := by decide +kernel
theorem d_mo_order_49 : decode q_mo_order.2.1 49 = .ok (.aload_n 0, 1) := by decide +kernel
theorem d_mo_order_50 : decode q_mo_order.2.1 50 = .ok (.getfield 39, 3) := by decide +kernel
theorem d_mo_order_53 : decode q_mo_order.2.1 53 = .ok (.iload_n 2, 1) := by decide +kernel
theorem d_mo_order_54 : decode q_mo_order.2.1 54 = .ok (.iaload, 1) := by decide +kernel
theorem d_mo_order_55 : decode q_mo_order.2.1 55 = .ok (.ifCond .ne 9, 3) := by decide +kernel
theorem d_mo_order_58 : decode q_mo_order.2.1 58 = .ok (.iload_n 1, 1) := by decide +kernel
theorem d_mo_order_59 : decode q_mo_order.2.1 59 = .ok (.iconst 1, 1) := by decide +kernel
theorem d_mo_order_60 : decode q_mo_order.2.1 60 = .ok (.iadd, 1) := by decide +kernel
theorem d_mo_order_61 : decode q_mo_order.2.1 61 = .ok (.goto 9, 3) := by decide +kernel
theorem d_mo_order_64 : decode q_mo_order.2.1 64 = .ok (.aload_n 0, 1) := by decide +kernel
theorem d_mo_order_65 : decode q_mo_order.2.1 65 = .ok (.getfield 39, 3) := by decide +kernel
theorem d_mo_order_68 : decode q_mo_order.2.1 68 = .ok (.iload_n 2, 1) := by decide +kernel
theorem d_mo_order_69 : decode q_mo_order.2.1 69 = .ok (.iaload, 1) := by decide +kernel
theorem d_mo_order_70 : decode q_mo_order.2.1 70 = .ok (.iastore, 1) := by decide +kernel
theorem d_mo_order_71 : decode q_mo_order.2.1 71 = .ok (.return_, 1) := by decide +kernel
theorem d_mo_order_72 : decode q_mo_order.2.1 72 = .ok (.aload_n 0, 1) := by decide +kernel
theorem d_mo_order_73 : decode q_mo_order.2.1 73 = .ok (.getfield 42, 3) := by decide +kernel
theorem d_mo_order_76 : decode q_mo_order.2.1 76 = .ok (.iload_n 2, 1) := by decide +kernel
theorem d_mo_order_77 : decode q_mo_order.2.1 77 = .ok (.aload_n 0, 1) := by decide +kernel
theorem d_mo_order_78 : decode q_mo_order.2.1 78 = .ok (.getfield 42, 3) := by decide +kernel
theorem d_mo_order_81 : decode q_mo_order.2.1 81 = .ok (.iload_n 2, 1) := by decide +kernel
theorem d_mo_order_82 : decode q_mo_order.2.1 82 = .ok (.iaload, 1) := by decide +kernel
theorem d_mo_order_83 : decode q_mo_order.2.1 83 = .ok (.ifCond .ne 9, 3) := by decide +kernel
theorem d_mo_order_86 : decode q_mo_order.2.1 86 = .ok (.iload_n 1, 1) := by decide +kernel
theorem d_mo_order_87 : decode q_mo_order.2.1 87 = .ok (.iconst 1, 1) := by decide +kernel
theorem d_mo_order_88 : decode q_mo_order.2.1 88 = .ok (.isub, 1) := by decide +kernel
theorem d_mo_order_89 : decode q_mo_order.2.1 89 = .ok (.goto 9, 3) := by decide +kernel
theorem d_mo_order_92 : decode q_mo_order.2.1 92 = .ok (.aload_n 0, 1) := by decide +kernel
theorem d_mo_order_93 : decode q_mo_order.2.1 93 = .ok (.getfield 42, 3) := by decide +kernel
theorem d_mo_order_96 : decode q_mo_order.2.1 96 = .ok (.iload_n 2, 1) := by decide +kernel
theorem d_mo_order_97 : decode q_mo_order.2.1 97 = .ok (.iaload, 1) := by decide +kernel
theorem d_mo_order_98 : decode q_mo_order.2.1 98 = .ok (.iastore, 1) := by decide +kernel
theorem d_mo_order_99 : decode q_mo_order.2.1 99 = .ok (.return_, 1) := by decide +kernel
theorem d_mo_order_100 : decode q_mo_order.2.1 100 = .ok (.aload_n 0, 1) := by decide +kernel
theorem d_mo_order_101 : decode q_mo_order.2.1 101 = .ok (.iload_n 2, 1) := by decide +kernel
theorem d_mo_order_102 : decode q_mo_order.2.1 102 = .ok (.iconst 2, 1) := by decide +kernel
theorem d_mo_order_103 : decode q_mo_order.2.1 103 = .ok (.iconst 1, 1) := by decide +kernel
theorem d_mo_order_104 : decode q_mo_order.2.1 104 = .ok (.invokevirtual 329, 3) := by decide +kernel
theorem d_mo_order_107 : decode q_mo_order.2.1 107 = .ok (.return_, 1) := by decide +kernel
theorem d_mo_order_108 : decode q_mo_order.2.1 108 = .ok (.aload_n 0, 1) := by decide +kernel
theorem d_mo_order_109 : decode q_mo_order.2.1 109 = .ok (.iload_n 2, 1) := by decide +kernel
theorem d_mo_order_110 : decode q_mo_order.2.1 110 = .ok (.iconst 1, 1) := by decide +kernel
theorem d_mo_order_111 : decode q_mo_order.2.1 111 = .ok (.iconst 2, 1) := by decide +kernel
theorem d_mo_order_112 : decode q_mo_order.2.1 112 = .ok (.invokevirtual 329, 3) := by decide +kernel
theorem d_mo_order_115 : decode q_mo_order.2.1 115 = .ok (.return_, 1) := by decide +kernel
theorem d_mo_order_116 : decode q_mo_order.2.1 116 = .ok (.aload_n 0, 1) := by decide +kernel
theorem d_mo_order_117 : decode q_mo_order.2.1 117 = .ok (.iload_n 2, 1) := by decide +kernel
theorem d_mo_order_118 : decode q_mo_order.2.1 118 = .ok (.iconst 2, 1) := by decide +kernel
theorem d_mo_order_119 : decode q_mo_order.2.1 119 = .ok (.iconst 2, 1) := by decide +kernel
theorem d_mo_order_120 : decode q_mo_order.2.1 120 = .ok (.invokevirtual 329, 3) := by decide +kernel
theorem d_mo_order_123 : decode q_mo_order.2.1 123 = .ok (.return_, 1) := by decide +kernel
theorem d_mo_order_124 : decode q_mo_order.2.1 124 = .ok (.aload_n 0, 1) := by decide +kernel
theorem d_mo_order_125 : decode q_mo_order.2.1 125 = .ok (.iload_n 2, 1) := by decide +kernel
theorem d_mo_order_126 : decode q_mo_order.2.1 126 = .ok (.iconst 1, 1) := by decide +kernel
theorem d_mo_order_127 : decode q_mo_order.2.1 127 = .ok (.iconst 1, 1) := by decide +kernel
theorem d_mo_order_128 : decode q_mo_order.2.1 128 = .ok (.invokevirtual 329, 3) := by decide +kernel
theorem d_mo_order_131 : decode q_mo_order.2.1 131 = .ok (.return_, 1) := by decide +kernel
theorem w_mo_order_L70 (l : Launch) (lo hi d : Nat) {h' : sm_H} (s0 : Int32) (s1 : Int32) (s2 : Nat) (h : sm_H) (t2 : sm_arr lo hi 0 16 s2) (hf : f_mo_order_L70 s0 s1 s2 h = some h') : sm_W l lo hi (d + 2) q_mo_order 70 [] [.int s0, .int s1, .ref s2] h none h' := by
  unfold f_mo_order_L70 at hf
  obtain ⟨c25, hf⟩ := sm_gdE hf
  refine sm_iast t2 c25 d_mo_order_70 ?_
  refine sm_nmH (fun g26 w27 => ?_)
  have hf := sm_letV w27 hf
  obtain rfl := sm_ret1 hf
  exact sm_vret d_mo_order_71 rfl
theorem w_mo_order_L44 (l : Launch) (lo hi d : Nat) {h' : sm_H} (a0 : Nat) (a1 : Int32) (a2 : Int32) (h : sm_H) (e0 : sm_at lo hi (0, 10, 0) a0) (hf : f_mo_order_L44 a0 a1 a2 h = some h') : sm_W l lo hi (d + 2) q_mo_order 44 [(0, .ref a0), (1, .int a1), (2, .int a2)] [] h none h' := by
  unfold f_mo_order_L44 at hf
  refine sm_aload_n 0 rfl d_mo_order_44 ?_
  refine sm_getR (n := 9) fl_mo_39 e0 rfl d_mo_order_45 ?_
  refine sm_iload_n 2 rfl d_mo_order_48 ?_
  refine sm_aload_n 0 rfl d_mo_order_49 ?_
  refine sm_getR (n := 9) fl_mo_39 e0 rfl d_mo_order_50 ?_
  refine sm_iload_n 2 rfl d_mo_order_53 ?_
  obtain ⟨c22, hf⟩ := sm_gdE hf
  refine sm_iald (sm_at_arr (sm_inner e0 25 rfl rfl rfl)) c22 d_mo_order_54 ?_
  refine sm_if_ne 64 d_mo_order_55 rfl (fun c23 => ?_) (fun c23 => ?_)
  · have hf := sm_ifF c23 hf
    refine sm_aload_n 0 rfl d_mo_order_64 ?_
    refine sm_getR (n := 9) fl_mo_39 e0 rfl d_mo_order_65 ?_
    refine sm_iload_n 2 rfl d_mo_order_68 ?_
    obtain ⟨c24, hf⟩ := sm_gdE hf
    refine sm_iald (sm_at_arr (sm_inner e0 25 rfl rfl rfl)) c24 d_mo_order_69 ?_
    refine sm_sub [] rfl ?_
    exact w_mo_order_L70 l lo hi d _ _ _ _ (sm_at_arr (sm_inner e0 25 rfl rfl rfl)) hf
  · have hf := sm_ifT c23 hf
    refine sm_iload_n 1 rfl d_mo_order_58 ?_
    refine sm_iconst (v := 1) (by decide) d_mo_order_59 ?_
    refine sm_iadd d_mo_order_60 ?_
    refine sm_goto 70 d_mo_order_61 rfl ?_
    refine sm_sub [] rfl ?_
    exact w_mo_order_L70 l lo hi d _ _ _ _ (sm_at_arr (sm_inner e0 25 rfl rfl rfl)) hf
theorem w_mo_order_L98 (l : Launch) (lo hi d : Nat) {h' : sm_H} (s0 : Int32) (s1 : Int32) (s2 : Nat) (h : sm_H) (t2 : sm_arr lo hi 0 6 s2) (hf : f_mo_order_L98 s0 s1 s2 h = some h') : sm_W l lo hi (d + 2) q_mo_order 98 [] [.int s0, .int s1, .ref s2] h none h' := by
  unfold f_mo_order_L98 at hf
  obtain ⟨c19, hf⟩ := sm_gdE hf
  refine sm_iast t2 c19 d_mo_order_98 ?_
  refine sm_nmH (fun g20 w21 => ?_)
  have hf := sm_letV w21 hf
  obtain rfl := sm_ret1 hf
  exact sm_vret d_mo_order_99 rfl
theorem w_mo_order_L72 (l : Launch) (lo hi d : Nat) {h' : sm_H} (a0 : Nat) (a1 : Int32) (a2 : Int32) (h : sm_H) (e0 : sm_at lo hi (0, 10, 0) a0) (hf : f_mo_order_L72 a0 a1 a2 h = some h') : sm_W l lo hi (d + 2) q_mo_order 72 [(0, .ref a0), (1, .int a1), (2, .int a2)] [] h none h' := by
  unfold f_mo_order_L72 at hf
  refine sm_aload_n 0 rfl d_mo_order_72 ?_
  refine sm_getR (n := 10) fl_mo_42 e0 rfl d_mo_order_73 ?_
  refine sm_iload_n 2 rfl d_mo_order_76 ?_
  refine sm_aload_n 0 rfl d_mo_order_77 ?_
  refine sm_getR (n := 10) fl_mo_42 e0 rfl d_mo_order_78 ?_
  refine sm_iload_n 2 rfl d_mo_order_81 ?_
  obtain ⟨c16, hf⟩ := sm_gdE hf
  refine sm_iald (sm_at_arr (sm_inner e0 26 rfl rfl rfl)) c16 d_mo_order_82 ?_
  refine sm_if_ne 92 d_mo_order_83 rfl (fun c17 => ?_) (fun c17 => ?_)
  · have hf := sm_ifF c17 hf
    refine sm_aload_n 0 rfl d_mo_order_92 ?_
    refine sm_getR (n := 10) fl_mo_42 e0 rfl d_mo_order_93 ?_
    refine sm_iload_n 2 rfl d_mo_order_96 ?_
    obtain ⟨c18, hf⟩ := sm_gdE hf
    refine sm_iald (sm_at_arr (sm_inner e0 26 rfl rfl rfl)) c18 d_mo_order_97 ?_
    refine sm_sub [] rfl ?_
    exact w_mo_order_L98 l lo hi d _ _ _ _ (sm_at_arr (sm_inner e0 26 rfl rfl rfl)) hf
  · have hf := sm_ifT c17 hf
    refine sm_iload_n 1 rfl d_mo_order_86 ?_
    refine sm_iconst (v := 1) (by decide) d_mo_order_87 ?_
    refine sm_isub d_mo_order_88 ?_
    refine sm_goto 98 d_mo_order_89 rfl ?_
    refine sm_sub [] rfl ?_
    exact w_mo_order_L98 l lo hi d _ _ _ _ (sm_at_arr (sm_inner e0 26 rfl rfl rfl)) hf
theorem m_mo_order (l : Launch) (lo hi d : Nat) {a0 : Nat} {a1 : Int32} {a2 : Int32} {h h' : sm_H} (e0 : sm_at lo hi (0, 10, 0) a0) (hf : f_mo_order a0 a1 a2 h = some h') : sm_Met l lo hi (d + 2) q_mo_order [.ref a0, .int a1, .int a2] h none h' := by
  refine sm_Met.of (by decide +kernel) rfl ?_
  show sm_W l lo hi (d + 2) q_mo_order 0 [(0, .ref a0), (1, .int a1), (2, .int a2)] [] h none h'
  unfold f_mo_order at hf
  refine sm_iload_n 1 rfl d_mo_order_0 ?_
  by_cases c1 : a1 = 0
  · have hf := sm_ifT c1 hf
    refine sm_tableIn 44 d_mo_order_1 (by rw [c1]; decide) (by rw [c1]; decide) (by rw [c1]; rfl) rfl ?_
    exact w_mo_order_L44 l lo hi d _ _ _ _ e0 hf
  have hf := sm_ifF c1 hf
  by_cases c2 : a1 = 1
  · have hf := sm_ifT c2 hf
    refine sm_tableIn 44 d_mo_order_1 (by rw [c2]; decide) (by rw [c2]; decide) (by rw [c2]; rfl) rfl ?_
    exact w_mo_order_L44 l lo hi d _ _ _ _ e0 hf
  have hf := sm_ifF c2 hf
  by_cases c3 : a1 = 2
  · have hf := sm_ifT c3 hf
    refine sm_tableIn 72 d_mo_order_1 (by rw [c3]; decide) (by rw [c3]; decide) (by rw [c3]; rfl) rfl ?_
    exact w_mo_order_L72 l lo hi d _ _ _ _ e0 hf
  have hf := sm_ifF c3 hf
  by_cases c4 : a1 = 3
  · have hf := sm_ifT c4 hf
    refine sm_tableIn 72 d_mo_order_1 (by rw [c4]; decide) (by rw [c4]; decide) (by rw [c4]; rfl) rfl ?_
    exact w_mo_order_L72 l lo hi d _ _ _ _ e0 hf
  have hf := sm_ifF c4 hf
  by_cases c5 : a1 = 4
  · have hf := sm_ifT c5 hf
    refine sm_tableIn 100 d_mo_order_1 (by rw [c5]; decide) (by rw [c5]; decide) (by rw [c5]; rfl) rfl ?_
    refine sm_aload_n 0 rfl d_mo_order_100 ?_
    refine sm_iload_n 2 rfl d_mo_order_101 ?_
    refine sm_iconst (v := 2) (by decide) d_mo_order_102 ?_
    refine sm_iconst (v := 1) (by decide) d_mo_order_103 ?_
    obtain ⟨g6, c7, hf⟩ := sm_bindE hf
    refine sm_callV (As := [.int a2, .int 2, .int 1]) (rv := none) (h1 := g6) (c := 10) cvv_mo_329 rfl rfl e0 (m_mo_orderDampers l lo hi _ e0 c7) rfl rfl d_mo_order_104 ?_
    obtain rfl := sm_ret1 hf
    exact sm_vret d_mo_order_107 rfl
  have hf := sm_ifF c5 hf
  by_cases c8 : a1 = 5
  · have hf := sm_ifT c8 hf
    refine sm_tableIn 108 d_mo_order_1 (by rw [c8]; decide) (by rw [c8]; decide) (by rw [c8]; rfl) rfl ?_
    refine sm_aload_n 0 rfl d_mo_order_108 ?_
    refine sm_iload_n 2 rfl d_mo_order_109 ?_
    refine sm_iconst (v := 1) (by decide) d_mo_order_110 ?_
    refine sm_iconst (v := 2) (by decide) d_mo_order_111 ?_
    obtain ⟨g9, c10, hf⟩ := sm_bindE hf
    refine sm_callV (As := [.int a2, .int 1, .int 2]) (rv := none) (h1 := g9) (c := 10) cvv_mo_329 rfl rfl e0 (m_mo_orderDampers l lo hi _ e0 c10) rfl rfl d_mo_order_112 ?_
    obtain rfl := sm_ret1 hf
    exact sm_vret d_mo_order_115 rfl
  have hf := sm_ifF c8 hf
  by_cases c11 : a1 = 6
  · have hf := sm_ifT c11 hf
    refine sm_tableIn 116 d_mo_order_1 (by rw [c11]; decide) (by rw [c11]; decide) (by rw [c11]; rfl) rfl ?_
    refine sm_aload_n 0 rfl d_mo_order_116 ?_
    refine sm_iload_n 2 rfl d_mo_order_117 ?_
    refine sm_iconst (v := 2) (by decide) d_mo_order_118 ?_
    refine sm_iconst (v := 2) (by decide) d_mo_order_119 ?_
    obtain ⟨g12, c13, hf⟩ := sm_bindE hf
    refine sm_callV (As := [.int a2, .int 2, .int 2]) (rv := none) (h1 := g12) (c := 10) cvv_mo_329 rfl rfl e0 (m_mo_orderDampers l lo hi _ e0 c13) rfl rfl d_mo_order_120 ?_
    obtain rfl := sm_ret1 hf
    exact sm_vret d_mo_order_123 rfl
  have hf := sm_ifF c11 hf
  refine sm_tableOut 124 d_mo_order_1 (sm_swOut 0 7 (by decide) (by decide) (fun j hj => by match j, hj with | 0, _ => exact c1 | 1, _ => exact c2 | 2, _ => exact c3 | 3, _ => exact c4 | 4, _ => exact c5 | 5, _ => exact c8 | 6, _ => exact c11 | j + 7, hj => exact absurd hj (by omega))) rfl ?_
  refine sm_aload_n 0 rfl d_mo_order_124 ?_
  refine sm_iload_n 2 rfl d_mo_order_125 ?_
  refine sm_iconst (v := 1) (by decide) d_mo_order_126 ?_
  refine sm_iconst (v := 1) (by decide) d_mo_order_127 ?_
  obtain ⟨g14, c15, hf⟩ := sm_bindE hf
  refine sm_callV (As := [.int a2, .int 1, .int 1]) (rv := none) (h1 := g14) (c := 10) cvv_mo_329 rfl rfl e0 (m_mo_orderDampers l lo hi _ e0 c15) rfl rfl d_mo_order_128 ?_
  obtain rfl := sm_ret1 hf
  exact sm_vret d_mo_order_131 rfl
theorem d_mo_rule_0 : decode q_mo_rule.2.1 0 = .ok (.iconst 0, 1) := by decide +kernel
theorem d_mo_rule_1 : decode q_mo_rule.2.1 1 = .ok (.istore_n 1, 1) := by decide +kernel
theorem d_mo_rule_2 : decode q_mo_rule.2.1 2 = .ok (.iload_n 1, 1) := by decide +kernel
theorem d_mo_rule_3 : decode q_mo_rule.2.1 3 = .ok (.bipush 16, 2) := by decide +kernel
theorem d_mo_rule_5 : decode q_mo_rule.2.1 5 = .ok (.if_icmp .ge 16, 3) := by decide +kernel
theorem d_mo_rule_8 : decode q_mo_rule.2.1 8 = .ok (.aload_n 0, 1) := by decide +kernel
theorem d_mo_rule_9 : decode q_mo_rule.2.1 9 = .ok (.getfield 39, 3) := by decide +kernel
theorem d_mo_rule_12 : decode q_mo_rule.2.1 12 = .ok (.iload_n 1, 1) := by decide +kernel
theorem d_mo_rule_13 : decode q_mo_rule.2.1 13 = .ok (.iconst 0, 1) := by decide +kernel
theorem d_mo_rule_14 : decode q_mo_rule.2.1 14 = .ok (.iastore, 1) := by decide +kernel
theorem d_mo_rule_15 : decode q_mo_rule.2.1 15 = .ok (.iinc 1 1, 3) := by decide +kernel
theorem d_mo_rule_18 : decode q_mo_rule.2.1 18 = .ok (.goto (-16), 3) := by decide +kernel
theorem d_mo_rule_21 : decode q_mo_rule.2.1 21 = .ok (.iconst 0, 1) := by decide +kernel
theorem d_mo_rule_22 : decode q_mo_rule.2.1 22 = .ok (.istore_n 1, 1) := by decide +kernel
theorem d_mo_rule_23 : decode q_mo_rule.2.1 23 = .ok (.iload_n 1, 1) := by decide +kernel
theorem d_mo_rule_24 : decode q_mo_rule.2.1 24 = .ok (.bipush 6, 2) := by decide +kernel
theorem d_mo_rule_26 : decode q_mo_rule.2.1 26 = .ok (.if_icmp .ge 16, 3) := by decide +kernel
theorem d_mo_rule_29 : decode q_mo_rule.2.1 29 = .ok (.aload_n 0, 1) := by decide +kernel
theorem d_mo_rule_30 : decode q_mo_rule.2.1 30 = .ok (.getfield 42, 3) := by decide +kernel
theorem d_mo_rule_33 : decode q_mo_rule.2.1 33 = .ok (.iload_n 1, 1) := by decide +kernel
theorem d_mo_rule_34 : decode q_mo_rule.2.1 34 = .ok (.iconst 0, 1) := by decide +kernel
theorem d_mo_rule_35 : decode q_mo_rule.2.1 35 = .ok (.iastore, 1) := by decide +kernel
theorem d_mo_rule_36 : decode q_mo_rule.2.1 36 = .ok (.iinc 1 1, 3) := by decide +kernel
theorem d_mo_rule_39 : decode q_mo_rule.2.1 39 = .ok (.goto (-16), 3) := by decide +kernel
theorem d_mo_rule_42 : decode q_mo_rule.2.1 42 = .ok (.iconst 0, 1) := by decide +kernel
theorem d_mo_rule_43 : decode q_mo_rule.2.1 43 = .ok (.istore_n 1, 1) := by decide +kernel
theorem d_mo_rule_44 : decode q_mo_rule.2.1 44 = .ok (.iload_n 1, 1) := by decide +kernel
theorem d_mo_rule_45 : decode q_mo_rule.2.1 45 = .ok (.aload_n 0, 1) := by decide +kernel
theorem d_mo_rule_46 : decode q_mo_rule.2.1 46 = .ok (.getfield 7, 3) := by decide +kernel
theorem d_mo_rule_49 : decode q_mo_rule.2.1 49 = .ok (.iconst 4, 1) := by decide +kernel
theorem d_mo_rule_50 : decode q_mo_rule.2.1 50 = .ok (.iaload, 1) := by decide +kernel
theorem d_mo_rule_51 : decode q_mo_rule.2.1 51 = .ok (.if_icmp .ge 96, 3) := by decide +kernel
theorem d_mo_rule_54 : decode q_mo_rule.2.1 54 = .ok (.aload_n 0, 1) := by decide +kernel
theorem d_mo_rule_55 : decode q_mo_rule.2.1 55 = .ok (.invokevirtual 317, 3) := by decide +kernel
theorem d_mo_rule_58 : decode q_mo_rule.2.1 58 = .ok (.ifCond .eq 89, 3) := by decide +kernel
theorem d_mo_rule_61 : decode q_mo_rule.2.1 61 = .ok (.aload_n 0, 1) := by decide +kernel
theorem d_mo_rule_62 : decode q_mo_rule.2.1 62 = .ok (.iload_n 1, 1) := by decide +kernel
theorem d_mo_rule_63 : decode q_mo_rule.2.1 63 = .ok (.invokevirtual 332, 3) := by decide +kernel
theorem d_mo_rule_66 : decode q_mo_rule.2.1 66 = .ok (.ifCond .ne 6, 3) := by decide +kernel
theorem d_mo_rule_69 : decode q_mo_rule.2.1 69 = .ok (.goto 72, 3) := by decide +kernel
theorem d_mo_rule_72 : decode q_mo_rule.2.1 72 = .ok (.aload_n 0, 1) := by decide +kernel
theorem d_mo_rule_73 : decode q_mo_rule.2.1 73 = .ok (.getfield 7, 3) := by decide +kernel
theorem d_mo_rule_76 : decode q_mo_rule.2.1 76 = .ok (.sipush 128, 3) := by decide +kernel
theorem d_mo_rule_79 : decode q_mo_rule.2.1 79 = .ok (.iconst 4, 1) := by decide +kernel
theorem d_mo_rule_80 : decode q_mo_rule.2.1 80 = .ok (.iload_n 1, 1) := by decide +kernel
theorem d_mo_rule_81 : decode q_mo_rule.2.1 81 = .ok (.imul, 1) := by decide +kernel
theorem d_mo_rule_82 : decode q_mo_rule.2.1 82 = .ok (.iadd, 1) := by decide +kernel
theorem d_mo_rule_83 : decode q_mo_rule.2.1 83 = .ok (.iconst 2, 1) := by decide +kernel
theorem d_mo_rule_84 : decode q_mo_rule.2.1 84 = .ok (.iadd, 1) := by decide +kernel
theorem d_mo_rule_85 : decode q_mo_rule.2.1 85 = .ok (.iaload, 1) := by decide +kernel
theorem d_mo_rule_86 : decode q_mo_rule.2.1 86 = .ok (.istore_n 2, 1) := by decide +kernel
theorem d_mo_rule_87 : decode q_mo_rule.2.1 87 = .ok (.iload_n 2, 1) := by decide +kernel
theorem d_mo_rule_88 : decode q_mo_rule.2.1 88 = .ok (.aload_n 0, 1) := by decide +kernel
theorem d_mo_rule_89 : decode q_mo_rule.2.1 89 = .ok (.getfield 7, 3) := by decide +kernel
theorem d_mo_rule_92 : decode q_mo_rule.2.1 92 = .ok (.sipush 128, 3) := by decide +kernel
theorem d_mo_rule_95 : decode q_mo_rule.2.1 95 = .ok (.iconst 4, 1) := by decide +kernel
theorem d_mo_rule_96 : decode q_mo_rule.2.1 96 = .ok (.iload_n 1, 1) := by decide +kernel
theorem d_mo_rule_97 : decode q_mo_rule.2.1 97 = .ok (.imul, 1) := by decide +kernel
theorem d_mo_rule_98 : decode q_mo_rule.2.1 98 = .ok (.iadd, 1) := by decide +kernel
theorem d_mo_rule_99 : decode q_mo_rule.2.1 99 = .ok (.iconst 3, 1) := by decide +kernel
theorem d_mo_rule_100 : decode q_mo_rule.2.1 100 = .ok (.iadd, 1) := by decide +kernel
theorem d_mo_rule_101 : decode q_mo_rule.2.1 101 = .ok (.iaload, 1) := by decide +kernel
theorem d_mo_rule_102 : decode q_mo_rule.2.1 102 = .ok (.if_icmp .ge 39, 3) := by decide +kernel
theorem d_mo_rule_105 : decode q_mo_rule.2.1 105 = .ok (.aload_n 0, 1) := by decide +kernel
theorem d_mo_rule_106 : decode q_mo_rule.2.1 106 = .ok (.aload_n 0, 1) := by decide +kernel
theorem d_mo_rule_107 : decode q_mo_rule.2.1 107 = .ok (.getfield 7, 3) := by decide +kernel
theorem d_mo_rule_110 : decode q_mo_rule.2.1 110 = .ok (.sipush 1076, 3) := by decide +kernel
theorem d_mo_rule_113 : decode q_mo_rule.2.1 113 = .ok (.iconst 2, 1) := by decide +kernel
theorem d_mo_rule_114 : decode q_mo_rule.2.1 114 = .ok (.iload_n 2, 1) := by decide +kernel
theorem d_mo_rule_115 : decode q_mo_rule.2.1 115 = .ok (.imul, 1) := by decide +kernel
theorem d_mo_rule_116 : decode q_mo_rule.2.1 116 = .ok (.iadd, 1) := by decide +kernel
theorem d_mo_rule_117 : decode q_mo_rule.2.1 117 = .ok (.iaload, 1) := by decide +kernel
theorem d_mo_rule_118 : decode q_mo_rule.2.1 118 = .ok (.aload_n 0, 1) := by decide +kernel
theorem d_mo_rule_119 : decode q_mo_rule.2.1 119 = .ok (.getfield 7, 3) := by decide +kernel
theorem d_mo_rule_122 : decode q_mo_rule.2.1 122 = .ok (.sipush 1076, 3) := by decide +kernel
theorem d_mo_rule_125 : decode q_mo_rule.2.1 125 = .ok (.iconst 2, 1) := by decide +kernel
theorem d_mo_rule_126 : decode q_mo_rule.2.1 126 = .ok (.iload_n 2, 1) := by decide +kernel
theorem d_mo_rule_127 : decode q_mo_rule.2.1 127 = .ok (.imul, 1) := by decide +kernel
theorem d_mo_rule_128 : decode q_mo_rule.2.1 128 = .ok (.iadd, 1) := by decide +kernel
theorem d_mo_rule_129 : decode q_mo_rule.2.1 129 = .ok (.iconst 1, 1) := by decide +kernel
theorem d_mo_rule_130 : decode q_mo_rule.2.1 130 = .ok (.iadd, 1) := by decide +kernel
theorem d_mo_rule_131 : decode q_mo_rule.2.1 131 = .ok (.iaload, 1) := by decide +kernel
theorem d_mo_rule_132 : decode q_mo_rule.2.1 132 = .ok (.invokevirtual 335, 3) := by decide +kernel
theorem d_mo_rule_135 : decode q_mo_rule.2.1 135 = .ok (.iinc 2 1, 3) := by decide +kernel
theorem d_mo_rule_138 : decode q_mo_rule.2.1 138 = .ok (.goto (-51), 3) := by decide +kernel
theorem d_mo_rule_141 : decode q_mo_rule.2.1 141 = .ok (.iinc 1 1, 3) := by decide +kernel
theorem d_mo_rule_144 : decode q_mo_rule.2.1 144 = .ok (.goto (-100), 3) := by decide +kernel
theorem d_mo_rule_147 : decode q_mo_rule.2.1 147 = .ok (.return_, 1) := by decide +kernel
theorem w_mo_rule_L141 (l : Launch) (lo hi d : Nat) {k44 : Nat → Int32 → sm_H → Option sm_H} {h' : sm_H} (hk44 : ∀ (a0 : Nat) (a1 : Int32) (h : sm_H) (_ : sm_at lo hi (0, 10, 0) a0) , k44 a0 a1 h = some h' → sm_W l lo hi (d + 4) q_mo_rule 44 [(0, .ref a0), (1, .int a1)] [] h none h') (a0 : Nat) (a1 : Int32) (h : sm_H) (e0 : sm_at lo hi (0, 10, 0) a0) (hf : f_mo_rule_L141 k44 a0 a1 h = some h') : sm_W l lo hi (d + 4) q_mo_rule 141 [(0, .ref a0), (1, .int a1)] [] h none h' := by
  unfold f_mo_rule_L141 at hf
  obtain ⟨x34, w35⟩ : ∃ v : Int32, v = a1 + 1 := ⟨_, rfl⟩
  have hf := sm_letV w35 hf
  refine sm_iinc (v := x34) (lv' := [(1, .int x34), (0, .ref a0)]) 1 rfl (by rw [w35]; rfl) d_mo_rule_141 rfl rfl ?_
  refine sm_goto 44 d_mo_rule_144 rfl ?_
  refine sm_sub [1, 0] rfl ?_
  exact hk44 _ _ _ e0 hf
theorem w_mo_rule_L87 (l : Launch) (lo hi d : Nat) {k44 : Nat → Int32 → sm_H → Option sm_H} {h' : sm_H} (hk44 : ∀ (a0 : Nat) (a1 : Int32) (h : sm_H) (_ : sm_at lo hi (0, 10, 0) a0) , k44 a0 a1 h = some h' → sm_W l lo hi (d + 4) q_mo_rule 44 [(0, .ref a0), (1, .int a1)] [] h none h') : ∀ (n : Nat) (a0 : Nat) (a1 : Int32) (a2 : Int32) (h : sm_H) (e0 : sm_at lo hi (0, 10, 0) a0) (hf : f_mo_rule_L87 k44 n a0 a1 a2 h = some h'), sm_W l lo hi (d + 4) q_mo_rule 87 [(0, .ref a0), (1, .int a1), (2, .int a2)] [] h none h' := by
  intro n
  induction n with
  | zero =>
    intro a0 a1 a2 h e0 hf
    have z : (none : Option sm_H) = some _ := hf
    cases z
  | succ n ih =>
    intro a0 a1 a2 h e0 hf
    unfold f_mo_rule_L87 at hf
    refine sm_iload_n 2 rfl d_mo_rule_87 ?_
    refine sm_aload_n 0 rfl d_mo_rule_88 ?_
    refine sm_getR (n := 1) fl_mo_7 e0 rfl d_mo_rule_89 ?_
    refine sm_sipush (v := 128) (by decide) d_mo_rule_92 ?_
    refine sm_iconst (v := 4) (by decide) d_mo_rule_95 ?_
    refine sm_iload_n 1 rfl d_mo_rule_96 ?_
    refine sm_imul d_mo_rule_97 ?_
    refine sm_iadd d_mo_rule_98 ?_
    refine sm_iconst (v := 3) (by decide) d_mo_rule_99 ?_
    refine sm_iadd d_mo_rule_100 ?_
    obtain ⟨c26, hf⟩ := sm_gdE hf
    refine sm_iald (sm_at_arr (sm_inner e0 0 rfl rfl rfl)) c26 d_mo_rule_101 ?_
    refine sm_icmp_ge 141 d_mo_rule_102 rfl (fun c27 => ?_) (fun c27 => ?_)
    · have hf := sm_ifT c27 hf
      refine sm_sub [0, 1] rfl ?_
      exact w_mo_rule_L141 l lo hi d hk44 _ _ _ e0 hf
    · have hf := sm_ifF c27 hf
      refine sm_aload_n 0 rfl d_mo_rule_105 ?_
      refine sm_aload_n 0 rfl d_mo_rule_106 ?_
      refine sm_getR (n := 1) fl_mo_7 e0 rfl d_mo_rule_107 ?_
      refine sm_sipush (v := 1076) (by decide) d_mo_rule_110 ?_
      refine sm_iconst (v := 2) (by decide) d_mo_rule_113 ?_
      refine sm_iload_n 2 rfl d_mo_rule_114 ?_
      refine sm_imul d_mo_rule_115 ?_
      refine sm_iadd d_mo_rule_116 ?_
      obtain ⟨c28, hf⟩ := sm_gdE hf
      refine sm_iald (sm_at_arr (sm_inner e0 0 rfl rfl rfl)) c28 d_mo_rule_117 ?_
      refine sm_aload_n 0 rfl d_mo_rule_118 ?_
      refine sm_getR (n := 1) fl_mo_7 e0 rfl d_mo_rule_119 ?_
      refine sm_sipush (v := 1076) (by decide) d_mo_rule_122 ?_
      refine sm_iconst (v := 2) (by decide) d_mo_rule_125 ?_
      refine sm_iload_n 2 rfl d_mo_rule_126 ?_
      refine sm_imul d_mo_rule_127 ?_
      refine sm_iadd d_mo_rule_128 ?_
      refine sm_iconst (v := 1) (by decide) d_mo_rule_129 ?_
      refine sm_iadd d_mo_rule_130 ?_
      obtain ⟨c29, hf⟩ := sm_gdE hf
      refine sm_iald (sm_at_arr (sm_inner e0 0 rfl rfl rfl)) c29 d_mo_rule_131 ?_
      obtain ⟨g30, c31, hf⟩ := sm_bindE hf
      refine sm_callV (As := [.int (h (a0 + 1) (1076 + (2 * a2) : Int32).toNatClampNeg), .int (h (a0 + 1) ((1076 + (2 * a2)) + 1 : Int32).toNatClampNeg)]) (rv := none) (h1 := g30) (c := 10) cvv_mo_335 rfl rfl e0 (m_mo_order l lo hi _ e0 c31) rfl rfl d_mo_rule_132 ?_
      obtain ⟨x32, w33⟩ : ∃ v : Int32, v = a2 + 1 := ⟨_, rfl⟩
      have hf := sm_letV w33 hf
      refine sm_iinc (v := x32) (lv' := [(2, .int x32), (0, .ref a0), (1, .int a1)]) 2 rfl (by rw [w33]; rfl) d_mo_rule_135 rfl rfl ?_
      refine sm_goto 87 d_mo_rule_138 rfl ?_
      refine sm_sub [1, 2, 0] rfl ?_
      exact ih _ _ _ _ e0 hf
theorem w_mo_rule_L44 (l : Launch) (lo hi d : Nat) {h' : sm_H} : ∀ (n : Nat) (a0 : Nat) (a1 : Int32) (h : sm_H) (e0 : sm_at lo hi (0, 10, 0) a0) (hf : f_mo_rule_L44 n a0 a1 h = some h'), sm_W l lo hi (d + 4) q_mo_rule 44 [(0, .ref a0), (1, .int a1)] [] h none h' := by
  intro n
  induction n with
  | zero =>
    intro a0 a1 h e0 hf
    have z : (none : Option sm_H) = some _ := hf
    cases z
  | succ n ih =>
    intro a0 a1 h e0 hf
    unfold f_mo_rule_L44 at hf
    refine sm_iload_n 1 rfl d_mo_rule_44 ?_
    refine sm_aload_n 0 rfl d_mo_rule_45 ?_
    refine sm_getR (n := 1) fl_mo_7 e0 rfl d_mo_rule_46 ?_
    refine sm_iconst (v := 4) (by decide) d_mo_rule_49 ?_
    obtain ⟨c13, hf⟩ := sm_gdE hf
    refine sm_iald (sm_at_arr (sm_inner e0 0 rfl rfl rfl)) c13 d_mo_rule_50 ?_
    refine sm_icmp_ge 147 d_mo_rule_51 rfl (fun c14 => ?_) (fun c14 => ?_)
    · have hf := sm_ifT c14 hf
      obtain rfl := sm_ret1 hf
      exact sm_vret d_mo_rule_147 rfl
    · have hf := sm_ifF c14 hf
      refine sm_aload_n 0 rfl d_mo_rule_54 ?_
      obtain ⟨r15, g16, c17, hf⟩ := sm_b2E hf
      refine sm_callV (As := []) (rv := some (.int r15)) (h1 := g16) (c := 10) cvv_mo_317 rfl rfl e0 (m_mo_isAlarm l lo hi _ e0 c17) rfl rfl d_mo_rule_55 ?_
      refine sm_if_eq 147 d_mo_rule_58 rfl (fun c18 => ?_) (fun c18 => ?_)
      · have hf := sm_ifT c18 hf
        obtain rfl := sm_ret1 hf
        exact sm_vret d_mo_rule_147 rfl
      · have hf := sm_ifF c18 hf
        refine sm_aload_n 0 rfl d_mo_rule_61 ?_
        refine sm_iload_n 1 rfl d_mo_rule_62 ?_
        obtain ⟨r19, g20, c21, hf⟩ := sm_b2E hf
        refine sm_callV (As := [.int a1]) (rv := some (.int r19)) (h1 := g20) (c := 10) cvv_mo_332 rfl rfl e0 (m_mo_isHolding l lo hi _ e0 c21) rfl rfl d_mo_rule_63 ?_
        refine sm_if_ne 72 d_mo_rule_66 rfl (fun c22 => ?_) (fun c22 => ?_)
        · have hf := sm_ifF c22 hf
          refine sm_aload_n 0 rfl d_mo_rule_72 ?_
          refine sm_getR (n := 1) fl_mo_7 e0 rfl d_mo_rule_73 ?_
          refine sm_sipush (v := 128) (by decide) d_mo_rule_76 ?_
          refine sm_iconst (v := 4) (by decide) d_mo_rule_79 ?_
          refine sm_iload_n 1 rfl d_mo_rule_80 ?_
          refine sm_imul d_mo_rule_81 ?_
          refine sm_iadd d_mo_rule_82 ?_
          refine sm_iconst (v := 2) (by decide) d_mo_rule_83 ?_
          refine sm_iadd d_mo_rule_84 ?_
          obtain ⟨c23, hf⟩ := sm_gdE hf
          refine sm_iald (sm_at_arr (sm_inner e0 0 rfl rfl rfl)) c23 d_mo_rule_85 ?_
          refine sm_nmI (fun x24 w25 => ?_)
          have hf := sm_letV w25 hf
          refine sm_istore_n (lv' := [(2, .int x24), (0, .ref a0), (1, .int a1)]) d_mo_rule_86 rfl rfl ?_
          refine sm_sub [1, 2, 0] rfl ?_
          exact w_mo_rule_L87 l lo hi d ih sm_N _ _ _ _ e0 hf
        · have hf := sm_ifT c22 hf
          refine sm_goto 141 d_mo_rule_69 rfl ?_
          exact w_mo_rule_L141 l lo hi d ih _ _ _ e0 hf
theorem w_mo_rule_L42 (l : Launch) (lo hi d : Nat) {h' : sm_H} (a0 : Nat) (h : sm_H) (e0 : sm_at lo hi (0, 10, 0) a0) (hf : f_mo_rule_L42 a0 h = some h') : sm_W l lo hi (d + 4) q_mo_rule 42 [(0, .ref a0)] [] h none h' := by
  unfold f_mo_rule_L42 at hf
  refine sm_iconst (v := 0) (by decide) d_mo_rule_42 ?_
  refine sm_istore_n (lv' := [(1, .int 0), (0, .ref a0)]) d_mo_rule_43 rfl rfl ?_
  refine sm_sub [1, 0] rfl ?_
  exact w_mo_rule_L44 l lo hi d sm_N _ _ _ e0 hf
theorem w_mo_rule_L23 (l : Launch) (lo hi d : Nat) {h' : sm_H} : ∀ (n : Nat) (a0 : Nat) (a1 : Int32) (h : sm_H) (e0 : sm_at lo hi (0, 10, 0) a0) (hf : f_mo_rule_L23 n a0 a1 h = some h'), sm_W l lo hi (d + 4) q_mo_rule 23 [(0, .ref a0), (1, .int a1)] [] h none h' := by
  intro n
  induction n with
  | zero =>
    intro a0 a1 h e0 hf
    have z : (none : Option sm_H) = some _ := hf
    cases z
  | succ n ih =>
    intro a0 a1 h e0 hf
    unfold f_mo_rule_L23 at hf
    refine sm_iload_n 1 rfl d_mo_rule_23 ?_
    refine sm_bipush (v := 6) (by decide) d_mo_rule_24 ?_
    refine sm_icmp_ge 42 d_mo_rule_26 rfl (fun c7 => ?_) (fun c7 => ?_)
    · have hf := sm_ifT c7 hf
      refine sm_sub [0] rfl ?_
      exact w_mo_rule_L42 l lo hi d _ _ e0 hf
    · have hf := sm_ifF c7 hf
      refine sm_aload_n 0 rfl d_mo_rule_29 ?_
      refine sm_getR (n := 10) fl_mo_42 e0 rfl d_mo_rule_30 ?_
      refine sm_iload_n 1 rfl d_mo_rule_33 ?_
      refine sm_iconst (v := 0) (by decide) d_mo_rule_34 ?_
      obtain ⟨c8, hf⟩ := sm_gdE hf
      refine sm_iast (sm_at_arr (sm_inner e0 26 rfl rfl rfl)) c8 d_mo_rule_35 ?_
      refine sm_nmH (fun g9 w10 => ?_)
      have hf := sm_letV w10 hf
      obtain ⟨x11, w12⟩ : ∃ v : Int32, v = a1 + 1 := ⟨_, rfl⟩
      have hf := sm_letV w12 hf
      refine sm_iinc (v := x11) (lv' := [(1, .int x11), (0, .ref a0)]) 1 rfl (by rw [w12]; rfl) d_mo_rule_36 rfl rfl ?_
      refine sm_goto 23 d_mo_rule_39 rfl ?_
      refine sm_sub [1, 0] rfl ?_
      exact ih _ _ _ e0 hf
theorem w_mo_rule_L21 (l : Launch) (lo hi d : Nat) {h' : sm_H} (a0 : Nat) (h : sm_H) (e0 : sm_at lo hi (0, 10, 0) a0) (hf : f_mo_rule_L21 a0 h = some h') : sm_W l lo hi (d + 4) q_mo_rule 21 [(0, .ref a0)] [] h none h' := by
  unfold f_mo_rule_L21 at hf
  refine sm_iconst (v := 0) (by decide) d_mo_rule_21 ?_
  refine sm_istore_n (lv' := [(1, .int 0), (0, .ref a0)]) d_mo_rule_22 rfl rfl ?_
  refine sm_sub [1, 0] rfl ?_
  exact w_mo_rule_L23 l lo hi d sm_N _ _ _ e0 hf
theorem w_mo_rule_L2 (l : Launch) (lo hi d : Nat) {h' : sm_H} : ∀ (n : Nat) (a0 : Nat) (a1 : Int32) (h : sm_H) (e0 : sm_at lo hi (0, 10, 0) a0) (hf : f_mo_rule_L2 n a0 a1 h = some h'), sm_W l lo hi (d + 4) q_mo_rule 2 [(0, .ref a0), (1, .int a1)] [] h none h' := by
  intro n
  induction n with
  | zero =>
    intro a0 a1 h e0 hf
    have z : (none : Option sm_H) = some _ := hf
    cases z
  | succ n ih =>
    intro a0 a1 h e0 hf
    unfold f_mo_rule_L2 at hf
    refine sm_iload_n 1 rfl d_mo_rule_2 ?_
    refine sm_bipush (v := 16) (by decide) d_mo_rule_3 ?_
    refine sm_icmp_ge 21 d_mo_rule_5 rfl (fun c1 => ?_) (fun c1 => ?_)
    · have hf := sm_ifT c1 hf
      refine sm_sub [0] rfl ?_
      exact w_mo_rule_L21 l lo hi d _ _ e0 hf
    · have hf := sm_ifF c1 hf
      refine sm_aload_n 0 rfl d_mo_rule_8 ?_
      refine sm_getR (n := 9) fl_mo_39 e0 rfl d_mo_rule_9 ?_
      refine sm_iload_n 1 rfl d_mo_rule_12 ?_
      refine sm_iconst (v := 0) (by decide) d_mo_rule_13 ?_
      obtain ⟨c2, hf⟩ := sm_gdE hf
      refine sm_iast (sm_at_arr (sm_inner e0 25 rfl rfl rfl)) c2 d_mo_rule_14 ?_
      refine sm_nmH (fun g3 w4 => ?_)
      have hf := sm_letV w4 hf
      obtain ⟨x5, w6⟩ : ∃ v : Int32, v = a1 + 1 := ⟨_, rfl⟩
      have hf := sm_letV w6 hf
      refine sm_iinc (v := x5) (lv' := [(1, .int x5), (0, .ref a0)]) 1 rfl (by rw [w6]; rfl) d_mo_rule_15 rfl rfl ?_
      refine sm_goto 2 d_mo_rule_18 rfl ?_
      refine sm_sub [1, 0] rfl ?_
      exact ih _ _ _ e0 hf
theorem m_mo_rule (l : Launch) (lo hi d : Nat) {a0 : Nat} {h h' : sm_H} (e0 : sm_at lo hi (0, 10, 0) a0) (hf : f_mo_rule a0 h = some h') : sm_Met l lo hi (d + 4) q_mo_rule [.ref a0] h none h' := by
  refine sm_Met.of (by decide +kernel) rfl ?_
  show sm_W l lo hi (d + 4) q_mo_rule 0 [(0, .ref a0)] [] h none h'
  unfold f_mo_rule at hf
  refine sm_iconst (v := 0) (by decide) d_mo_rule_0 ?_
  refine sm_istore_n (lv' := [(1, .int 0), (0, .ref a0)]) d_mo_rule_1 rfl rfl ?_
  refine sm_sub [1, 0] rfl ?_
  exact w_mo_rule_L2 l lo hi d sm_N _ _ _ e0 hf
theorem d_mo_sourceOf_0 : decode q_mo_sourceOf.2.1 0 = .ok (.iload_n 0, 1) := by decide +kernel
theorem d_mo_sourceOf_1 : decode q_mo_sourceOf.2.1 1 = .ok (.ifCond .eq 7, 3) := by decide +kernel
theorem d_mo_sourceOf_4 : decode q_mo_sourceOf.2.1 4 = .ok (.iconst 3, 1) := by decide +kernel
theorem d_mo_sourceOf_5 : decode q_mo_sourceOf.2.1 5 = .ok (.goto 20, 3) := by decide +kernel
theorem d_mo_sourceOf_8 : decode q_mo_sourceOf.2.1 8 = .ok (.iload_n 1, 1) := by decide +kernel
theorem d_mo_sourceOf_9 : decode q_mo_sourceOf.2.1 9 = .ok (.ifCond .eq 7, 3) := by decide +kernel
theorem d_mo_sourceOf_12 : decode q_mo_sourceOf.2.1 12 = .ok (.iconst 2, 1) := by decide +kernel
theorem d_mo_sourceOf_13 : decode q_mo_sourceOf.2.1 13 = .ok (.goto 12, 3) := by decide +kernel
theorem d_mo_sourceOf_16 : decode q_mo_sourceOf.2.1 16 = .ok (.iload_n 2, 1) := by decide +kernel
theorem d_mo_sourceOf_17 : decode q_mo_sourceOf.2.1 17 = .ok (.ifCond .eq 7, 3) := by decide +kernel
theorem d_mo_sourceOf_20 : decode q_mo_sourceOf.2.1 20 = .ok (.iconst 1, 1) := by decide +kernel
theorem d_mo_sourceOf_21 : decode q_mo_sourceOf.2.1 21 = .ok (.goto 4, 3) := by decide +kernel
theorem d_mo_sourceOf_24 : decode q_mo_sourceOf.2.1 24 = .ok (.iconst 0, 1) := by decide +kernel
theorem d_mo_sourceOf_25 : decode q_mo_sourceOf.2.1 25 = .ok (.ireturn, 1) := by decide +kernel
theorem w_mo_sourceOf_L25 (l : Launch) (lo hi d : Nat) {h' : sm_H} {r0 : Int32} (s0 : Int32) (h : sm_H) (hf : f_mo_sourceOf_L25 s0 h = some (r0, h')) : sm_W l lo hi (d) q_mo_sourceOf 25 [] [.int s0] h (some (.int r0)) h' := by
  unfold f_mo_sourceOf_L25 at hf
  obtain ⟨rfl, rfl⟩ := sm_ret2 hf
  exact sm_iret d_mo_sourceOf_25 rfl
theorem m_mo_sourceOf (l : Launch) (lo hi d : Nat) {a0 : Int32} {a1 : Int32} {a2 : Int32} {r0 : Int32} {h h' : sm_H} (hf : f_mo_sourceOf a0 a1 a2 h = some (r0, h')) : sm_Met l lo hi (d) q_mo_sourceOf [.int a0, .int a1, .int a2] h (some (.int r0)) h' := by
  refine sm_Met.of (by decide +kernel) rfl ?_
  show sm_W l lo hi (d) q_mo_sourceOf 0 [(0, .int a0), (1, .int a1), (2, .int a2)] [] h (some (.int r0)) h'
  unfold f_mo_sourceOf at hf
  refine sm_iload_n 0 rfl d_mo_sourceOf_0 ?_
  refine sm_if_eq 8 d_mo_sourceOf_1 rfl (fun c1 => ?_) (fun c1 => ?_)
  · have hf := sm_ifT c1 hf
    refine sm_iload_n 1 rfl d_mo_sourceOf_8 ?_
    refine sm_if_eq 16 d_mo_sourceOf_9 rfl (fun c2 => ?_) (fun c2 => ?_)
    · have hf := sm_ifT c2 hf
      refine sm_iload_n 2 rfl d_mo_sourceOf_16 ?_
      refine sm_if_eq 24 d_mo_sourceOf_17 rfl (fun c3 => ?_) (fun c3 => ?_)
      · have hf := sm_ifT c3 hf
        refine sm_iconst (v := 0) (by decide) d_mo_sourceOf_24 ?_
        refine sm_sub [] rfl ?_
        exact w_mo_sourceOf_L25 l lo hi d _ _ hf
      · have hf := sm_ifF c3 hf
        refine sm_iconst (v := 1) (by decide) d_mo_sourceOf_20 ?_
        refine sm_goto 25 d_mo_sourceOf_21 rfl ?_
        refine sm_sub [] rfl ?_
        exact w_mo_sourceOf_L25 l lo hi d _ _ hf
    · have hf := sm_ifF c2 hf
      refine sm_iconst (v := 2) (by decide) d_mo_sourceOf_12 ?_
      refine sm_goto 25 d_mo_sourceOf_13 rfl ?_
      refine sm_sub [] rfl ?_
      exact w_mo_sourceOf_L25 l lo hi d _ _ hf
  · have hf := sm_ifF c1 hf
    refine sm_iconst (v := 3) (by decide) d_mo_sourceOf_4 ?_
    refine sm_goto 25 d_mo_sourceOf_5 rfl ?_
    refine sm_sub [] rfl ?_
    exact w_mo_sourceOf_L25 l lo hi d _ _ hf
theorem d_mo_commandOf_0 : decode q_mo_commandOf.2.1 0 = .ok (.iload_n 0, 1) := by decide +kernel
theorem d_mo_commandOf_1 : decode q_mo_commandOf.2.1 1 = .ok (.iconst 3, 1) := by decide +kernel
theorem d_mo_commandOf_2 : decode q_mo_commandOf.2.1 2 = .ok (.if_icmp .ne 7, 3) := by decide +kernel
theorem d_mo_commandOf_5 : decode q_mo_commandOf.2.1 5 = .ok (.iload_n 1, 1) := by decide +kernel
theorem d_mo_commandOf_6 : decode q_mo_commandOf.2.1 6 = .ok (.goto 13, 3) := by decide +kernel
theorem d_mo_commandOf_9 : decode q_mo_commandOf.2.1 9 = .ok (.iload_n 0, 1) := by decide +kernel
theorem d_mo_commandOf_10 : decode q_mo_commandOf.2.1 10 = .ok (.iconst 2, 1) := by decide +kernel
theorem d_mo_commandOf_11 : decode q_mo_commandOf.2.1 11 = .ok (.if_icmp .ne 7, 3) := by decide +kernel
theorem d_mo_commandOf_14 : decode q_mo_commandOf.2.1 14 = .ok (.iload_n 2, 1) := by decide +kernel
theorem d_mo_commandOf_15 : decode q_mo_commandOf.2.1 15 = .ok (.goto 4, 3) := by decide +kernel
theorem d_mo_commandOf_18 : decode q_mo_commandOf.2.1 18 = .ok (.iload_n 3, 1) := by decide +kernel
theorem d_mo_commandOf_19 : decode q_mo_commandOf.2.1 19 = .ok (.istore 5, 2) := by decide +kernel
theorem d_mo_commandOf_21 : decode q_mo_commandOf.2.1 21 = .ok (.iload_n 0, 1) := by decide +kernel
theorem d_mo_commandOf_22 : decode q_mo_commandOf.2.1 22 = .ok (.ifCond .ne 8, 3) := by decide +kernel
theorem d_mo_commandOf_25 : decode q_mo_commandOf.2.1 25 = .ok (.iload 4, 2) := by decide +kernel
theorem d_mo_commandOf_27 : decode q_mo_commandOf.2.1 27 = .ok (.goto 14, 3) := by decide +kernel
theorem d_mo_commandOf_30 : decode q_mo_commandOf.2.1 30 = .ok (.iload 5, 2) := by decide +kernel
theorem d_mo_commandOf_32 : decode q_mo_commandOf.2.1 32 = .ok (.iconst 1, 1) := by decide +kernel
theorem d_mo_commandOf_33 : decode q_mo_commandOf.2.1 33 = .ok (.if_icmp .ne 7, 3) := by decide +kernel
theorem d_mo_commandOf_36 : decode q_mo_commandOf.2.1 36 = .ok (.iconst 1, 1) := by decide +kernel
theorem d_mo_commandOf_37 : decode q_mo_commandOf.2.1 37 = .ok (.goto 4, 3) := by decide +kernel
theorem d_mo_commandOf_40 : decode q_mo_commandOf.2.1 40 = .ok (.iconst 0, 1) := by decide +kernel
theorem d_mo_commandOf_41 : decode q_mo_commandOf.2.1 41 = .ok (.ireturn, 1) := by decide +kernel
theorem w_mo_commandOf_L41 (l : Launch) (lo hi d : Nat) {h' : sm_H} {r0 : Int32} (s0 : Int32) (h : sm_H) (hf : f_mo_commandOf_L41 s0 h = some (r0, h')) : sm_W l lo hi (d) q_mo_commandOf 41 [] [.int s0] h (some (.int r0)) h' := by
  unfold f_mo_commandOf_L41 at hf
  obtain ⟨rfl, rfl⟩ := sm_ret2 hf
  exact sm_iret d_mo_commandOf_41 rfl
theorem w_mo_commandOf_L19 (l : Launch) (lo hi d : Nat) {h' : sm_H} {r0 : Int32} (a0 : Int32) (a4 : Int32) (s0 : Int32) (h : sm_H) (hf : f_mo_commandOf_L19 a0 a4 s0 h = some (r0, h')) : sm_W l lo hi (d) q_mo_commandOf 19 [(0, .int a0), (4, .int a4)] [.int s0] h (some (.int r0)) h' := by
  unfold f_mo_commandOf_L19 at hf
  refine sm_istore (lv' := [(5, .int s0), (0, .int a0), (4, .int a4)]) d_mo_commandOf_19 rfl rfl ?_
  refine sm_iload_n 1 rfl d_mo_commandOf_21 ?_
  refine sm_if_ne 30 d_mo_commandOf_22 rfl (fun c3 => ?_) (fun c3 => ?_)
  · have hf := sm_ifF c3 hf
    refine sm_iload 0 rfl d_mo_commandOf_30 ?_
    refine sm_iconst (v := 1) (by decide) d_mo_commandOf_32 ?_
    refine sm_icmp_ne 40 d_mo_commandOf_33 rfl (fun c4 => ?_) (fun c4 => ?_)
    · have hf := sm_ifF c4 hf
      refine sm_iconst (v := 0) (by decide) d_mo_commandOf_40 ?_
      refine sm_sub [] rfl ?_
      exact w_mo_commandOf_L41 l lo hi d _ _ hf
    · have hf := sm_ifT c4 hf
      refine sm_iconst (v := 1) (by decide) d_mo_commandOf_36 ?_
      refine sm_goto 41 d_mo_commandOf_37 rfl ?_
      refine sm_sub [] rfl ?_
      exact w_mo_commandOf_L41 l lo hi d _ _ hf
  · have hf := sm_ifT c3 hf
    refine sm_iload 2 rfl d_mo_commandOf_25 ?_
    refine sm_goto 41 d_mo_commandOf_27 rfl ?_
    refine sm_sub [] rfl ?_
    exact w_mo_commandOf_L41 l lo hi d _ _ hf
theorem m_mo_commandOf (l : Launch) (lo hi d : Nat) {a0 : Int32} {a1 : Int32} {a2 : Int32} {a3 : Int32} {a4 : Int32} {r0 : Int32} {h h' : sm_H} (hf : f_mo_commandOf a0 a1 a2 a3 a4 h = some (r0, h')) : sm_Met l lo hi (d) q_mo_commandOf [.int a0, .int a1, .int a2, .int a3, .int a4] h (some (.int r0)) h' := by
  refine sm_Met.of (by decide +kernel) rfl ?_
  show sm_W l lo hi (d) q_mo_commandOf 0 [(0, .int a0), (1, .int a1), (2, .int a2), (3, .int a3), (4, .int a4)] [] h (some (.int r0)) h'
  unfold f_mo_commandOf at hf
  refine sm_iload_n 0 rfl d_mo_commandOf_0 ?_
  refine sm_iconst (v := 3) (by decide) d_mo_commandOf_1 ?_
  refine sm_icmp_ne 9 d_mo_commandOf_2 rfl (fun c1 => ?_) (fun c1 => ?_)
  · have hf := sm_ifF c1 hf
    refine sm_iload_n 0 rfl d_mo_commandOf_9 ?_
    refine sm_iconst (v := 2) (by decide) d_mo_commandOf_10 ?_
    refine sm_icmp_ne 18 d_mo_commandOf_11 rfl (fun c2 => ?_) (fun c2 => ?_)
    · have hf := sm_ifF c2 hf
      refine sm_iload_n 3 rfl d_mo_commandOf_18 ?_
      refine sm_sub [0, 4] rfl ?_
      exact w_mo_commandOf_L19 l lo hi d _ _ _ _ hf
    · have hf := sm_ifT c2 hf
      refine sm_iload_n 2 rfl d_mo_commandOf_14 ?_
      refine sm_goto 19 d_mo_commandOf_15 rfl ?_
      refine sm_sub [0, 4] rfl ?_
      exact w_mo_commandOf_L19 l lo hi d _ _ _ _ hf
  · have hf := sm_ifT c1 hf
    refine sm_iload_n 1 rfl d_mo_commandOf_5 ?_
    refine sm_goto 19 d_mo_commandOf_6 rfl ?_
    refine sm_sub [0, 4] rfl ?_
    exact w_mo_commandOf_L19 l lo hi d _ _ _ _ hf
theorem d_mo_decide_0 : decode q_mo_decide.2.1 0 = .ok (.aload_n 0, 1) := by decide +kernel
theorem d_mo_decide_1 : decode q_mo_decide.2.1 1 = .ok (.invokevirtual 338, 3) := by decide +kernel
theorem d_mo_decide_4 : decode q_mo_decide.2.1 4 = .ok (.iconst 0, 1) := by decide +kernel
theorem d_mo_decide_5 : decode q_mo_decide.2.1 5 = .ok (.istore_n 1, 1) := by decide +kernel
theorem d_mo_decide_6 : decode q_mo_decide.2.1 6 = .ok (.iload_n 1, 1) := by decide +kernel
theorem d_mo_decide_7 : decode q_mo_decide.2.1 7 = .ok (.aload_n 0, 1) := by decide +kernel
theorem d_mo_decide_8 : decode q_mo_decide.2.1 8 = .ok (.getfield 7, 3) := by decide +kernel
theorem d_mo_decide_11 : decode q_mo_decide.2.1 11 = .ok (.iconst 1, 1) := by decide +kernel
theorem d_mo_decide_12 : decode q_mo_decide.2.1 12 = .ok (.iaload, 1) := by decide +kernel
theorem d_mo_decide_13 : decode q_mo_decide.2.1 13 = .ok (.if_icmp .ge 79, 3) := by decide +kernel
theorem d_mo_decide_16 : decode q_mo_decide.2.1 16 = .ok (.aload_n 0, 1) := by decide +kernel
theorem d_mo_decide_17 : decode q_mo_decide.2.1 17 = .ok (.getfield 16, 3) := by decide +kernel
theorem d_mo_decide_20 : decode q_mo_decide.2.1 20 = .ok (.iconst 1, 1) := by decide +kernel
theorem d_mo_decide_21 : decode q_mo_decide.2.1 21 = .ok (.iaload, 1) := by decide +kernel
theorem d_mo_decide_22 : decode q_mo_decide.2.1 22 = .ok (.aload_n 0, 1) := by decide +kernel
theorem d_mo_decide_23 : decode q_mo_decide.2.1 23 = .ok (.iload_n 1, 1) := by decide +kernel
theorem d_mo_decide_24 : decode q_mo_decide.2.1 24 = .ok (.iconst 2, 1) := by decide +kernel
theorem d_mo_decide_25 : decode q_mo_decide.2.1 25 = .ok (.invokevirtual 308, 3) := by decide +kernel
theorem d_mo_decide_28 : decode q_mo_decide.2.1 28 = .ok (.imul, 1) := by decide +kernel
theorem d_mo_decide_29 : decode q_mo_decide.2.1 29 = .ok (.istore_n 2, 1) := by decide +kernel
theorem d_mo_decide_30 : decode q_mo_decide.2.1 30 = .ok (.aload_n 0, 1) := by decide +kernel
theorem d_mo_decide_31 : decode q_mo_decide.2.1 31 = .ok (.getfield 48, 3) := by decide +kernel
theorem d_mo_decide_34 : decode q_mo_decide.2.1 34 = .ok (.iload_n 1, 1) := by decide +kernel
theorem d_mo_decide_35 : decode q_mo_decide.2.1 35 = .ok (.iload_n 2, 1) := by decide +kernel
theorem d_mo_decide_36 : decode q_mo_decide.2.1 36 = .ok (.aload_n 0, 1) := by decide +kernel
theorem d_mo_decide_37 : decode q_mo_decide.2.1 37 = .ok (.getfield 39, 3) := by decide +kernel
theorem d_mo_decide_40 : decode q_mo_decide.2.1 40 = .ok (.iload_n 1, 1) := by decide +kernel
theorem d_mo_decide_41 : decode q_mo_decide.2.1 41 = .ok (.iaload, 1) := by decide +kernel
theorem d_mo_decide_42 : decode q_mo_decide.2.1 42 = .ok (.aload_n 0, 1) := by decide +kernel
theorem d_mo_decide_43 : decode q_mo_decide.2.1 43 = .ok (.iload_n 1, 1) := by decide +kernel
theorem d_mo_decide_44 : decode q_mo_decide.2.1 44 = .ok (.iconst 3, 1) := by decide +kernel
theorem d_mo_decide_45 : decode q_mo_decide.2.1 45 = .ok (.invokevirtual 308, 3) := by decide +kernel
theorem d_mo_decide_48 : decode q_mo_decide.2.1 48 = .ok (.invokestatic 341, 3) := by decide +kernel
theorem d_mo_decide_51 : decode q_mo_decide.2.1 51 = .ok (.iastore, 1) := by decide +kernel
theorem d_mo_decide_52 : decode q_mo_decide.2.1 52 = .ok (.aload_n 0, 1) := by decide +kernel
theorem d_mo_decide_53 : decode q_mo_decide.2.1 53 = .ok (.getfield 45, 3) := by decide +kernel
theorem d_mo_decide_56 : decode q_mo_decide.2.1 56 = .ok (.iload_n 1, 1) := by decide +kernel
theorem d_mo_decide_57 : decode q_mo_decide.2.1 57 = .ok (.aload_n 0, 1) := by decide +kernel
theorem d_mo_decide_58 : decode q_mo_decide.2.1 58 = .ok (.getfield 48, 3) := by decide +kernel
theorem d_mo_decide_61 : decode q_mo_decide.2.1 61 = .ok (.iload_n 1, 1) := by decide +kernel
theorem d_mo_decide_62 : decode q_mo_decide.2.1 62 = .ok (.iaload, 1) := by decide +kernel
theorem d_mo_decide_63 : decode q_mo_decide.2.1 63 = .ok (.iload_n 2, 1) := by decide +kernel
theorem d_mo_decide_64 : decode q_mo_decide.2.1 64 = .ok (.aload_n 0, 1) := by decide +kernel
theorem d_mo_decide_65 : decode q_mo_decide.2.1 65 = .ok (.getfield 39, 3) := by decide +kernel
theorem d_mo_decide_68 : decode q_mo_decide.2.1 68 = .ok (.iload_n 1, 1) := by decide +kernel
theorem d_mo_decide_69 : decode q_mo_decide.2.1 69 = .ok (.iaload, 1) := by decide +kernel
theorem d_mo_decide_70 : decode q_mo_decide.2.1 70 = .ok (.aload_n 0, 1) := by decide +kernel
theorem d_mo_decide_71 : decode q_mo_decide.2.1 71 = .ok (.iload_n 1, 1) := by decide +kernel
theorem d_mo_decide_72 : decode q_mo_decide.2.1 72 = .ok (.iconst 3, 1) := by decide +kernel
theorem d_mo_decide_73 : decode q_mo_decide.2.1 73 = .ok (.invokevirtual 308, 3) := by decide +kernel
theorem d_mo_decide_76 : decode q_mo_decide.2.1 76 = .ok (.aload_n 0, 1) := by decide +kernel
theorem d_mo_decide_77 : decode q_mo_decide.2.1 77 = .ok (.iload_n 1, 1) := by decide +kernel
theorem d_mo_decide_78 : decode q_mo_decide.2.1 78 = .ok (.iconst 3, 1) := by decide +kernel
theorem d_mo_decide_79 : decode q_mo_decide.2.1 79 = .ok (.invokevirtual 73, 3) := by decide +kernel
theorem d_mo_decide_82 : decode q_mo_decide.2.1 82 = .ok (.invokestatic 345, 3) := by decide +kernel
theorem d_mo_decide_85 : decode q_mo_decide.2.1 85 = .ok (.iastore, 1) := by decide +kernel
theorem d_mo_decide_86 : decode q_mo_decide.2.1 86 = .ok (.iinc 1 1, 3) := by decide +kernel
theorem d_mo_decide_89 : decode q_mo_decide.2.1 89 = .ok (.goto (-83), 3) := by decide +kernel
theorem d_mo_decide_92 : decode q_mo_decide.2.1 92 = .ok (.iconst 0, 1) := by decide +kernel
theorem d_mo_decide_93 : decode q_mo_decide.2.1 93 = .ok (.istore_n 1, 1) := by decide +kernel
theorem d_mo_decide_94 : decode q_mo_decide.2.1 94 = .ok (.iload_n 1, 1) := by decide +kernel
theorem d_mo_decide_95 : decode q_mo_decide.2.1 95 = .ok (.aload_n 0, 1) := by decide +kernel
theorem d_mo_decide_96 : decode q_mo_decide.2.1 96 = .ok (.getfield 7, 3) := by decide +kernel
theorem d_mo_decide_99 : decode q_mo_decide.2.1 99 = .ok (.iconst 2, 1) := by decide +kernel
theorem d_mo_decide_100 : decode q_mo_decide.2.1 100 = .ok (.iaload, 1) := by decide +kernel
theorem d_mo_decide_101 : decode q_mo_decide.2.1 101 = .ok (.if_icmp .ge 74, 3) := by decide +kernel
theorem d_mo_decide_104 : decode q_mo_decide.2.1 104 = .ok (.aload_n 0, 1) := by decide +kernel
theorem d_mo_decide_105 : decode q_mo_decide.2.1 105 = .ok (.getfield 16, 3) := by decide +kernel
theorem d_mo_decide_108 : decode q_mo_decide.2.1 108 = .ok (.iconst 1, 1) := by decide +kernel
theorem d_mo_decide_109 : decode q_mo_decide.2.1 109 = .ok (.iaload, 1) := by decide +kernel
theorem d_mo_decide_110 : decode q_mo_decide.2.1 110 = .ok (.aload_n 0, 1) := by decide +kernel
theorem d_mo_decide_111 : decode q_mo_decide.2.1 111 = .ok (.iload_n 1, 1) := by decide +kernel
theorem d_mo_decide_112 : decode q_mo_decide.2.1 112 = .ok (.iconst 2, 1) := by decide +kernel
theorem d_mo_decide_113 : decode q_mo_decide.2.1 113 = .ok (.invokevirtual 311, 3) := by decide +kernel
theorem d_mo_decide_116 : decode q_mo_decide.2.1 116 = .ok (.imul, 1) := by decide +kernel
theorem d_mo_decide_117 : decode q_mo_decide.2.1 117 = .ok (.istore_n 2, 1) := by decide +kernel
theorem d_mo_decide_118 : decode q_mo_decide.2.1 118 = .ok (.aload_n 0, 1) := by decide +kernel
theorem d_mo_decide_119 : decode q_mo_decide.2.1 119 = .ok (.getfield 54, 3) := by decide +kernel
theorem d_mo_decide_122 : decode q_mo_decide.2.1 122 = .ok (.iload_n 1, 1) := by decide +kernel
theorem d_mo_decide_123 : decode q_mo_decide.2.1 123 = .ok (.iload_n 2, 1) := by decide +kernel
theorem d_mo_decide_124 : decode q_mo_decide.2.1 124 = .ok (.aload_n 0, 1) := by decide +kernel
theorem d_mo_decide_125 : decode q_mo_decide.2.1 125 = .ok (.getfield 42, 3) := by decide +kernel
theorem d_mo_decide_128 : decode q_mo_decide.2.1 128 = .ok (.iload_n 1, 1) := by decide +kernel
theorem d_mo_decide_129 : decode q_mo_decide.2.1 129 = .ok (.iaload, 1) := by decide +kernel
theorem d_mo_decide_130 : decode q_mo_decide.2.1 130 = .ok (.aload_n 0, 1) := by decide +kernel
theorem d_mo_decide_131 : decode q_mo_decide.2.1 131 = .ok (.iload_n 1, 1) := by decide +kernel
theorem d_mo_decide_132 : decode q_mo_decide.2.1 132 = .ok (.iconst 3, 1) := by decide +kernel
theorem d_mo_decide_133 : decode q_mo_decide.2.1 133 = .ok (.invokevirtual 311, 3) := by decide +kernel
theorem d_mo_decide_136 : decode q_mo_decide.2.1 136 = .ok (.invokestatic 341, 3) := by decide +kernel
theorem d_mo_decide_139 : decode q_mo_decide.2.1 139 = .ok (.iastore, 1) := by decide +kernel
theorem d_mo_decide_140 : decode q_mo_decide.2.1 140 = .ok (.aload_n 0, 1) := by decide +kernel
theorem d_mo_decide_141 : decode q_mo_decide.2.1 141 = .ok (.getfield 51, 3) := by decide +kernel
theorem d_mo_decide_144 : decode q_mo_decide.2.1 144 = .ok (.iload_n 1, 1) := by decide +kernel
theorem d_mo_decide_145 : decode q_mo_decide.2.1 145 = .ok (.aload_n 0, 1) := by decide +kernel
theorem d_mo_decide_146 : decode q_mo_decide.2.1 146 = .ok (.getfield 54, 3) := by decide +kernel
theorem d_mo_decide_149 : decode q_mo_decide.2.1 149 = .ok (.iload_n 1, 1) := by decide +kernel
theorem d_mo_decide_150 : decode q_mo_decide.2.1 150 = .ok (.iaload, 1) := by decide +kernel
theorem d_mo_decide_151 : decode q_mo_decide.2.1 151 = .ok (.iload_n 2, 1) := by decide +kernel
theorem d_mo_decide_152 : decode q_mo_decide.2.1 152 = .ok (.aload_n 0, 1) := by decide +kernel
theorem d_mo_decide_153 : decode q_mo_decide.2.1 153 = .ok (.getfield 42, 3) := by decide +kernel
theorem d_mo_decide_156 : decode q_mo_decide.2.1 156 = .ok (.iload_n 1, 1) := by decide +kernel
theorem d_mo_decide_157 : decode q_mo_decide.2.1 157 = .ok (.iaload, 1) := by decide +kernel
theorem d_mo_decide_158 : decode q_mo_decide.2.1 158 = .ok (.aload_n 0, 1) := by decide +kernel
theorem d_mo_decide_159 : decode q_mo_decide.2.1 159 = .ok (.iload_n 1, 1) := by decide +kernel
theorem d_mo_decide_160 : decode q_mo_decide.2.1 160 = .ok (.iconst 3, 1) := by decide +kernel
theorem d_mo_decide_161 : decode q_mo_decide.2.1 161 = .ok (.invokevirtual 311, 3) := by decide +kernel
theorem d_mo_decide_164 : decode q_mo_decide.2.1 164 = .ok (.iconst 0, 1) := by decide +kernel
theorem d_mo_decide_165 : decode q_mo_decide.2.1 165 = .ok (.invokestatic 345, 3) := by decide +kernel
theorem d_mo_decide_168 : decode q_mo_decide.2.1 168 = .ok (.iastore, 1) := by decide +kernel
theorem d_mo_decide_169 : decode q_mo_decide.2.1 169 = .ok (.iinc 1 1, 3) := by decide +kernel
theorem d_mo_decide_172 : decode q_mo_decide.2.1 172 = .ok (.goto (-78), 3) := by decide +kernel
theorem d_mo_decide_175 : decode q_mo_decide.2.1 175 = .ok (.return_, 1) := by decide +kernel
theorem w_mo_decide_L94 (l : Launch) (lo hi d : Nat) {h' : sm_H} : ∀ (n : Nat) (a0 : Nat) (a1 : Int32) (h : sm_H) (e0 : sm_at lo hi (0, 10, 0) a0) (hf : f_mo_decide_L94 n a0 a1 h = some h'), sm_W l lo hi (d + 5) q_mo_decide 94 [(0, .ref a0), (1, .int a1)] [] h none h' := by
  intro n
  induction n with
  | zero =>
    intro a0 a1 h e0 hf
    have z : (none : Option sm_H) = some _ := hf
    cases z
  | succ n ih =>
    intro a0 a1 h e0 hf
    unfold f_mo_decide_L94 at hf
    refine sm_iload_n 1 rfl d_mo_decide_94 ?_
    refine sm_aload_n 0 rfl d_mo_decide_95 ?_
    refine sm_getR (n := 1) fl_mo_7 e0 rfl d_mo_decide_96 ?_
    refine sm_iconst (v := 2) (by decide) d_mo_decide_99 ?_
    obtain ⟨c37, hf⟩ := sm_gdE hf
    refine sm_iald (sm_at_arr (sm_inner e0 0 rfl rfl rfl)) c37 d_mo_decide_100 ?_
    refine sm_icmp_ge 175 d_mo_decide_101 rfl (fun c38 => ?_) (fun c38 => ?_)
    · have hf := sm_ifT c38 hf
      obtain rfl := sm_ret1 hf
      exact sm_vret d_mo_decide_175 rfl
    · have hf := sm_ifF c38 hf
      refine sm_aload_n 0 rfl d_mo_decide_104 ?_
      refine sm_getR (n := 3) fl_mo_16 e0 rfl d_mo_decide_105 ?_
      refine sm_iconst (v := 1) (by decide) d_mo_decide_108 ?_
      obtain ⟨c39, hf⟩ := sm_gdE hf
      refine sm_iald (sm_at_arr (sm_inner e0 2 rfl rfl rfl)) c39 d_mo_decide_109 ?_
      refine sm_aload_n 0 rfl d_mo_decide_110 ?_
      refine sm_iload_n 1 rfl d_mo_decide_111 ?_
      refine sm_iconst (v := 2) (by decide) d_mo_decide_112 ?_
      obtain ⟨r40, g41, c42, hf⟩ := sm_b2E hf
      refine sm_callV (As := [.int a1, .int 2]) (rv := some (.int r40)) (h1 := g41) (c := 10) cvv_mo_311 rfl rfl e0 (m_mo_fanIs l lo hi _ e0 c42) rfl rfl d_mo_decide_113 ?_
      refine sm_imul d_mo_decide_116 ?_
      refine sm_nmI (fun x43 w44 => ?_)
      have hf := sm_letV w44 hf
      refine sm_istore_n (lv' := [(2, .int x43), (0, .ref a0), (1, .int a1)]) d_mo_decide_117 rfl rfl ?_
      refine sm_aload_n 1 rfl d_mo_decide_118 ?_
      refine sm_getR (n := 14) fl_mo_54 e0 rfl d_mo_decide_119 ?_
      refine sm_iload_n 2 rfl d_mo_decide_122 ?_
      refine sm_iload_n 0 rfl d_mo_decide_123 ?_
      refine sm_aload_n 1 rfl d_mo_decide_124 ?_
      refine sm_getR (n := 10) fl_mo_42 e0 rfl d_mo_decide_125 ?_
      refine sm_iload_n 2 rfl d_mo_decide_128 ?_
      obtain ⟨c45, hf⟩ := sm_gdE hf
      refine sm_iald (sm_at_arr (sm_inner e0 26 rfl rfl rfl)) c45 d_mo_decide_129 ?_
      refine sm_aload_n 1 rfl d_mo_decide_130 ?_
      refine sm_iload_n 2 rfl d_mo_decide_131 ?_
      refine sm_iconst (v := 3) (by decide) d_mo_decide_132 ?_
      obtain ⟨r46, g47, c48, hf⟩ := sm_b2E hf
      refine sm_callV (As := [.int a1, .int 3]) (rv := some (.int r46)) (h1 := g47) (c := 10) cvv_mo_311 rfl rfl e0 (m_mo_fanIs l lo hi _ e0 c48) rfl rfl d_mo_decide_133 ?_
      obtain ⟨r49, g50, c51, hf⟩ := sm_b2E hf
      refine sm_callS (As := [.int x43, .int (g41 (a0 + 10) (a1 : Int32).toNatClampNeg), .int r46]) (rv := some (.int r49)) (h1 := g50) cvs_mo_341 (m_mo_sourceOf l lo hi _ c51) rfl rfl d_mo_decide_136 ?_
      obtain ⟨c52, hf⟩ := sm_gdE hf
      refine sm_iast (sm_at_arr (sm_inner e0 30 rfl rfl rfl)) c52 d_mo_decide_139 ?_
      refine sm_nmH (fun g53 w54 => ?_)
      have hf := sm_letV w54 hf
      refine sm_aload_n 1 rfl d_mo_decide_140 ?_
      refine sm_getR (n := 13) fl_mo_51 e0 rfl d_mo_decide_141 ?_
      refine sm_iload_n 2 rfl d_mo_decide_144 ?_
      refine sm_aload_n 1 rfl d_mo_decide_145 ?_
      refine sm_getR (n := 14) fl_mo_54 e0 rfl d_mo_decide_146 ?_
      refine sm_iload_n 2 rfl d_mo_decide_149 ?_
      obtain ⟨c55, hf⟩ := sm_gdE hf
      refine sm_iald (sm_at_arr (sm_inner e0 30 rfl rfl rfl)) c55 d_mo_decide_150 ?_
      refine sm_iload_n 0 rfl d_mo_decide_151 ?_
      refine sm_aload_n 1 rfl d_mo_decide_152 ?_
      refine sm_getR (n := 10) fl_mo_42 e0 rfl d_mo_decide_153 ?_
      refine sm_iload_n 2 rfl d_mo_decide_156 ?_
      obtain ⟨c56, hf⟩ := sm_gdE hf
      refine sm_iald (sm_at_arr (sm_inner e0 26 rfl rfl rfl)) c56 d_mo_decide_157 ?_
      refine sm_aload_n 1 rfl d_mo_decide_158 ?_
      refine sm_iload_n 2 rfl d_mo_decide_159 ?_
      refine sm_iconst (v := 3) (by decide) d_mo_decide_160 ?_
      obtain ⟨r57, g58, c59, hf⟩ := sm_b2E hf
      refine sm_callV (As := [.int a1, .int 3]) (rv := some (.int r57)) (h1 := g58) (c := 10) cvv_mo_311 rfl rfl e0 (m_mo_fanIs l lo hi _ e0 c59) rfl rfl d_mo_decide_161 ?_
      refine sm_iconst (v := 0) (by decide) d_mo_decide_164 ?_
      obtain ⟨r60, g61, c62, hf⟩ := sm_b2E hf
      refine sm_callS (As := [.int (g53 (a0 + 14) (a1 : Int32).toNatClampNeg), .int x43, .int (g53 (a0 + 10) (a1 : Int32).toNatClampNeg), .int r57, .int 0]) (rv := some (.int r60)) (h1 := g61) cvs_mo_345 (m_mo_commandOf l lo hi _ c62) rfl rfl d_mo_decide_165 ?_
      obtain ⟨c63, hf⟩ := sm_gdE hf
      refine sm_iast (sm_at_arr (sm_inner e0 29 rfl rfl rfl)) c63 d_mo_decide_168 ?_
      refine sm_nmH (fun g64 w65 => ?_)
      have hf := sm_letV w65 hf
      obtain ⟨x66, w67⟩ : ∃ v : Int32, v = a1 + 1 := ⟨_, rfl⟩
      have hf := sm_letV w67 hf
      refine sm_iinc (v := x66) (lv' := [(1, .int x66), (2, .int x43), (0, .ref a0)]) 2 rfl (by rw [w67]; rfl) d_mo_decide_169 rfl rfl ?_
      refine sm_goto 94 d_mo_decide_172 rfl ?_
      refine sm_sub [2, 0] rfl ?_
      exact ih _ _ _ e0 hf
theorem w_mo_decide_L92 (l : Launch) (lo hi d : Nat) {h' : sm_H} (a0 : Nat) (h : sm_H) (e0 : sm_at lo hi (0, 10, 0) a0) (hf : f_mo_decide_L92 a0 h = some h') : sm_W l lo hi (d + 5) q_mo_decide 92 [(0, .ref a0)] [] h none h' := by
  unfold f_mo_decide_L92 at hf
  refine sm_iconst (v := 0) (by decide) d_mo_decide_92 ?_
  refine sm_istore_n (lv' := [(1, .int 0), (0, .ref a0)]) d_mo_decide_93 rfl rfl ?_
  refine sm_sub [1, 0] rfl ?_
  exact w_mo_decide_L94 l lo hi d sm_N _ _ _ e0 hf
theorem w_mo_decide_L6 (l : Launch) (lo hi d : Nat) {h' : sm_H} : ∀ (n : Nat) (a0 : Nat) (a1 : Int32) (h : sm_H) (e0 : sm_at lo hi (0, 10, 0) a0) (hf : f_mo_decide_L6 n a0 a1 h = some h'), sm_W l lo hi (d + 5) q_mo_decide 6 [(0, .ref a0), (1, .int a1)] [] h none h' := by
  intro n
  induction n with
  | zero =>
    intro a0 a1 h e0 hf
    have z : (none : Option sm_H) = some _ := hf
    cases z
  | succ n ih =>
    intro a0 a1 h e0 hf
    unfold f_mo_decide_L6 at hf
    refine sm_iload_n 1 rfl d_mo_decide_6 ?_
    refine sm_aload_n 0 rfl d_mo_decide_7 ?_
    refine sm_getR (n := 1) fl_mo_7 e0 rfl d_mo_decide_8 ?_
    refine sm_iconst (v := 1) (by decide) d_mo_decide_11 ?_
    obtain ⟨c3, hf⟩ := sm_gdE hf
    refine sm_iald (sm_at_arr (sm_inner e0 0 rfl rfl rfl)) c3 d_mo_decide_12 ?_
    refine sm_icmp_ge 92 d_mo_decide_13 rfl (fun c4 => ?_) (fun c4 => ?_)
    · have hf := sm_ifT c4 hf
      refine sm_sub [0] rfl ?_
      exact w_mo_decide_L92 l lo hi d _ _ e0 hf
    · have hf := sm_ifF c4 hf
      refine sm_aload_n 0 rfl d_mo_decide_16 ?_
      refine sm_getR (n := 3) fl_mo_16 e0 rfl d_mo_decide_17 ?_
      refine sm_iconst (v := 1) (by decide) d_mo_decide_20 ?_
      obtain ⟨c5, hf⟩ := sm_gdE hf
      refine sm_iald (sm_at_arr (sm_inner e0 2 rfl rfl rfl)) c5 d_mo_decide_21 ?_
      refine sm_aload_n 0 rfl d_mo_decide_22 ?_
      refine sm_iload_n 1 rfl d_mo_decide_23 ?_
      refine sm_iconst (v := 2) (by decide) d_mo_decide_24 ?_
      obtain ⟨r6, g7, c8, hf⟩ := sm_b2E hf
      refine sm_callV (As := [.int a1, .int 2]) (rv := some (.int r6)) (h1 := g7) (c := 10) cvv_mo_308 rfl rfl e0 (m_mo_damperIs l lo hi _ e0 c8) rfl rfl d_mo_decide_25 ?_
      refine sm_imul d_mo_decide_28 ?_
      refine sm_nmI (fun x9 w10 => ?_)
      have hf := sm_letV w10 hf
      refine sm_istore_n (lv' := [(2, .int x9), (0, .ref a0), (1, .int a1)]) d_mo_decide_29 rfl rfl ?_
      refine sm_aload_n 1 rfl d_mo_decide_30 ?_
      refine sm_getR (n := 12) fl_mo_48 e0 rfl d_mo_decide_31 ?_
      refine sm_iload_n 2 rfl d_mo_decide_34 ?_
      refine sm_iload_n 0 rfl d_mo_decide_35 ?_
      refine sm_aload_n 1 rfl d_mo_decide_36 ?_
      refine sm_getR (n := 9) fl_mo_39 e0 rfl d_mo_decide_37 ?_
      refine sm_iload_n 2 rfl d_mo_decide_40 ?_
      obtain ⟨c11, hf⟩ := sm_gdE hf
      refine sm_iald (sm_at_arr (sm_inner e0 25 rfl rfl rfl)) c11 d_mo_decide_41 ?_
      refine sm_aload_n 1 rfl d_mo_decide_42 ?_
      refine sm_iload_n 2 rfl d_mo_decide_43 ?_
      refine sm_iconst (v := 3) (by decide) d_mo_decide_44 ?_
      obtain ⟨r12, g13, c14, hf⟩ := sm_b2E hf
      refine sm_callV (As := [.int a1, .int 3]) (rv := some (.int r12)) (h1 := g13) (c := 10) cvv_mo_308 rfl rfl e0 (m_mo_damperIs l lo hi _ e0 c14) rfl rfl d_mo_decide_45 ?_
      obtain ⟨r15, g16, c17, hf⟩ := sm_b2E hf
      refine sm_callS (As := [.int x9, .int (g7 (a0 + 9) (a1 : Int32).toNatClampNeg), .int r12]) (rv := some (.int r15)) (h1 := g16) cvs_mo_341 (m_mo_sourceOf l lo hi _ c17) rfl rfl d_mo_decide_48 ?_
      obtain ⟨c18, hf⟩ := sm_gdE hf
      refine sm_iast (sm_at_arr (sm_inner e0 28 rfl rfl rfl)) c18 d_mo_decide_51 ?_
      refine sm_nmH (fun g19 w20 => ?_)
      have hf := sm_letV w20 hf
      refine sm_aload_n 1 rfl d_mo_decide_52 ?_
      refine sm_getR (n := 11) fl_mo_45 e0 rfl d_mo_decide_53 ?_
      refine sm_iload_n 2 rfl d_mo_decide_56 ?_
      refine sm_aload_n 1 rfl d_mo_decide_57 ?_
      refine sm_getR (n := 12) fl_mo_48 e0 rfl d_mo_decide_58 ?_
      refine sm_iload_n 2 rfl d_mo_decide_61 ?_
      obtain ⟨c21, hf⟩ := sm_gdE hf
      refine sm_iald (sm_at_arr (sm_inner e0 28 rfl rfl rfl)) c21 d_mo_decide_62 ?_
      refine sm_iload_n 0 rfl d_mo_decide_63 ?_
      refine sm_aload_n 1 rfl d_mo_decide_64 ?_
      refine sm_getR (n := 9) fl_mo_39 e0 rfl d_mo_decide_65 ?_
      refine sm_iload_n 2 rfl d_mo_decide_68 ?_
      obtain ⟨c22, hf⟩ := sm_gdE hf
      refine sm_iald (sm_at_arr (sm_inner e0 25 rfl rfl rfl)) c22 d_mo_decide_69 ?_
      refine sm_aload_n 1 rfl d_mo_decide_70 ?_
      refine sm_iload_n 2 rfl d_mo_decide_71 ?_
      refine sm_iconst (v := 3) (by decide) d_mo_decide_72 ?_
      obtain ⟨r23, g24, c25, hf⟩ := sm_b2E hf
      refine sm_callV (As := [.int a1, .int 3]) (rv := some (.int r23)) (h1 := g24) (c := 10) cvv_mo_308 rfl rfl e0 (m_mo_damperIs l lo hi _ e0 c25) rfl rfl d_mo_decide_73 ?_
      refine sm_aload_n 1 rfl d_mo_decide_76 ?_
      refine sm_iload_n 2 rfl d_mo_decide_77 ?_
      refine sm_iconst (v := 3) (by decide) d_mo_decide_78 ?_
      obtain ⟨r26, g27, c28, hf⟩ := sm_b2E hf
      refine sm_callV (As := [.int a1, .int 3]) (rv := some (.int r26)) (h1 := g27) (c := 10) cvv_mo_73 rfl rfl e0 (m_mo_damperOf l lo hi _ e0 c28) rfl rfl d_mo_decide_79 ?_
      obtain ⟨r29, g30, c31, hf⟩ := sm_b2E hf
      refine sm_callS (As := [.int (g19 (a0 + 12) (a1 : Int32).toNatClampNeg), .int x9, .int (g19 (a0 + 9) (a1 : Int32).toNatClampNeg), .int r23, .int r26]) (rv := some (.int r29)) (h1 := g30) cvs_mo_345 (m_mo_commandOf l lo hi _ c31) rfl rfl d_mo_decide_82 ?_
      obtain ⟨c32, hf⟩ := sm_gdE hf
      refine sm_iast (sm_at_arr (sm_inner e0 27 rfl rfl rfl)) c32 d_mo_decide_85 ?_
      refine sm_nmH (fun g33 w34 => ?_)
      have hf := sm_letV w34 hf
      obtain ⟨x35, w36⟩ : ∃ v : Int32, v = a1 + 1 := ⟨_, rfl⟩
      have hf := sm_letV w36 hf
      refine sm_iinc (v := x35) (lv' := [(1, .int x35), (2, .int x9), (0, .ref a0)]) 2 rfl (by rw [w36]; rfl) d_mo_decide_86 rfl rfl ?_
      refine sm_goto 6 d_mo_decide_89 rfl ?_
      refine sm_sub [2, 0] rfl ?_
      exact ih _ _ _ e0 hf
theorem m_mo_decide (l : Launch) (lo hi d : Nat) {a0 : Nat} {h h' : sm_H} (e0 : sm_at lo hi (0, 10, 0) a0) (hf : f_mo_decide a0 h = some h') : sm_Met l lo hi (d + 5) q_mo_decide [.ref a0] h none h' := by
  refine sm_Met.of (by decide +kernel) rfl ?_
  show sm_W l lo hi (d + 5) q_mo_decide 0 [(0, .ref a0)] [] h none h'
  unfold f_mo_decide at hf
  refine sm_aload_n 0 rfl d_mo_decide_0 ?_
  obtain ⟨g1, c2, hf⟩ := sm_bindE hf
  refine sm_callV (As := []) (rv := none) (h1 := g1) (c := 10) cvv_mo_338 rfl rfl e0 (m_mo_rule l lo hi _ e0 c2) rfl rfl d_mo_decide_1 ?_
  refine sm_iconst (v := 0) (by decide) d_mo_decide_4 ?_
  refine sm_istore_n (lv' := [(1, .int 0), (0, .ref a0)]) d_mo_decide_5 rfl rfl ?_
  refine sm_sub [1, 0] rfl ?_
  exact w_mo_decide_L6 l lo hi d sm_N _ _ _ e0 hf
theorem d_mo_isOpen_0 : decode q_mo_isOpen.2.1 0 = .ok (.aload_n 0, 1) := by decide +kernel
theorem d_mo_isOpen_1 : decode q_mo_isOpen.2.1 1 = .ok (.iload_n 1, 1) := by decide +kernel
theorem d_mo_isOpen_2 : decode q_mo_isOpen.2.1 2 = .ok (.iconst 0, 1) := by decide +kernel
theorem d_mo_isOpen_3 : decode q_mo_isOpen.2.1 3 = .ok (.invokevirtual 308, 3) := by decide +kernel
theorem d_mo_isOpen_6 : decode q_mo_isOpen.2.1 6 = .ok (.aload_n 0, 1) := by decide +kernel
theorem d_mo_isOpen_7 : decode q_mo_isOpen.2.1 7 = .ok (.iload_n 1, 1) := by decide +kernel
theorem d_mo_isOpen_8 : decode q_mo_isOpen.2.1 8 = .ok (.iconst 2, 1) := by decide +kernel
theorem d_mo_isOpen_9 : decode q_mo_isOpen.2.1 9 = .ok (.invokevirtual 73, 3) := by decide +kernel
theorem d_mo_isOpen_12 : decode q_mo_isOpen.2.1 12 = .ok (.if_icmp .ne 7, 3) := by decide +kernel
theorem d_mo_isOpen_15 : decode q_mo_isOpen.2.1 15 = .ok (.iconst 1, 1) := by decide +kernel
theorem d_mo_isOpen_16 : decode q_mo_isOpen.2.1 16 = .ok (.goto 4, 3) := by decide +kernel
theorem d_mo_isOpen_19 : decode q_mo_isOpen.2.1 19 = .ok (.iconst 0, 1) := by decide +kernel
theorem d_mo_isOpen_20 : decode q_mo_isOpen.2.1 20 = .ok (.ireturn, 1) := by decide +kernel
theorem w_mo_isOpen_L20 (l : Launch) (lo hi d : Nat) {h' : sm_H} {r0 : Int32} (s0 : Int32) (h : sm_H) (hf : f_mo_isOpen_L20 s0 h = some (r0, h')) : sm_W l lo hi (d + 1) q_mo_isOpen 20 [] [.int s0] h (some (.int r0)) h' := by
  unfold f_mo_isOpen_L20 at hf
  obtain ⟨c8, hf⟩ := sm_gdE hf
  obtain ⟨rfl, rfl⟩ := sm_ret2 hf
  exact sm_bret c8 d_mo_isOpen_20 rfl
theorem m_mo_isOpen (l : Launch) (lo hi d : Nat) {a0 : Nat} {a1 : Int32} {r0 : Int32} {h h' : sm_H} (e0 : sm_at lo hi (0, 10, 0) a0) (hf : f_mo_isOpen a0 a1 h = some (r0, h')) : sm_Met l lo hi (d + 1) q_mo_isOpen [.ref a0, .int a1] h (some (.int r0)) h' := by
  refine sm_Met.of (by decide +kernel) rfl ?_
  show sm_W l lo hi (d + 1) q_mo_isOpen 0 [(0, .ref a0), (1, .int a1)] [] h (some (.int r0)) h'
  unfold f_mo_isOpen at hf
  refine sm_aload_n 0 rfl d_mo_isOpen_0 ?_
  refine sm_iload_n 1 rfl d_mo_isOpen_1 ?_
  refine sm_iconst (v := 0) (by decide) d_mo_isOpen_2 ?_
  obtain ⟨r1, g2, c3, hf⟩ := sm_b2E hf
  refine sm_callV (As := [.int a1, .int 0]) (rv := some (.int r1)) (h1 := g2) (c := 10) cvv_mo_308 rfl rfl e0 (m_mo_damperIs l lo hi _ e0 c3) rfl rfl d_mo_isOpen_3 ?_
  refine sm_aload_n 0 rfl d_mo_isOpen_6 ?_
  refine sm_iload_n 1 rfl d_mo_isOpen_7 ?_
  refine sm_iconst (v := 2) (by decide) d_mo_isOpen_8 ?_
  obtain ⟨r4, g5, c6, hf⟩ := sm_b2E hf
  refine sm_callV (As := [.int a1, .int 2]) (rv := some (.int r4)) (h1 := g5) (c := 10) cvv_mo_73 rfl rfl e0 (m_mo_damperOf l lo hi _ e0 c6) rfl rfl d_mo_isOpen_9 ?_
  refine sm_icmp_ne 19 d_mo_isOpen_12 rfl (fun c7 => ?_) (fun c7 => ?_)
  · have hf := sm_ifF c7 hf
    refine sm_iconst (v := 0) (by decide) d_mo_isOpen_19 ?_
    refine sm_sub [] rfl ?_
    exact w_mo_isOpen_L20 l lo hi d _ _ hf
  · have hf := sm_ifT c7 hf
    refine sm_iconst (v := 1) (by decide) d_mo_isOpen_15 ?_
    refine sm_goto 20 d_mo_isOpen_16 rfl ?_
    refine sm_sub [] rfl ?_
    exact w_mo_isOpen_L20 l lo hi d _ _ hf
theorem d_mo_openOf_0 : decode q_mo_openOf.2.1 0 = .ok (.iconst 0, 1) := by decide +kernel
theorem d_mo_openOf_1 : decode q_mo_openOf.2.1 1 = .ok (.istore_n 2, 1) := by decide +kernel
theorem d_mo_openOf_2 : decode q_mo_openOf.2.1 2 = .ok (.iconst 0, 1) := by decide +kernel
theorem d_mo_openOf_3 : decode q_mo_openOf.2.1 3 = .ok (.istore_n 3, 1) := by decide +kernel
theorem d_mo_openOf_4 : decode q_mo_openOf.2.1 4 = .ok (.iload_n 3, 1) := by decide +kernel
theorem d_mo_openOf_5 : decode q_mo_openOf.2.1 5 = .ok (.aload_n 0, 1) := by decide +kernel
theorem d_mo_openOf_6 : decode q_mo_openOf.2.1 6 = .ok (.getfield 7, 3) := by decide +kernel
theorem d_mo_openOf_9 : decode q_mo_openOf.2.1 9 = .ok (.iconst 1, 1) := by decide +kernel
theorem d_mo_openOf_10 : decode q_mo_openOf.2.1 10 = .ok (.iaload, 1) := by decide +kernel
theorem d_mo_openOf_11 : decode q_mo_openOf.2.1 11 = .ok (.if_icmp .ge 38, 3) := by decide +kernel
theorem d_mo_openOf_14 : decode q_mo_openOf.2.1 14 = .ok (.aload_n 0, 1) := by decide +kernel
theorem d_mo_openOf_15 : decode q_mo_openOf.2.1 15 = .ok (.iload_n 1, 1) := by decide +kernel
theorem d_mo_openOf_16 : decode q_mo_openOf.2.1 16 = .ok (.iconst 3, 1) := by decide +kernel
theorem d_mo_openOf_17 : decode q_mo_openOf.2.1 17 = .ok (.invokevirtual 320, 3) := by decide +kernel
theorem d_mo_openOf_20 : decode q_mo_openOf.2.1 20 = .ok (.iload_n 3, 1) := by decide +kernel
theorem d_mo_openOf_21 : decode q_mo_openOf.2.1 21 = .ok (.invokestatic 255, 3) := by decide +kernel
theorem d_mo_openOf_24 : decode q_mo_openOf.2.1 24 = .ok (.ifCond .eq 17, 3) := by decide +kernel
theorem d_mo_openOf_27 : decode q_mo_openOf.2.1 27 = .ok (.aload_n 0, 1) := by decide +kernel
theorem d_mo_openOf_28 : decode q_mo_openOf.2.1 28 = .ok (.iload_n 3, 1) := by decide +kernel
theorem d_mo_openOf_29 : decode q_mo_openOf.2.1 29 = .ok (.invokevirtual 349, 3) := by decide +kernel
theorem d_mo_openOf_32 : decode q_mo_openOf.2.1 32 = .ok (.ifCond .eq 9, 3) := by decide +kernel
theorem d_mo_openOf_35 : decode q_mo_openOf.2.1 35 = .ok (.iload_n 2, 1) := by decide +kernel
theorem d_mo_openOf_36 : decode q_mo_openOf.2.1 36 = .ok (.iconst 1, 1) := by decide +kernel
theorem d_mo_openOf_37 : decode q_mo_openOf.2.1 37 = .ok (.iadd, 1) := by decide +kernel
theorem d_mo_openOf_38 : decode q_mo_openOf.2.1 38 = .ok (.goto 4, 3) := by decide +kernel
theorem d_mo_openOf_41 : decode q_mo_openOf.2.1 41 = .ok (.iload_n 2, 1) := by decide +kernel
theorem d_mo_openOf_42 : decode q_mo_openOf.2.1 42 = .ok (.istore_n 2, 1) := by decide +kernel
theorem d_mo_openOf_43 : decode q_mo_openOf.2.1 43 = .ok (.iinc 3 1, 3) := by decide +kernel
theorem d_mo_openOf_46 : decode q_mo_openOf.2.1 46 = .ok (.goto (-42), 3) := by decide +kernel
theorem d_mo_openOf_49 : decode q_mo_openOf.2.1 49 = .ok (.iload_n 2, 1) := by decide +kernel
theorem d_mo_openOf_50 : decode q_mo_openOf.2.1 50 = .ok (.ireturn, 1) := by decide +kernel
theorem w_mo_openOf_L49 (l : Launch) (lo hi d : Nat) {h' : sm_H} {r0 : Int32} (a2 : Int32) (h : sm_H) (hf : f_mo_openOf_L49 a2 h = some (r0, h')) : sm_W l lo hi (d + 2) q_mo_openOf 49 [(2, .int a2)] [] h (some (.int r0)) h' := by
  unfold f_mo_openOf_L49 at hf
  refine sm_iload_n 0 rfl d_mo_openOf_49 ?_
  obtain ⟨rfl, rfl⟩ := sm_ret2 hf
  exact sm_iret d_mo_openOf_50 rfl
theorem w_mo_openOf_L42 (l : Launch) (lo hi d : Nat) {k4 : Nat → Int32 → Int32 → Int32 → sm_H → Option (Int32 × sm_H)} {h' : sm_H} {r0 : Int32} (hk4 : ∀ (a0 : Nat) (a1 : Int32) (a2 : Int32) (a3 : Int32) (h : sm_H) (_ : sm_at lo hi (0, 10, 0) a0) , k4 a0 a1 a2 a3 h = some (r0, h') → sm_W l lo hi (d + 2) q_mo_openOf 4 [(0, .ref a0), (1, .int a1), (2, .int a2), (3, .int a3)] [] h (some (.int r0)) h') (a0 : Nat) (a1 : Int32) (a3 : Int32) (s0 : Int32) (h : sm_H) (e0 : sm_at lo hi (0, 10, 0) a0) (hf : f_mo_openOf_L42 k4 a0 a1 a3 s0 h = some (r0, h')) : sm_W l lo hi (d + 2) q_mo_openOf 42 [(0, .ref a0), (1, .int a1), (3, .int a3)] [.int s0] h (some (.int r0)) h' := by
  unfold f_mo_openOf_L42 at hf
  refine sm_istore_n (lv' := [(2, .int s0), (0, .ref a0), (1, .int a1), (3, .int a3)]) d_mo_openOf_42 rfl rfl ?_
  obtain ⟨x14, w15⟩ : ∃ v : Int32, v = a3 + 1 := ⟨_, rfl⟩
  have hf := sm_letV w15 hf
  refine sm_iinc (v := x14) (lv' := [(3, .int x14), (2, .int s0), (0, .ref a0), (1, .int a1)]) 3 rfl (by rw [w15]; rfl) d_mo_openOf_43 rfl rfl ?_
  refine sm_goto 4 d_mo_openOf_46 rfl ?_
  refine sm_sub [2, 3, 1, 0] rfl ?_
  exact hk4 _ _ _ _ _ e0 hf
theorem w_mo_openOf_L41 (l : Launch) (lo hi d : Nat) {k4 : Nat → Int32 → Int32 → Int32 → sm_H → Option (Int32 × sm_H)} {h' : sm_H} {r0 : Int32} (hk4 : ∀ (a0 : Nat) (a1 : Int32) (a2 : Int32) (a3 : Int32) (h : sm_H) (_ : sm_at lo hi (0, 10, 0) a0) , k4 a0 a1 a2 a3 h = some (r0, h') → sm_W l lo hi (d + 2) q_mo_openOf 4 [(0, .ref a0), (1, .int a1), (2, .int a2), (3, .int a3)] [] h (some (.int r0)) h') (a0 : Nat) (a1 : Int32) (a2 : Int32) (a3 : Int32) (h : sm_H) (e0 : sm_at lo hi (0, 10, 0) a0) (hf : f_mo_openOf_L41 k4 a0 a1 a2 a3 h = some (r0, h')) : sm_W l lo hi (d + 2) q_mo_openOf 41 [(0, .ref a0), (1, .int a1), (2, .int a2), (3, .int a3)] [] h (some (.int r0)) h' := by
  unfold f_mo_openOf_L41 at hf
  refine sm_iload_n 2 rfl d_mo_openOf_41 ?_
  refine sm_sub [0, 1, 3] rfl ?_
  exact w_mo_openOf_L42 l lo hi d hk4 _ _ _ _ _ e0 hf
theorem w_mo_openOf_L4 (l : Launch) (lo hi d : Nat) {h' : sm_H} {r0 : Int32} : ∀ (n : Nat) (a0 : Nat) (a1 : Int32) (a2 : Int32) (a3 : Int32) (h : sm_H) (e0 : sm_at lo hi (0, 10, 0) a0) (hf : f_mo_openOf_L4 n a0 a1 a2 a3 h = some (r0, h')), sm_W l lo hi (d + 2) q_mo_openOf 4 [(0, .ref a0), (1, .int a1), (2, .int a2), (3, .int a3)] [] h (some (.int r0)) h' := by
  intro n
  induction n with
  | zero =>
    intro a0 a1 a2 a3 h e0 hf
    have z : (none : Option (Int32 × sm_H)) = some _ := hf
    cases z
  | succ n ih =>
    intro a0 a1 a2 a3 h e0 hf
    unfold f_mo_openOf_L4 at hf
    refine sm_iload_n 3 rfl d_mo_openOf_4 ?_
    refine sm_aload_n 0 rfl d_mo_openOf_5 ?_
    refine sm_getR (n := 1) fl_mo_7 e0 rfl d_mo_openOf_6 ?_
    refine sm_iconst (v := 1) (by decide) d_mo_openOf_9 ?_
    obtain ⟨c1, hf⟩ := sm_gdE hf
    refine sm_iald (sm_at_arr (sm_inner e0 0 rfl rfl rfl)) c1 d_mo_openOf_10 ?_
    refine sm_icmp_ge 49 d_mo_openOf_11 rfl (fun c2 => ?_) (fun c2 => ?_)
    · have hf := sm_ifT c2 hf
      refine sm_sub [2] rfl ?_
      exact w_mo_openOf_L49 l lo hi d _ _ hf
    · have hf := sm_ifF c2 hf
      refine sm_aload_n 0 rfl d_mo_openOf_14 ?_
      refine sm_iload_n 1 rfl d_mo_openOf_15 ?_
      refine sm_iconst (v := 3) (by decide) d_mo_openOf_16 ?_
      obtain ⟨r3, g4, c5, hf⟩ := sm_b2E hf
      refine sm_callV (As := [.int a1, .int 3]) (rv := some (.int r3)) (h1 := g4) (c := 10) cvv_mo_320 rfl rfl e0 (m_mo_fanOf l lo hi _ e0 c5) rfl rfl d_mo_openOf_17 ?_
      refine sm_iload_n 3 rfl d_mo_openOf_20 ?_
      obtain ⟨r6, g7, c8, hf⟩ := sm_b2E hf
      refine sm_callS (As := [.int r3, .int a3]) (rv := some (.int r6)) (h1 := g7) cvs_mo_255 (m_mo_hasBit l lo hi _ c8) rfl rfl d_mo_openOf_21 ?_
      refine sm_if_eq 41 d_mo_openOf_24 rfl (fun c9 => ?_) (fun c9 => ?_)
      · have hf := sm_ifT c9 hf
        exact w_mo_openOf_L41 l lo hi d ih _ _ _ _ _ e0 hf
      · have hf := sm_ifF c9 hf
        refine sm_aload_n 0 rfl d_mo_openOf_27 ?_
        refine sm_iload_n 3 rfl d_mo_openOf_28 ?_
        obtain ⟨r10, g11, c12, hf⟩ := sm_b2E hf
        refine sm_callV (As := [.int a3]) (rv := some (.int r10)) (h1 := g11) (c := 10) cvv_mo_349 rfl rfl e0 (m_mo_isOpen l lo hi _ e0 c12) rfl rfl d_mo_openOf_29 ?_
        refine sm_if_eq 41 d_mo_openOf_32 rfl (fun c13 => ?_) (fun c13 => ?_)
        · have hf := sm_ifT c13 hf
          exact w_mo_openOf_L41 l lo hi d ih _ _ _ _ _ e0 hf
        · have hf := sm_ifF c13 hf
          refine sm_iload_n 2 rfl d_mo_openOf_35 ?_
          refine sm_iconst (v := 1) (by decide) d_mo_openOf_36 ?_
          refine sm_iadd d_mo_openOf_37 ?_
          refine sm_goto 42 d_mo_openOf_38 rfl ?_
          refine sm_sub [0, 1, 3] rfl ?_
          exact w_mo_openOf_L42 l lo hi d ih _ _ _ _ _ e0 hf
theorem m_mo_openOf (l : Launch) (lo hi d : Nat) {a0 : Nat} {a1 : Int32} {r0 : Int32} {h h' : sm_H} (e0 : sm_at lo hi (0, 10, 0) a0) (hf : f_mo_openOf a0 a1 h = some (r0, h')) : sm_Met l lo hi (d + 2) q_mo_openOf [.ref a0, .int a1] h (some (.int r0)) h' := by
  refine sm_Met.of (by decide +kernel) rfl ?_
  show sm_W l lo hi (d + 2) q_mo_openOf 0 [(0, .ref a0), (1, .int a1)] [] h (some (.int r0)) h'
  unfold f_mo_openOf at hf
  refine sm_iconst (v := 0) (by decide) d_mo_openOf_0 ?_
  refine sm_istore_n (lv' := [(2, .int 0), (0, .ref a0), (1, .int a1)]) d_mo_openOf_1 rfl rfl ?_
  refine sm_iconst (v := 0) (by decide) d_mo_openOf_2 ?_
  refine sm_istore_n (lv' := [(3, .int 0), (2, .int 0), (0, .ref a0), (1, .int a1)]) d_mo_openOf_3 rfl rfl ?_
  refine sm_sub [2, 3, 1, 0] rfl ?_
  exact w_mo_openOf_L4 l lo hi d sm_N _ _ _ _ _ e0 hf
theorem d_mo_isClear_0 : decode q_mo_isClear.2.1 0 = .ok (.aload_n 0, 1) := by decide +kernel
theorem d_mo_isClear_1 : decode q_mo_isClear.2.1 1 = .ok (.iload_n 1, 1) := by decide +kernel
theorem d_mo_isClear_2 : decode q_mo_isClear.2.1 2 = .ok (.iconst 0, 1) := by decide +kernel
theorem d_mo_isClear_3 : decode q_mo_isClear.2.1 3 = .ok (.invokevirtual 320, 3) := by decide +kernel
theorem d_mo_isClear_6 : decode q_mo_isClear.2.1 6 = .ok (.iconst 2, 1) := by decide +kernel
theorem d_mo_isClear_7 : decode q_mo_isClear.2.1 7 = .ok (.if_icmp .eq 11, 3) := by decide +kernel
theorem d_mo_isClear_10 : decode q_mo_isClear.2.1 10 = .ok (.aload_n 0, 1) := by decide +kernel
theorem d_mo_isClear_11 : decode q_mo_isClear.2.1 11 = .ok (.iload_n 1, 1) := by decide +kernel
theorem d_mo_isClear_12 : decode q_mo_isClear.2.1 12 = .ok (.invokevirtual 352, 3) := by decide +kernel
theorem d_mo_isClear_15 : decode q_mo_isClear.2.1 15 = .ok (.ifCond .le 7, 3) := by decide +kernel
theorem d_mo_isClear_18 : decode q_mo_isClear.2.1 18 = .ok (.iconst 1, 1) := by decide +kernel
theorem d_mo_isClear_19 : decode q_mo_isClear.2.1 19 = .ok (.goto 4, 3) := by decide +kernel
theorem d_mo_isClear_22 : decode q_mo_isClear.2.1 22 = .ok (.iconst 0, 1) := by decide +kernel
theorem d_mo_isClear_23 : decode q_mo_isClear.2.1 23 = .ok (.ireturn, 1) := by decide +kernel
theorem w_mo_isClear_L23 (l : Launch) (lo hi d : Nat) {h' : sm_H} {r0 : Int32} (s0 : Int32) (h : sm_H) (hf : f_mo_isClear_L23 s0 h = some (r0, h')) : sm_W l lo hi (d + 3) q_mo_isClear 23 [] [.int s0] h (some (.int r0)) h' := by
  unfold f_mo_isClear_L23 at hf
  obtain ⟨c9, hf⟩ := sm_gdE hf
  obtain ⟨rfl, rfl⟩ := sm_ret2 hf
  exact sm_bret c9 d_mo_isClear_23 rfl
theorem w_mo_isClear_L18 (l : Launch) (lo hi d : Nat) {h' : sm_H} {r0 : Int32} (h : sm_H) (hf : f_mo_isClear_L18 h = some (r0, h')) : sm_W l lo hi (d + 3) q_mo_isClear 18 [] [] h (some (.int r0)) h' := by
  unfold f_mo_isClear_L18 at hf
  refine sm_iconst (v := 1) (by decide) d_mo_isClear_18 ?_
  refine sm_goto 23 d_mo_isClear_19 rfl ?_
  exact w_mo_isClear_L23 l lo hi d _ _ hf
theorem m_mo_isClear (l : Launch) (lo hi d : Nat) {a0 : Nat} {a1 : Int32} {r0 : Int32} {h h' : sm_H} (e0 : sm_at lo hi (0, 10, 0) a0) (hf : f_mo_isClear a0 a1 h = some (r0, h')) : sm_Met l lo hi (d + 3) q_mo_isClear [.ref a0, .int a1] h (some (.int r0)) h' := by
  refine sm_Met.of (by decide +kernel) rfl ?_
  show sm_W l lo hi (d + 3) q_mo_isClear 0 [(0, .ref a0), (1, .int a1)] [] h (some (.int r0)) h'
  unfold f_mo_isClear at hf
  refine sm_aload_n 0 rfl d_mo_isClear_0 ?_
  refine sm_iload_n 1 rfl d_mo_isClear_1 ?_
  refine sm_iconst (v := 0) (by decide) d_mo_isClear_2 ?_
  obtain ⟨r1, g2, c3, hf⟩ := sm_b2E hf
  refine sm_callV (As := [.int a1, .int 0]) (rv := some (.int r1)) (h1 := g2) (c := 10) cvv_mo_320 rfl rfl e0 (m_mo_fanOf l lo hi _ e0 c3) rfl rfl d_mo_isClear_3 ?_
  refine sm_iconst (v := 2) (by decide) d_mo_isClear_6 ?_
  refine sm_icmp_eq 18 d_mo_isClear_7 rfl (fun c4 => ?_) (fun c4 => ?_)
  · have hf := sm_ifT c4 hf
    refine sm_sub [] rfl ?_
    exact w_mo_isClear_L18 l lo hi d _ hf
  · have hf := sm_ifF c4 hf
    refine sm_aload_n 0 rfl d_mo_isClear_10 ?_
    refine sm_iload_n 1 rfl d_mo_isClear_11 ?_
    obtain ⟨r5, g6, c7, hf⟩ := sm_b2E hf
    refine sm_callV (As := [.int a1]) (rv := some (.int r5)) (h1 := g6) (c := 10) cvv_mo_352 rfl rfl e0 (m_mo_openOf l lo hi _ e0 c7) rfl rfl d_mo_isClear_12 ?_
    refine sm_if_le 22 d_mo_isClear_15 rfl (fun c8 => ?_) (fun c8 => ?_)
    · have hf := sm_ifT c8 hf
      refine sm_iconst (v := 0) (by decide) d_mo_isClear_22 ?_
      refine sm_sub [] rfl ?_
      exact w_mo_isClear_L23 l lo hi d _ _ hf
    · have hf := sm_ifF c8 hf
      refine sm_sub [] rfl ?_
      exact w_mo_isClear_L18 l lo hi d _ hf
theorem d_mo_airOf_0 : decode q_mo_airOf.2.1 0 = .ok (.aload_n 0, 1) := by decide +kernel
theorem d_mo_airOf_1 : decode q_mo_airOf.2.1 1 = .ok (.iload_n 1, 1) := by decide +kernel
theorem d_mo_airOf_2 : decode q_mo_airOf.2.1 2 = .ok (.iconst 1, 1) := by decide +kernel
theorem d_mo_airOf_3 : decode q_mo_airOf.2.1 3 = .ok (.invokevirtual 320, 3) := by decide +kernel
theorem d_mo_airOf_6 : decode q_mo_airOf.2.1 6 = .ok (.aload_n 0, 1) := by decide +kernel
theorem d_mo_airOf_7 : decode q_mo_airOf.2.1 7 = .ok (.iload_n 1, 1) := by decide +kernel
theorem d_mo_airOf_8 : decode q_mo_airOf.2.1 8 = .ok (.iconst 0, 1) := by decide +kernel
theorem d_mo_airOf_9 : decode q_mo_airOf.2.1 9 = .ok (.invokevirtual 311, 3) := by decide +kernel
theorem d_mo_airOf_12 : decode q_mo_airOf.2.1 12 = .ok (.imul, 1) := by decide +kernel
theorem d_mo_airOf_13 : decode q_mo_airOf.2.1 13 = .ok (.aload_n 0, 1) := by decide +kernel
theorem d_mo_airOf_14 : decode q_mo_airOf.2.1 14 = .ok (.iload_n 1, 1) := by decide +kernel
theorem d_mo_airOf_15 : decode q_mo_airOf.2.1 15 = .ok (.iconst 2, 1) := by decide +kernel
theorem d_mo_airOf_16 : decode q_mo_airOf.2.1 16 = .ok (.invokevirtual 320, 3) := by decide +kernel
theorem d_mo_airOf_19 : decode q_mo_airOf.2.1 19 = .ok (.idiv, 1) := by decide +kernel
theorem d_mo_airOf_20 : decode q_mo_airOf.2.1 20 = .ok (.ireturn, 1) := by decide +kernel
theorem m_mo_airOf (l : Launch) (lo hi d : Nat) {a0 : Nat} {a1 : Int32} {r0 : Int32} {h h' : sm_H} (e0 : sm_at lo hi (0, 10, 0) a0) (hf : f_mo_airOf a0 a1 h = some (r0, h')) : sm_Met l lo hi (d + 1) q_mo_airOf [.ref a0, .int a1] h (some (.int r0)) h' := by
  refine sm_Met.of (by decide +kernel) rfl ?_
  show sm_W l lo hi (d + 1) q_mo_airOf 0 [(0, .ref a0), (1, .int a1)] [] h (some (.int r0)) h'
  unfold f_mo_airOf at hf
  refine sm_aload_n 0 rfl d_mo_airOf_0 ?_
  refine sm_iload_n 1 rfl d_mo_airOf_1 ?_
  refine sm_iconst (v := 1) (by decide) d_mo_airOf_2 ?_
  obtain ⟨r1, g2, c3, hf⟩ := sm_b2E hf
  refine sm_callV (As := [.int a1, .int 1]) (rv := some (.int r1)) (h1 := g2) (c := 10) cvv_mo_320 rfl rfl e0 (m_mo_fanOf l lo hi _ e0 c3) rfl rfl d_mo_airOf_3 ?_
  refine sm_aload_n 0 rfl d_mo_airOf_6 ?_
  refine sm_iload_n 1 rfl d_mo_airOf_7 ?_
  refine sm_iconst (v := 0) (by decide) d_mo_airOf_8 ?_
  obtain ⟨r4, g5, c6, hf⟩ := sm_b2E hf
  refine sm_callV (As := [.int a1, .int 0]) (rv := some (.int r4)) (h1 := g5) (c := 10) cvv_mo_311 rfl rfl e0 (m_mo_fanIs l lo hi _ e0 c6) rfl rfl d_mo_airOf_9 ?_
  refine sm_imul d_mo_airOf_12 ?_
  refine sm_aload_n 0 rfl d_mo_airOf_13 ?_
  refine sm_iload_n 1 rfl d_mo_airOf_14 ?_
  refine sm_iconst (v := 2) (by decide) d_mo_airOf_15 ?_
  obtain ⟨r7, g8, c9, hf⟩ := sm_b2E hf
  refine sm_callV (As := [.int a1, .int 2]) (rv := some (.int r7)) (h1 := g8) (c := 10) cvv_mo_320 rfl rfl e0 (m_mo_fanOf l lo hi _ e0 c9) rfl rfl d_mo_airOf_16 ?_
  obtain ⟨c10, hf⟩ := sm_gdE hf
  refine sm_idiv c10 d_mo_airOf_19 ?_
  obtain ⟨rfl, rfl⟩ := sm_ret2 hf
  exact sm_iret d_mo_airOf_20 rfl
theorem d_mo_airTo_0 : decode q_mo_airTo.2.1 0 = .ok (.iconst 0, 1) := by decide +kernel
theorem d_mo_airTo_1 : decode q_mo_airTo.2.1 1 = .ok (.istore_n 3, 1) := by decide +kernel
theorem d_mo_airTo_2 : decode q_mo_airTo.2.1 2 = .ok (.iconst 0, 1) := by decide +kernel
theorem d_mo_airTo_3 : decode q_mo_airTo.2.1 3 = .ok (.istore 4, 2) := by decide +kernel
theorem d_mo_airTo_5 : decode q_mo_airTo.2.1 5 = .ok (.iload 4, 2) := by decide +kernel
theorem d_mo_airTo_7 : decode q_mo_airTo.2.1 7 = .ok (.aload_n 0, 1) := by decide +kernel
theorem d_mo_airTo_8 : decode q_mo_airTo.2.1 8 = .ok (.getfield 7, 3) := by decide +kernel
theorem d_mo_airTo_11 : decode q_mo_airTo.2.1 11 = .ok (.iconst 2, 1) := by decide +kernel
theorem d_mo_airTo_12 : decode q_mo_airTo.2.1 12 = .ok (.iaload, 1) := by decide +kernel
theorem d_mo_airTo_13 : decode q_mo_airTo.2.1 13 = .ok (.if_icmp .ge 100, 3) := by decide +kernel
theorem d_mo_airTo_16 : decode q_mo_airTo.2.1 16 = .ok (.aload_n 0, 1) := by decide +kernel
theorem d_mo_airTo_17 : decode q_mo_airTo.2.1 17 = .ok (.iload 4, 2) := by decide +kernel
theorem d_mo_airTo_19 : decode q_mo_airTo.2.1 19 = .ok (.invokevirtual 352, 3) := by decide +kernel
theorem d_mo_airTo_22 : decode q_mo_airTo.2.1 22 = .ok (.istore 5, 2) := by decide +kernel
theorem d_mo_airTo_24 : decode q_mo_airTo.2.1 24 = .ok (.iconst 0, 1) := by decide +kernel
theorem d_mo_airTo_25 : decode q_mo_airTo.2.1 25 = .ok (.istore 6, 2) := by decide +kernel
theorem d_mo_airTo_27 : decode q_mo_airTo.2.1 27 = .ok (.iload 6, 2) := by decide +kernel
theorem d_mo_airTo_29 : decode q_mo_airTo.2.1 29 = .ok (.aload_n 0, 1) := by decide +kernel
theorem d_mo_airTo_30 : decode q_mo_airTo.2.1 30 = .ok (.getfield 7, 3) := by decide +kernel
theorem d_mo_airTo_33 : decode q_mo_airTo.2.1 33 = .ok (.iconst 1, 1) := by decide +kernel
theorem d_mo_airTo_34 : decode q_mo_airTo.2.1 34 = .ok (.iaload, 1) := by decide +kernel
theorem d_mo_airTo_35 : decode q_mo_airTo.2.1 35 = .ok (.if_icmp .ge 72, 3) := by decide +kernel
theorem d_mo_airTo_38 : decode q_mo_airTo.2.1 38 = .ok (.iload 5, 2) := by decide +kernel
theorem d_mo_airTo_40 : decode q_mo_airTo.2.1 40 = .ok (.ifCond .le 67, 3) := by decide +kernel
theorem d_mo_airTo_43 : decode q_mo_airTo.2.1 43 = .ok (.aload_n 0, 1) := by decide +kernel
theorem d_mo_airTo_44 : decode q_mo_airTo.2.1 44 = .ok (.iload 4, 2) := by decide +kernel
theorem d_mo_airTo_46 : decode q_mo_airTo.2.1 46 = .ok (.iconst 3, 1) := by decide +kernel
theorem d_mo_airTo_47 : decode q_mo_airTo.2.1 47 = .ok (.invokevirtual 320, 3) := by decide +kernel
theorem d_mo_airTo_50 : decode q_mo_airTo.2.1 50 = .ok (.iload 6, 2) := by decide +kernel
theorem d_mo_airTo_52 : decode q_mo_airTo.2.1 52 = .ok (.invokestatic 255, 3) := by decide +kernel
theorem d_mo_airTo_55 : decode q_mo_airTo.2.1 55 = .ok (.ifCond .eq 46, 3) := by decide +kernel
theorem d_mo_airTo_58 : decode q_mo_airTo.2.1 58 = .ok (.aload_n 0, 1) := by decide +kernel
theorem d_mo_airTo_59 : decode q_mo_airTo.2.1 59 = .ok (.iload 6, 2) := by decide +kernel
theorem d_mo_airTo_61 : decode q_mo_airTo.2.1 61 = .ok (.invokevirtual 349, 3) := by decide +kernel
theorem d_mo_airTo_64 : decode q_mo_airTo.2.1 64 = .ok (.ifCond .eq 37, 3) := by decide +kernel
theorem d_mo_airTo_67 : decode q_mo_airTo.2.1 67 = .ok (.aload_n 0, 1) := by decide +kernel
theorem d_mo_airTo_68 : decode q_mo_airTo.2.1 68 = .ok (.iload 6, 2) := by decide +kernel
theorem d_mo_airTo_70 : decode q_mo_airTo.2.1 70 = .ok (.iconst 1, 1) := by decide +kernel
theorem d_mo_airTo_71 : decode q_mo_airTo.2.1 71 = .ok (.invokevirtual 73, 3) := by decide +kernel
theorem d_mo_airTo_74 : decode q_mo_airTo.2.1 74 = .ok (.iload_n 1, 1) := by decide +kernel
theorem d_mo_airTo_75 : decode q_mo_airTo.2.1 75 = .ok (.if_icmp .ne 26, 3) := by decide +kernel
theorem d_mo_airTo_78 : decode q_mo_airTo.2.1 78 = .ok (.aload_n 0, 1) := by decide +kernel
theorem d_mo_airTo_79 : decode q_mo_airTo.2.1 79 = .ok (.iload 6, 2) := by decide +kernel
theorem d_mo_airTo_81 : decode q_mo_airTo.2.1 81 = .ok (.iconst 0, 1) := by decide +kernel
theorem d_mo_airTo_82 : decode q_mo_airTo.2.1 82 = .ok (.invokevirtual 73, 3) := by decide +kernel
theorem d_mo_airTo_85 : decode q_mo_airTo.2.1 85 = .ok (.iload_n 2, 1) := by decide +kernel
theorem d_mo_airTo_86 : decode q_mo_airTo.2.1 86 = .ok (.if_icmp .ne 15, 3) := by decide +kernel
theorem d_mo_airTo_89 : decode q_mo_airTo.2.1 89 = .ok (.iload_n 3, 1) := by decide +kernel
theorem d_mo_airTo_90 : decode q_mo_airTo.2.1 90 = .ok (.aload_n 0, 1) := by decide +kernel
theorem d_mo_airTo_91 : decode q_mo_airTo.2.1 91 = .ok (.iload 4, 2) := by decide +kernel
theorem d_mo_airTo_93 : decode q_mo_airTo.2.1 93 = .ok (.invokevirtual 355, 3) := by decide +kernel
theorem d_mo_airTo_96 : decode q_mo_airTo.2.1 96 = .ok (.iload 5, 2) := by decide +kernel
theorem d_mo_airTo_98 : decode q_mo_airTo.2.1 98 = .ok (.idiv, 1) := by decide +kernel
theorem d_mo_airTo_99 : decode q_mo_airTo.2.1 99 = .ok (.iadd, 1) := by decide +kernel
theorem d_mo_airTo_100 : decode q_mo_airTo.2.1 100 = .ok (.istore_n 3, 1) := by decide +kernel
theorem d_mo_airTo_101 : decode q_mo_airTo.2.1 101 = .ok (.iinc 6 1, 3) := by decide +kernel
theorem d_mo_airTo_104 : decode q_mo_airTo.2.1 104 = .ok (.goto (-77), 3) := by decide +kernel
theorem d_mo_airTo_107 : decode q_mo_airTo.2.1 107 = .ok (.iinc 4 1, 3) := by decide +kernel
theorem d_mo_airTo_110 : decode q_mo_airTo.2.1 110 = .ok (.goto (-105), 3) := by decide +kernel
theorem d_mo_airTo_113 : decode q_mo_airTo.2.1 113 = .ok (.iload_n 3, 1) := by decide +kernel
theorem d_mo_airTo_114 : decode q_mo_airTo.2.1 114 = .ok (.ireturn, 1) := by decide +kernel
theorem w_mo_airTo_L113 (l : Launch) (lo hi d : Nat) {h' : sm_H} {r0 : Int32} (a3 : Int32) (h : sm_H) (hf : f_mo_airTo_L113 a3 h = some (r0, h')) : sm_W l lo hi (d + 3) q_mo_airTo 113 [(3, .int a3)] [] h (some (.int r0)) h' := by
  unfold f_mo_airTo_L113 at hf
  refine sm_iload_n 0 rfl d_mo_airTo_113 ?_
  obtain ⟨rfl, rfl⟩ := sm_ret2 hf
  exact sm_iret d_mo_airTo_114 rfl
theorem w_mo_airTo_L107 (l : Launch) (lo hi d : Nat) {k5 : Nat → Int32 → Int32 → Int32 → Int32 → sm_H → Option (Int32 × sm_H)} {h' : sm_H} {r0 : Int32} (hk5 : ∀ (a0 : Nat) (a1 : Int32) (a2 : Int32) (a3 : Int32) (a4 : Int32) (h : sm_H) (_ : sm_at lo hi (0, 10, 0) a0) , k5 a0 a1 a2 a3 a4 h = some (r0, h') → sm_W l lo hi (d + 3) q_mo_airTo 5 [(0, .ref a0), (1, .int a1), (2, .int a2), (3, .int a3), (4, .int a4)] [] h (some (.int r0)) h') (a0 : Nat) (a1 : Int32) (a2 : Int32) (a3 : Int32) (a4 : Int32) (h : sm_H) (e0 : sm_at lo hi (0, 10, 0) a0) (hf : f_mo_airTo_L107 k5 a0 a1 a2 a3 a4 h = some (r0, h')) : sm_W l lo hi (d + 3) q_mo_airTo 107 [(0, .ref a0), (1, .int a1), (2, .int a2), (3, .int a3), (4, .int a4)] [] h (some (.int r0)) h' := by
  unfold f_mo_airTo_L107 at hf
  obtain ⟨x36, w37⟩ : ∃ v : Int32, v = a4 + 1 := ⟨_, rfl⟩
  have hf := sm_letV w37 hf
  refine sm_iinc (v := x36) (lv' := [(4, .int x36), (0, .ref a0), (1, .int a1), (2, .int a2), (3, .int a3)]) 4 rfl (by rw [w37]; rfl) d_mo_airTo_107 rfl rfl ?_
  refine sm_goto 5 d_mo_airTo_110 rfl ?_
  refine sm_sub [1, 2, 3, 4, 0] rfl ?_
  exact hk5 _ _ _ _ _ _ e0 hf
theorem w_mo_airTo_L101 (l : Launch) (lo hi d : Nat) {k27 : Nat → Int32 → Int32 → Int32 → Int32 → Int32 → Int32 → sm_H → Option (Int32 × sm_H)} {h' : sm_H} {r0 : Int32} (hk27 : ∀ (a0 : Nat) (a1 : Int32) (a2 : Int32) (a3 : Int32) (a4 : Int32) (a5 : Int32) (a6 : Int32) (h : sm_H) (_ : sm_at lo hi (0, 10, 0) a0) , k27 a0 a1 a2 a3 a4 a5 a6 h = some (r0, h') → sm_W l lo hi (d + 3) q_mo_airTo 27 [(0, .ref a0), (1, .int a1), (2, .int a2), (3, .int a3), (4, .int a4), (5, .int a5), (6, .int a6)] [] h (some (.int r0)) h') (a0 : Nat) (a1 : Int32) (a2 : Int32) (a3 : Int32) (a4 : Int32) (a5 : Int32) (a6 : Int32) (h : sm_H) (e0 : sm_at lo hi (0, 10, 0) a0) (hf : f_mo_airTo_L101 k27 a0 a1 a2 a3 a4 a5 a6 h = some (r0, h')) : sm_W l lo hi (d + 3) q_mo_airTo 101 [(0, .ref a0), (1, .int a1), (2, .int a2), (3, .int a3), (4, .int a4), (5, .int a5), (6, .int a6)] [] h (some (.int r0)) h' := by
  unfold f_mo_airTo_L101 at hf
  obtain ⟨x34, w35⟩ : ∃ v : Int32, v = a6 + 1 := ⟨_, rfl⟩
  have hf := sm_letV w35 hf
  refine sm_iinc (v := x34) (lv' := [(6, .int x34), (0, .ref a0), (1, .int a1), (2, .int a2), (3, .int a3), (4, .int a4), (5, .int a5)]) 6 rfl (by rw [w35]; rfl) d_mo_airTo_101 rfl rfl ?_
  refine sm_goto 27 d_mo_airTo_104 rfl ?_
  refine sm_sub [1, 2, 3, 4, 5, 6, 0] rfl ?_
  exact hk27 _ _ _ _ _ _ _ _ e0 hf
theorem w_mo_airTo_L27 (l : Launch) (lo hi d : Nat) {k5 : Nat → Int32 → Int32 → Int32 → Int32 → sm_H → Option (Int32 × sm_H)} {h' : sm_H} {r0 : Int32} (hk5 : ∀ (a0 : Nat) (a1 : Int32) (a2 : Int32) (a3 : Int32) (a4 : Int32) (h : sm_H) (_ : sm_at lo hi (0, 10, 0) a0) , k5 a0 a1 a2 a3 a4 h = some (r0, h') → sm_W l lo hi (d + 3) q_mo_airTo 5 [(0, .ref a0), (1, .int a1), (2, .int a2), (3, .int a3), (4, .int a4)] [] h (some (.int r0)) h') : ∀ (n : Nat) (a0 : Nat) (a1 : Int32) (a2 : Int32) (a3 : Int32) (a4 : Int32) (a5 : Int32) (a6 : Int32) (h : sm_H) (e0 : sm_at lo hi (0, 10, 0) a0) (hf : f_mo_airTo_L27 k5 n a0 a1 a2 a3 a4 a5 a6 h = some (r0, h')), sm_W l lo hi (d + 3) q_mo_airTo 27 [(0, .ref a0), (1, .int a1), (2, .int a2), (3, .int a3), (4, .int a4), (5, .int a5), (6, .int a6)] [] h (some (.int r0)) h' := by
  intro n
  induction n with
  | zero =>
    intro a0 a1 a2 a3 a4 a5 a6 h e0 hf
    have z : (none : Option (Int32 × sm_H)) = some _ := hf
    cases z
  | succ n ih =>
    intro a0 a1 a2 a3 a4 a5 a6 h e0 hf
    unfold f_mo_airTo_L27 at hf
    refine sm_iload 6 rfl d_mo_airTo_27 ?_
    refine sm_aload_n 0 rfl d_mo_airTo_29 ?_
    refine sm_getR (n := 1) fl_mo_7 e0 rfl d_mo_airTo_30 ?_
    refine sm_iconst (v := 1) (by decide) d_mo_airTo_33 ?_
    obtain ⟨c6, hf⟩ := sm_gdE hf
    refine sm_iald (sm_at_arr (sm_inner e0 0 rfl rfl rfl)) c6 d_mo_airTo_34 ?_
    refine sm_icmp_ge 107 d_mo_airTo_35 rfl (fun c7 => ?_) (fun c7 => ?_)
    · have hf := sm_ifT c7 hf
      refine sm_sub [0, 1, 2, 3, 4] rfl ?_
      exact w_mo_airTo_L107 l lo hi d hk5 _ _ _ _ _ _ e0 hf
    · have hf := sm_ifF c7 hf
      refine sm_iload 5 rfl d_mo_airTo_38 ?_
      refine sm_if_le 107 d_mo_airTo_40 rfl (fun c8 => ?_) (fun c8 => ?_)
      · have hf := sm_ifT c8 hf
        refine sm_sub [0, 1, 2, 3, 4] rfl ?_
        exact w_mo_airTo_L107 l lo hi d hk5 _ _ _ _ _ _ e0 hf
      · have hf := sm_ifF c8 hf
        refine sm_aload_n 0 rfl d_mo_airTo_43 ?_
        refine sm_iload 4 rfl d_mo_airTo_44 ?_
        refine sm_iconst (v := 3) (by decide) d_mo_airTo_46 ?_
        obtain ⟨r9, g10, c11, hf⟩ := sm_b2E hf
        refine sm_callV (As := [.int a4, .int 3]) (rv := some (.int r9)) (h1 := g10) (c := 10) cvv_mo_320 rfl rfl e0 (m_mo_fanOf l lo hi _ e0 c11) rfl rfl d_mo_airTo_47 ?_
        refine sm_iload 6 rfl d_mo_airTo_50 ?_
        obtain ⟨r12, g13, c14, hf⟩ := sm_b2E hf
        refine sm_callS (As := [.int r9, .int a6]) (rv := some (.int r12)) (h1 := g13) cvs_mo_255 (m_mo_hasBit l lo hi _ c14) rfl rfl d_mo_airTo_52 ?_
        refine sm_if_eq 101 d_mo_airTo_55 rfl (fun c15 => ?_) (fun c15 => ?_)
        · have hf := sm_ifT c15 hf
          exact w_mo_airTo_L101 l lo hi d ih _ _ _ _ _ _ _ _ e0 hf
        · have hf := sm_ifF c15 hf
          refine sm_aload_n 0 rfl d_mo_airTo_58 ?_
          refine sm_iload 6 rfl d_mo_airTo_59 ?_
          obtain ⟨r16, g17, c18, hf⟩ := sm_b2E hf
          refine sm_callV (As := [.int a6]) (rv := some (.int r16)) (h1 := g17) (c := 10) cvv_mo_349 rfl rfl e0 (m_mo_isOpen l lo hi _ e0 c18) rfl rfl d_mo_airTo_61 ?_
          refine sm_if_eq 101 d_mo_airTo_64 rfl (fun c19 => ?_) (fun c19 => ?_)
          · have hf := sm_ifT c19 hf
            exact w_mo_airTo_L101 l lo hi d ih _ _ _ _ _ _ _ _ e0 hf
          · have hf := sm_ifF c19 hf
            refine sm_aload_n 0 rfl d_mo_airTo_67 ?_
            refine sm_iload 6 rfl d_mo_airTo_68 ?_
            refine sm_iconst (v := 1) (by decide) d_mo_airTo_70 ?_
            obtain ⟨r20, g21, c22, hf⟩ := sm_b2E hf
            refine sm_callV (As := [.int a6, .int 1]) (rv := some (.int r20)) (h1 := g21) (c := 10) cvv_mo_73 rfl rfl e0 (m_mo_damperOf l lo hi _ e0 c22) rfl rfl d_mo_airTo_71 ?_
            refine sm_iload_n 1 rfl d_mo_airTo_74 ?_
            refine sm_icmp_ne 101 d_mo_airTo_75 rfl (fun c23 => ?_) (fun c23 => ?_)
            · have hf := sm_ifF c23 hf
              exact w_mo_airTo_L101 l lo hi d ih _ _ _ _ _ _ _ _ e0 hf
            · have hf := sm_ifT c23 hf
              refine sm_aload_n 0 rfl d_mo_airTo_78 ?_
              refine sm_iload 6 rfl d_mo_airTo_79 ?_
              refine sm_iconst (v := 0) (by decide) d_mo_airTo_81 ?_
              obtain ⟨r24, g25, c26, hf⟩ := sm_b2E hf
              refine sm_callV (As := [.int a6, .int 0]) (rv := some (.int r24)) (h1 := g25) (c := 10) cvv_mo_73 rfl rfl e0 (m_mo_damperOf l lo hi _ e0 c26) rfl rfl d_mo_airTo_82 ?_
              refine sm_iload_n 2 rfl d_mo_airTo_85 ?_
              refine sm_icmp_ne 101 d_mo_airTo_86 rfl (fun c27 => ?_) (fun c27 => ?_)
              · have hf := sm_ifF c27 hf
                exact w_mo_airTo_L101 l lo hi d ih _ _ _ _ _ _ _ _ e0 hf
              · have hf := sm_ifT c27 hf
                refine sm_iload_n 3 rfl d_mo_airTo_89 ?_
                refine sm_aload_n 0 rfl d_mo_airTo_90 ?_
                refine sm_iload 4 rfl d_mo_airTo_91 ?_
                obtain ⟨r28, g29, c30, hf⟩ := sm_b2E hf
                refine sm_callV (As := [.int a4]) (rv := some (.int r28)) (h1 := g29) (c := 10) cvv_mo_355 rfl rfl e0 (m_mo_airOf l lo hi _ e0 c30) rfl rfl d_mo_airTo_93 ?_
                refine sm_iload 5 rfl d_mo_airTo_96 ?_
                obtain ⟨c31, hf⟩ := sm_gdE hf
                refine sm_idiv c31 d_mo_airTo_98 ?_
                refine sm_iadd d_mo_airTo_99 ?_
                refine sm_nmI (fun x32 w33 => ?_)
                have hf := sm_letV w33 hf
                refine sm_istore_n (lv' := [(3, .int x32), (0, .ref a0), (1, .int a1), (2, .int a2), (4, .int a4), (5, .int a5), (6, .int a6)]) d_mo_airTo_100 rfl rfl ?_
                refine sm_sub [1, 2, 3, 0, 4, 5, 6] rfl ?_
                exact w_mo_airTo_L101 l lo hi d ih _ _ _ _ _ _ _ _ e0 hf
theorem w_mo_airTo_L5 (l : Launch) (lo hi d : Nat) {h' : sm_H} {r0 : Int32} : ∀ (n : Nat) (a0 : Nat) (a1 : Int32) (a2 : Int32) (a3 : Int32) (a4 : Int32) (h : sm_H) (e0 : sm_at lo hi (0, 10, 0) a0) (hf : f_mo_airTo_L5 n a0 a1 a2 a3 a4 h = some (r0, h')), sm_W l lo hi (d + 3) q_mo_airTo 5 [(0, .ref a0), (1, .int a1), (2, .int a2), (3, .int a3), (4, .int a4)] [] h (some (.int r0)) h' := by
  intro n
  induction n with
  | zero =>
    intro a0 a1 a2 a3 a4 h e0 hf
    have z : (none : Option (Int32 × sm_H)) = some _ := hf
    cases z
  | succ n ih =>
    intro a0 a1 a2 a3 a4 h e0 hf
    unfold f_mo_airTo_L5 at hf
    refine sm_iload 4 rfl d_mo_airTo_5 ?_
    refine sm_aload_n 0 rfl d_mo_airTo_7 ?_
    refine sm_getR (n := 1) fl_mo_7 e0 rfl d_mo_airTo_8 ?_
    refine sm_iconst (v := 2) (by decide) d_mo_airTo_11 ?_
    obtain ⟨c1, hf⟩ := sm_gdE hf
    refine sm_iald (sm_at_arr (sm_inner e0 0 rfl rfl rfl)) c1 d_mo_airTo_12 ?_
    refine sm_icmp_ge 113 d_mo_airTo_13 rfl (fun c2 => ?_) (fun c2 => ?_)
    · have hf := sm_ifT c2 hf
      refine sm_sub [3] rfl ?_
      exact w_mo_airTo_L113 l lo hi d _ _ hf
    · have hf := sm_ifF c2 hf
      refine sm_aload_n 0 rfl d_mo_airTo_16 ?_
      refine sm_iload 4 rfl d_mo_airTo_17 ?_
      obtain ⟨r3, g4, c5, hf⟩ := sm_b2E hf
      refine sm_callV (As := [.int a4]) (rv := some (.int r3)) (h1 := g4) (c := 10) cvv_mo_352 rfl rfl e0 (m_mo_openOf l lo hi _ e0 c5) rfl rfl d_mo_airTo_19 ?_
      refine sm_istore (lv' := [(5, .int r3), (0, .ref a0), (1, .int a1), (2, .int a2), (3, .int a3), (4, .int a4)]) d_mo_airTo_22 rfl rfl ?_
      refine sm_iconst (v := 0) (by decide) d_mo_airTo_24 ?_
      refine sm_istore (lv' := [(6, .int 0), (5, .int r3), (0, .ref a0), (1, .int a1), (2, .int a2), (3, .int a3), (4, .int a4)]) d_mo_airTo_25 rfl rfl ?_
      refine sm_sub [2, 3, 4, 5, 6, 1, 0] rfl ?_
      exact w_mo_airTo_L27 l lo hi d ih sm_N _ _ _ _ _ _ _ _ e0 hf
theorem m_mo_airTo (l : Launch) (lo hi d : Nat) {a0 : Nat} {a1 : Int32} {a2 : Int32} {r0 : Int32} {h h' : sm_H} (e0 : sm_at lo hi (0, 10, 0) a0) (hf : f_mo_airTo a0 a1 a2 h = some (r0, h')) : sm_Met l lo hi (d + 3) q_mo_airTo [.ref a0, .int a1, .int a2] h (some (.int r0)) h' := by
  refine sm_Met.of (by decide +kernel) rfl ?_
  show sm_W l lo hi (d + 3) q_mo_airTo 0 [(0, .ref a0), (1, .int a1), (2, .int a2)] [] h (some (.int r0)) h'
  unfold f_mo_airTo at hf
  refine sm_iconst (v := 0) (by decide) d_mo_airTo_0 ?_
  refine sm_istore_n (lv' := [(3, .int 0), (0, .ref a0), (1, .int a1), (2, .int a2)]) d_mo_airTo_1 rfl rfl ?_
  refine sm_iconst (v := 0) (by decide) d_mo_airTo_2 ?_
  refine sm_istore (lv' := [(4, .int 0), (3, .int 0), (0, .ref a0), (1, .int a1), (2, .int a2)]) d_mo_airTo_3 rfl rfl ?_
  refine sm_sub [2, 3, 4, 1, 0] rfl ?_
  exact w_mo_airTo_L5 l lo hi d sm_N _ _ _ _ _ _ e0 hf
theorem d_mo_stairAir_0 : decode q_mo_stairAir.2.1 0 = .ok (.iconst 0, 1) := by decide +kernel
theorem d_mo_stairAir_1 : decode q_mo_stairAir.2.1 1 = .ok (.istore_n 1, 1) := by decide +kernel
theorem d_mo_stairAir_2 : decode q_mo_stairAir.2.1 2 = .ok (.iconst 0, 1) := by decide +kernel
theorem d_mo_stairAir_3 : decode q_mo_stairAir.2.1 3 = .ok (.istore_n 2, 1) := by decide +kernel
theorem d_mo_stairAir_4 : decode q_mo_stairAir.2.1 4 = .ok (.iload_n 2, 1) := by decide +kernel
theorem d_mo_stairAir_5 : decode q_mo_stairAir.2.1 5 = .ok (.aload_n 0, 1) := by decide +kernel
theorem d_mo_stairAir_6 : decode q_mo_stairAir.2.1 6 = .ok (.getfield 7, 3) := by decide +kernel
theorem d_mo_stairAir_9 : decode q_mo_stairAir.2.1 9 = .ok (.iconst 2, 1) := by decide +kernel
theorem d_mo_stairAir_10 : decode q_mo_stairAir.2.1 10 = .ok (.iaload, 1) := by decide +kernel
theorem d_mo_stairAir_11 : decode q_mo_stairAir.2.1 11 = .ok (.if_icmp .ge 31, 3) := by decide +kernel
theorem d_mo_stairAir_14 : decode q_mo_stairAir.2.1 14 = .ok (.aload_n 0, 1) := by decide +kernel
theorem d_mo_stairAir_15 : decode q_mo_stairAir.2.1 15 = .ok (.iload_n 2, 1) := by decide +kernel
theorem d_mo_stairAir_16 : decode q_mo_stairAir.2.1 16 = .ok (.iconst 0, 1) := by decide +kernel
theorem d_mo_stairAir_17 : decode q_mo_stairAir.2.1 17 = .ok (.invokevirtual 320, 3) := by decide +kernel
theorem d_mo_stairAir_20 : decode q_mo_stairAir.2.1 20 = .ok (.iconst 2, 1) := by decide +kernel
theorem d_mo_stairAir_21 : decode q_mo_stairAir.2.1 21 = .ok (.if_icmp .ne 13, 3) := by decide +kernel
theorem d_mo_stairAir_24 : decode q_mo_stairAir.2.1 24 = .ok (.iload_n 1, 1) := by decide +kernel
theorem d_mo_stairAir_25 : decode q_mo_stairAir.2.1 25 = .ok (.aload_n 0, 1) := by decide +kernel
theorem d_mo_stairAir_26 : decode q_mo_stairAir.2.1 26 = .ok (.iload_n 2, 1) := by decide +kernel
theorem d_mo_stairAir_27 : decode q_mo_stairAir.2.1 27 = .ok (.invokevirtual 355, 3) := by decide +kernel
theorem d_mo_stairAir_30 : decode q_mo_stairAir.2.1 30 = .ok (.iadd, 1) := by decide +kernel
theorem d_mo_stairAir_31 : decode q_mo_stairAir.2.1 31 = .ok (.goto 4, 3) := by decide +kernel
theorem d_mo_stairAir_34 : decode q_mo_stairAir.2.1 34 = .ok (.iload_n 1, 1) := by decide +kernel
theorem d_mo_stairAir_35 : decode q_mo_stairAir.2.1 35 = .ok (.istore_n 1, 1) := by decide +kernel
theorem d_mo_stairAir_36 : decode q_mo_stairAir.2.1 36 = .ok (.iinc 2 1, 3) := by decide +kernel
theorem d_mo_stairAir_39 : decode q_mo_stairAir.2.1 39 = .ok (.goto (-35), 3) := by decide +kernel
theorem d_mo_stairAir_42 : decode q_mo_stairAir.2.1 42 = .ok (.iload_n 1, 1) := by decide +kernel
theorem d_mo_stairAir_43 : decode q_mo_stairAir.2.1 43 = .ok (.ireturn, 1) := by decide +kernel
theorem w_mo_stairAir_L42 (l : Launch) (lo hi d : Nat) {h' : sm_H} {r0 : Int32} (a1 : Int32) (h : sm_H) (hf : f_mo_stairAir_L42 a1 h = some (r0, h')) : sm_W l lo hi (d + 2) q_mo_stairAir 42 [(1, .int a1)] [] h (some (.int r0)) h' := by
  unfold f_mo_stairAir_L42 at hf
  refine sm_iload_n 0 rfl d_mo_stairAir_42 ?_
  obtain ⟨rfl, rfl⟩ := sm_ret2 hf
  exact sm_iret d_mo_stairAir_43 rfl
theorem w_mo_stairAir_L35 (l : Launch) (lo hi d : Nat) {k4 : Nat → Int32 → Int32 → sm_H → Option (Int32 × sm_H)} {h' : sm_H} {r0 : Int32} (hk4 : ∀ (a0 : Nat) (a1 : Int32) (a2 : Int32) (h : sm_H) (_ : sm_at lo hi (0, 10, 0) a0) , k4 a0 a1 a2 h = some (r0, h') → sm_W l lo hi (d + 2) q_mo_stairAir 4 [(0, .ref a0), (1, .int a1), (2, .int a2)] [] h (some (.int r0)) h') (a0 : Nat) (a2 : Int32) (s0 : Int32) (h : sm_H) (e0 : sm_at lo hi (0, 10, 0) a0) (hf : f_mo_stairAir_L35 k4 a0 a2 s0 h = some (r0, h')) : sm_W l lo hi (d + 2) q_mo_stairAir 35 [(0, .ref a0), (2, .int a2)] [.int s0] h (some (.int r0)) h' := by
  unfold f_mo_stairAir_L35 at hf
  refine sm_istore_n (lv' := [(1, .int s0), (0, .ref a0), (2, .int a2)]) d_mo_stairAir_35 rfl rfl ?_
  obtain ⟨x10, w11⟩ : ∃ v : Int32, v = a2 + 1 := ⟨_, rfl⟩
  have hf := sm_letV w11 hf
  refine sm_iinc (v := x10) (lv' := [(2, .int x10), (1, .int s0), (0, .ref a0)]) 2 rfl (by rw [w11]; rfl) d_mo_stairAir_36 rfl rfl ?_
  refine sm_goto 4 d_mo_stairAir_39 rfl ?_
  refine sm_sub [2, 1, 0] rfl ?_
  exact hk4 _ _ _ _ e0 hf
theorem w_mo_stairAir_L4 (l : Launch) (lo hi d : Nat) {h' : sm_H} {r0 : Int32} : ∀ (n : Nat) (a0 : Nat) (a1 : Int32) (a2 : Int32) (h : sm_H) (e0 : sm_at lo hi (0, 10, 0) a0) (hf : f_mo_stairAir_L4 n a0 a1 a2 h = some (r0, h')), sm_W l lo hi (d + 2) q_mo_stairAir 4 [(0, .ref a0), (1, .int a1), (2, .int a2)] [] h (some (.int r0)) h' := by
  intro n
  induction n with
  | zero =>
    intro a0 a1 a2 h e0 hf
    have z : (none : Option (Int32 × sm_H)) = some _ := hf
    cases z
  | succ n ih =>
    intro a0 a1 a2 h e0 hf
    unfold f_mo_stairAir_L4 at hf
    refine sm_iload_n 2 rfl d_mo_stairAir_4 ?_
    refine sm_aload_n 0 rfl d_mo_stairAir_5 ?_
    refine sm_getR (n := 1) fl_mo_7 e0 rfl d_mo_stairAir_6 ?_
    refine sm_iconst (v := 2) (by decide) d_mo_stairAir_9 ?_
    obtain ⟨c1, hf⟩ := sm_gdE hf
    refine sm_iald (sm_at_arr (sm_inner e0 0 rfl rfl rfl)) c1 d_mo_stairAir_10 ?_
    refine sm_icmp_ge 42 d_mo_stairAir_11 rfl (fun c2 => ?_) (fun c2 => ?_)
    · have hf := sm_ifT c2 hf
      refine sm_sub [1] rfl ?_
      exact w_mo_stairAir_L42 l lo hi d _ _ hf
    · have hf := sm_ifF c2 hf
      refine sm_aload_n 0 rfl d_mo_stairAir_14 ?_
      refine sm_iload_n 2 rfl d_mo_stairAir_15 ?_
      refine sm_iconst (v := 0) (by decide) d_mo_stairAir_16 ?_
      obtain ⟨r3, g4, c5, hf⟩ := sm_b2E hf
      refine sm_callV (As := [.int a2, .int 0]) (rv := some (.int r3)) (h1 := g4) (c := 10) cvv_mo_320 rfl rfl e0 (m_mo_fanOf l lo hi _ e0 c5) rfl rfl d_mo_stairAir_17 ?_
      refine sm_iconst (v := 2) (by decide) d_mo_stairAir_20 ?_
      refine sm_icmp_ne 34 d_mo_stairAir_21 rfl (fun c6 => ?_) (fun c6 => ?_)
      · have hf := sm_ifF c6 hf
        refine sm_iload_n 1 rfl d_mo_stairAir_34 ?_
        refine sm_sub [0, 2] rfl ?_
        exact w_mo_stairAir_L35 l lo hi d ih _ _ _ _ e0 hf
      · have hf := sm_ifT c6 hf
        refine sm_iload_n 1 rfl d_mo_stairAir_24 ?_
        refine sm_aload_n 0 rfl d_mo_stairAir_25 ?_
        refine sm_iload_n 2 rfl d_mo_stairAir_26 ?_
        obtain ⟨r7, g8, c9, hf⟩ := sm_b2E hf
        refine sm_callV (As := [.int a2]) (rv := some (.int r7)) (h1 := g8) (c := 10) cvv_mo_355 rfl rfl e0 (m_mo_airOf l lo hi _ e0 c9) rfl rfl d_mo_stairAir_27 ?_
        refine sm_iadd d_mo_stairAir_30 ?_
        refine sm_goto 35 d_mo_stairAir_31 rfl ?_
        refine sm_sub [0, 2] rfl ?_
        exact w_mo_stairAir_L35 l lo hi d ih _ _ _ _ e0 hf
theorem m_mo_stairAir (l : Launch) (lo hi d : Nat) {a0 : Nat} {r0 : Int32} {h h' : sm_H} (e0 : sm_at lo hi (0, 10, 0) a0) (hf : f_mo_stairAir a0 h = some (r0, h')) : sm_Met l lo hi (d + 2) q_mo_stairAir [.ref a0] h (some (.int r0)) h' := by
  refine sm_Met.of (by decide +kernel) rfl ?_
  show sm_W l lo hi (d + 2) q_mo_stairAir 0 [(0, .ref a0)] [] h (some (.int r0)) h'
  unfold f_mo_stairAir at hf
  refine sm_iconst (v := 0) (by decide) d_mo_stairAir_0 ?_
  refine sm_istore_n (lv' := [(1, .int 0), (0, .ref a0)]) d_mo_stairAir_1 rfl rfl ?_
  refine sm_iconst (v := 0) (by decide) d_mo_stairAir_2 ?_
  refine sm_istore_n (lv' := [(2, .int 0), (1, .int 0), (0, .ref a0)]) d_mo_stairAir_3 rfl rfl ?_
  refine sm_sub [2, 1, 0] rfl ?_
  exact w_mo_stairAir_L4 l lo hi d sm_N _ _ _ _ e0 hf
theorem d_mo_doorOf_0 : decode q_mo_doorOf.2.1 0 = .ok (.aload_n 0, 1) := by decide +kernel
theorem d_mo_doorOf_1 : decode q_mo_doorOf.2.1 1 = .ok (.getfield 7, 3) := by decide +kernel
theorem d_mo_doorOf_4 : decode q_mo_doorOf.2.1 4 = .ok (.bipush 98, 2) := by decide +kernel
theorem d_mo_doorOf_6 : decode q_mo_doorOf.2.1 6 = .ok (.iconst 3, 1) := by decide +kernel
theorem d_mo_doorOf_7 : decode q_mo_doorOf.2.1 7 = .ok (.iload_n 1, 1) := by decide +kernel
theorem d_mo_doorOf_8 : decode q_mo_doorOf.2.1 8 = .ok (.imul, 1) := by decide +kernel
theorem d_mo_doorOf_9 : decode q_mo_doorOf.2.1 9 = .ok (.iadd, 1) := by decide +kernel
theorem d_mo_doorOf_10 : decode q_mo_doorOf.2.1 10 = .ok (.iload_n 2, 1) := by decide +kernel
theorem d_mo_doorOf_11 : decode q_mo_doorOf.2.1 11 = .ok (.iadd, 1) := by decide +kernel
theorem d_mo_doorOf_12 : decode q_mo_doorOf.2.1 12 = .ok (.iaload, 1) := by decide +kernel
theorem d_mo_doorOf_13 : decode q_mo_doorOf.2.1 13 = .ok (.ireturn, 1) := by decide +kernel
theorem m_mo_doorOf (l : Launch) (lo hi d : Nat) {a0 : Nat} {a1 : Int32} {a2 : Int32} {r0 : Int32} {h h' : sm_H} (e0 : sm_at lo hi (0, 10, 0) a0) (hf : f_mo_doorOf a0 a1 a2 h = some (r0, h')) : sm_Met l lo hi (d) q_mo_doorOf [.ref a0, .int a1, .int a2] h (some (.int r0)) h' := by
  refine sm_Met.of (by decide +kernel) rfl ?_
  show sm_W l lo hi (d) q_mo_doorOf 0 [(0, .ref a0), (1, .int a1), (2, .int a2)] [] h (some (.int r0)) h'
  unfold f_mo_doorOf at hf
  refine sm_aload_n 0 rfl d_mo_doorOf_0 ?_
  refine sm_getR (n := 1) fl_mo_7 e0 rfl d_mo_doorOf_1 ?_
  refine sm_bipush (v := 98) (by decide) d_mo_doorOf_4 ?_
  refine sm_iconst (v := 3) (by decide) d_mo_doorOf_6 ?_
  refine sm_iload_n 1 rfl d_mo_doorOf_7 ?_
  refine sm_imul d_mo_doorOf_8 ?_
  refine sm_iadd d_mo_doorOf_9 ?_
  refine sm_iload_n 2 rfl d_mo_doorOf_10 ?_
  refine sm_iadd d_mo_doorOf_11 ?_
  obtain ⟨c1, hf⟩ := sm_gdE hf
  refine sm_iald (sm_at_arr (sm_inner e0 0 rfl rfl rfl)) c1 d_mo_doorOf_12 ?_
  obtain ⟨rfl, rfl⟩ := sm_ret2 hf
  exact sm_iret d_mo_doorOf_13 rfl
theorem d_mo_openDoors_0 : decode q_mo_openDoors.2.1 0 = .ok (.iconst 0, 1) := by decide +kernel
theorem d_mo_openDoors_1 : decode q_mo_openDoors.2.1 1 = .ok (.istore_n 1, 1) := by decide +kernel
theorem d_mo_openDoors_2 : decode q_mo_openDoors.2.1 2 = .ok (.iconst 0, 1) := by decide +kernel
theorem d_mo_openDoors_3 : decode q_mo_openDoors.2.1 3 = .ok (.istore_n 2, 1) := by decide +kernel
theorem d_mo_openDoors_4 : decode q_mo_openDoors.2.1 4 = .ok (.iload_n 2, 1) := by decide +kernel
theorem d_mo_openDoors_5 : decode q_mo_openDoors.2.1 5 = .ok (.aload_n 0, 1) := by decide +kernel
theorem d_mo_openDoors_6 : decode q_mo_openDoors.2.1 6 = .ok (.getfield 7, 3) := by decide +kernel
theorem d_mo_openDoors_9 : decode q_mo_openDoors.2.1 9 = .ok (.iconst 3, 1) := by decide +kernel
theorem d_mo_openDoors_10 : decode q_mo_openDoors.2.1 10 = .ok (.iaload, 1) := by decide +kernel
theorem d_mo_openDoors_11 : decode q_mo_openDoors.2.1 11 = .ok (.if_icmp .ge 24, 3) := by decide +kernel
theorem d_mo_openDoors_14 : decode q_mo_openDoors.2.1 14 = .ok (.iload_n 1, 1) := by decide +kernel
theorem d_mo_openDoors_15 : decode q_mo_openDoors.2.1 15 = .ok (.aload_n 0, 1) := by decide +kernel
theorem d_mo_openDoors_16 : decode q_mo_openDoors.2.1 16 = .ok (.getfield 16, 3) := by decide +kernel
theorem d_mo_openDoors_19 : decode q_mo_openDoors.2.1 19 = .ok (.sipush 190, 3) := by decide +kernel
theorem d_mo_openDoors_22 : decode q_mo_openDoors.2.1 22 = .ok (.iload_n 2, 1) := by decide +kernel
theorem d_mo_openDoors_23 : decode q_mo_openDoors.2.1 23 = .ok (.iadd, 1) := by decide +kernel
theorem d_mo_openDoors_24 : decode q_mo_openDoors.2.1 24 = .ok (.iaload, 1) := by decide +kernel
theorem d_mo_openDoors_25 : decode q_mo_openDoors.2.1 25 = .ok (.iload_n 2, 1) := by decide +kernel
theorem d_mo_openDoors_26 : decode q_mo_openDoors.2.1 26 = .ok (.ishl, 1) := by decide +kernel
theorem d_mo_openDoors_27 : decode q_mo_openDoors.2.1 27 = .ok (.ior, 1) := by decide +kernel
theorem d_mo_openDoors_28 : decode q_mo_openDoors.2.1 28 = .ok (.istore_n 1, 1) := by decide +kernel
theorem d_mo_openDoors_29 : decode q_mo_openDoors.2.1 29 = .ok (.iinc 2 1, 3) := by decide +kernel
theorem d_mo_openDoors_32 : decode q_mo_openDoors.2.1 32 = .ok (.goto (-28), 3) := by decide +kernel
theorem d_mo_openDoors_35 : decode q_mo_openDoors.2.1 35 = .ok (.iload_n 1, 1) := by decide +kernel
theorem d_mo_openDoors_36 : decode q_mo_openDoors.2.1 36 = .ok (.ireturn, 1) := by decide +kernel
theorem w_mo_openDoors_L35 (l : Launch) (lo hi d : Nat) {h' : sm_H} {r0 : Int32} (a1 : Int32) (h : sm_H) (hf : f_mo_openDoors_L35 a1 h = some (r0, h')) : sm_W l lo hi (d) q_mo_openDoors 35 [(1, .int a1)] [] h (some (.int r0)) h' := by
  unfold f_mo_openDoors_L35 at hf
  refine sm_iload_n 0 rfl d_mo_openDoors_35 ?_
  obtain ⟨rfl, rfl⟩ := sm_ret2 hf
  exact sm_iret d_mo_openDoors_36 rfl
theorem w_mo_openDoors_L4 (l : Launch) (lo hi d : Nat) {h' : sm_H} {r0 : Int32} : ∀ (n : Nat) (a0 : Nat) (a1 : Int32) (a2 : Int32) (h : sm_H) (e0 : sm_at lo hi (0, 10, 0) a0) (hf : f_mo_openDoors_L4 n a0 a1 a2 h = some (r0, h')), sm_W l lo hi (d) q_mo_openDoors 4 [(0, .ref a0), (1, .int a1), (2, .int a2)] [] h (some (.int r0)) h' := by
  intro n
  induction n with
  | zero =>
    intro a0 a1 a2 h e0 hf
    have z : (none : Option (Int32 × sm_H)) = some _ := hf
    cases z
  | succ n ih =>
    intro a0 a1 a2 h e0 hf
    unfold f_mo_openDoors_L4 at hf
    refine sm_iload_n 2 rfl d_mo_openDoors_4 ?_
    refine sm_aload_n 0 rfl d_mo_openDoors_5 ?_
    refine sm_getR (n := 1) fl_mo_7 e0 rfl d_mo_openDoors_6 ?_
    refine sm_iconst (v := 3) (by decide) d_mo_openDoors_9 ?_
    obtain ⟨c1, hf⟩ := sm_gdE hf
    refine sm_iald (sm_at_arr (sm_inner e0 0 rfl rfl rfl)) c1 d_mo_openDoors_10 ?_
    refine sm_icmp_ge 35 d_mo_openDoors_11 rfl (fun c2 => ?_) (fun c2 => ?_)
    · have hf := sm_ifT c2 hf
      refine sm_sub [1] rfl ?_
      exact w_mo_openDoors_L35 l lo hi d _ _ hf
    · have hf := sm_ifF c2 hf
      refine sm_iload_n 1 rfl d_mo_openDoors_14 ?_
      refine sm_aload_n 0 rfl d_mo_openDoors_15 ?_
      refine sm_getR (n := 3) fl_mo_16 e0 rfl d_mo_openDoors_16 ?_
      refine sm_sipush (v := 190) (by decide) d_mo_openDoors_19 ?_
      refine sm_iload_n 2 rfl d_mo_openDoors_22 ?_
      refine sm_iadd d_mo_openDoors_23 ?_
      obtain ⟨c3, hf⟩ := sm_gdE hf
      refine sm_iald (sm_at_arr (sm_inner e0 2 rfl rfl rfl)) c3 d_mo_openDoors_24 ?_
      refine sm_iload_n 2 rfl d_mo_openDoors_25 ?_
      refine sm_ishl d_mo_openDoors_26 ?_
      refine sm_ior d_mo_openDoors_27 ?_
      refine sm_nmI (fun x4 w5 => ?_)
      have hf := sm_letV w5 hf
      refine sm_istore_n (lv' := [(1, .int x4), (0, .ref a0), (2, .int a2)]) d_mo_openDoors_28 rfl rfl ?_
      obtain ⟨x6, w7⟩ : ∃ v : Int32, v = a2 + 1 := ⟨_, rfl⟩
      have hf := sm_letV w7 hf
      refine sm_iinc (v := x6) (lv' := [(2, .int x6), (1, .int x4), (0, .ref a0)]) 2 rfl (by rw [w7]; rfl) d_mo_openDoors_29 rfl rfl ?_
      refine sm_goto 4 d_mo_openDoors_32 rfl ?_
      refine sm_sub [2, 1, 0] rfl ?_
      exact ih _ _ _ _ e0 hf
theorem m_mo_openDoors (l : Launch) (lo hi d : Nat) {a0 : Nat} {r0 : Int32} {h h' : sm_H} (e0 : sm_at lo hi (0, 10, 0) a0) (hf : f_mo_openDoors a0 h = some (r0, h')) : sm_Met l lo hi (d) q_mo_openDoors [.ref a0] h (some (.int r0)) h' := by
  refine sm_Met.of (by decide +kernel) rfl ?_
  show sm_W l lo hi (d) q_mo_openDoors 0 [(0, .ref a0)] [] h (some (.int r0)) h'
  unfold f_mo_openDoors at hf
  refine sm_iconst (v := 0) (by decide) d_mo_openDoors_0 ?_
  refine sm_istore_n (lv' := [(1, .int 0), (0, .ref a0)]) d_mo_openDoors_1 rfl rfl ?_
  refine sm_iconst (v := 0) (by decide) d_mo_openDoors_2 ?_
  refine sm_istore_n (lv' := [(2, .int 0), (1, .int 0), (0, .ref a0)]) d_mo_openDoors_3 rfl rfl ?_
  refine sm_sub [2, 1, 0] rfl ?_
  exact w_mo_openDoors_L4 l lo hi d sm_N _ _ _ _ e0 hf
theorem d_mo_areaOf_0 : decode q_mo_areaOf.2.1 0 = .ok (.iconst 0, 1) := by decide +kernel
theorem d_mo_areaOf_1 : decode q_mo_areaOf.2.1 1 = .ok (.istore_n 2, 1) := by decide +kernel
theorem d_mo_areaOf_2 : decode q_mo_areaOf.2.1 2 = .ok (.iconst 0, 1) := by decide +kernel
theorem d_mo_areaOf_3 : decode q_mo_areaOf.2.1 3 = .ok (.istore_n 3, 1) := by decide +kernel
theorem d_mo_areaOf_4 : decode q_mo_areaOf.2.1 4 = .ok (.iload_n 3, 1) := by decide +kernel
theorem d_mo_areaOf_5 : decode q_mo_areaOf.2.1 5 = .ok (.aload_n 0, 1) := by decide +kernel
theorem d_mo_areaOf_6 : decode q_mo_areaOf.2.1 6 = .ok (.getfield 7, 3) := by decide +kernel
theorem d_mo_areaOf_9 : decode q_mo_areaOf.2.1 9 = .ok (.iconst 3, 1) := by decide +kernel
theorem d_mo_areaOf_10 : decode q_mo_areaOf.2.1 10 = .ok (.iaload, 1) := by decide +kernel
theorem d_mo_areaOf_11 : decode q_mo_areaOf.2.1 11 = .ok (.if_icmp .ge 30, 3) := by decide +kernel
theorem d_mo_areaOf_14 : decode q_mo_areaOf.2.1 14 = .ok (.iload_n 2, 1) := by decide +kernel
theorem d_mo_areaOf_15 : decode q_mo_areaOf.2.1 15 = .ok (.aload_n 0, 1) := by decide +kernel
theorem d_mo_areaOf_16 : decode q_mo_areaOf.2.1 16 = .ok (.iload_n 3, 1) := by decide +kernel
theorem d_mo_areaOf_17 : decode q_mo_areaOf.2.1 17 = .ok (.iload_n 1, 1) := by decide +kernel
theorem d_mo_areaOf_18 : decode q_mo_areaOf.2.1 18 = .ok (.iload_n 3, 1) := by decide +kernel
theorem d_mo_areaOf_19 : decode q_mo_areaOf.2.1 19 = .ok (.invokestatic 255, 3) := by decide +kernel
theorem d_mo_areaOf_22 : decode q_mo_areaOf.2.1 22 = .ok (.ifCond .eq 7, 3) := by decide +kernel
theorem d_mo_areaOf_25 : decode q_mo_areaOf.2.1 25 = .ok (.iconst 2, 1) := by decide +kernel
theorem d_mo_areaOf_26 : decode q_mo_areaOf.2.1 26 = .ok (.goto 4, 3) := by decide +kernel
theorem d_mo_areaOf_29 : decode q_mo_areaOf.2.1 29 = .ok (.iconst 1, 1) := by decide +kernel
theorem d_mo_areaOf_30 : decode q_mo_areaOf.2.1 30 = .ok (.invokevirtual 358, 3) := by decide +kernel
theorem d_mo_areaOf_33 : decode q_mo_areaOf.2.1 33 = .ok (.iadd, 1) := by decide +kernel
theorem d_mo_areaOf_34 : decode q_mo_areaOf.2.1 34 = .ok (.istore_n 2, 1) := by decide +kernel
theorem d_mo_areaOf_35 : decode q_mo_areaOf.2.1 35 = .ok (.iinc 3 1, 3) := by decide +kernel
theorem d_mo_areaOf_38 : decode q_mo_areaOf.2.1 38 = .ok (.goto (-34), 3) := by decide +kernel
theorem d_mo_areaOf_41 : decode q_mo_areaOf.2.1 41 = .ok (.iload_n 2, 1) := by decide +kernel
theorem d_mo_areaOf_42 : decode q_mo_areaOf.2.1 42 = .ok (.ireturn, 1) := by decide +kernel
theorem w_mo_areaOf_L41 (l : Launch) (lo hi d : Nat) {h' : sm_H} {r0 : Int32} (a2 : Int32) (h : sm_H) (hf : f_mo_areaOf_L41 a2 h = some (r0, h')) : sm_W l lo hi (d + 1) q_mo_areaOf 41 [(2, .int a2)] [] h (some (.int r0)) h' := by
  unfold f_mo_areaOf_L41 at hf
  refine sm_iload_n 0 rfl d_mo_areaOf_41 ?_
  obtain ⟨rfl, rfl⟩ := sm_ret2 hf
  exact sm_iret d_mo_areaOf_42 rfl
theorem w_mo_areaOf_L30 (l : Launch) (lo hi d : Nat) {k4 : Nat → Int32 → Int32 → Int32 → sm_H → Option (Int32 × sm_H)} {h' : sm_H} {r0 : Int32} (hk4 : ∀ (a0 : Nat) (a1 : Int32) (a2 : Int32) (a3 : Int32) (h : sm_H) (_ : sm_at lo hi (0, 10, 0) a0) , k4 a0 a1 a2 a3 h = some (r0, h') → sm_W l lo hi (d + 1) q_mo_areaOf 4 [(0, .ref a0), (1, .int a1), (2, .int a2), (3, .int a3)] [] h (some (.int r0)) h') (a0 : Nat) (a1 : Int32) (a3 : Int32) (s0 : Int32) (s1 : Int32) (s2 : Nat) (s3 : Int32) (h : sm_H) (e0 : sm_at lo hi (0, 10, 0) a0) (t2 : sm_at lo hi (0, 10, 0) s2) (hf : f_mo_areaOf_L30 k4 a0 a1 a3 s0 s1 s2 s3 h = some (r0, h')) : sm_W l lo hi (d + 1) q_mo_areaOf 30 [(0, .ref a0), (1, .int a1), (3, .int a3)] [.int s0, .int s1, .ref s2, .int s3] h (some (.int r0)) h' := by
  unfold f_mo_areaOf_L30 at hf
  obtain ⟨r7, g8, c9, hf⟩ := sm_b2E hf
  refine sm_callV (As := [.int s1, .int s0]) (rv := some (.int r7)) (h1 := g8) (c := 10) cvv_mo_358 rfl rfl t2 (m_mo_doorOf l lo hi _ t2 c9) rfl rfl d_mo_areaOf_30 ?_
  refine sm_iadd d_mo_areaOf_33 ?_
  refine sm_nmI (fun x10 w11 => ?_)
  have hf := sm_letV w11 hf
  refine sm_istore_n (lv' := [(2, .int x10), (0, .ref a0), (1, .int a1), (3, .int a3)]) d_mo_areaOf_34 rfl rfl ?_
  obtain ⟨x12, w13⟩ : ∃ v : Int32, v = a3 + 1 := ⟨_, rfl⟩
  have hf := sm_letV w13 hf
  refine sm_iinc (v := x12) (lv' := [(3, .int x12), (2, .int x10), (0, .ref a0), (1, .int a1)]) 3 rfl (by rw [w13]; rfl) d_mo_areaOf_35 rfl rfl ?_
  refine sm_goto 4 d_mo_areaOf_38 rfl ?_
  refine sm_sub [2, 3, 1, 0] rfl ?_
  exact hk4 _ _ _ _ _ e0 hf
theorem w_mo_areaOf_L4 (l : Launch) (lo hi d : Nat) {h' : sm_H} {r0 : Int32} : ∀ (n : Nat) (a0 : Nat) (a1 : Int32) (a2 : Int32) (a3 : Int32) (h : sm_H) (e0 : sm_at lo hi (0, 10, 0) a0) (hf : f_mo_areaOf_L4 n a0 a1 a2 a3 h = some (r0, h')), sm_W l lo hi (d + 1) q_mo_areaOf 4 [(0, .ref a0), (1, .int a1), (2, .int a2), (3, .int a3)] [] h (some (.int r0)) h' := by
  intro n
  induction n with
  | zero =>
    intro a0 a1 a2 a3 h e0 hf
    have z : (none : Option (Int32 × sm_H)) = some _ := hf
    cases z
  | succ n ih =>
    intro a0 a1 a2 a3 h e0 hf
    unfold f_mo_areaOf_L4 at hf
    refine sm_iload_n 3 rfl d_mo_areaOf_4 ?_
    refine sm_aload_n 0 rfl d_mo_areaOf_5 ?_
    refine sm_getR (n := 1) fl_mo_7 e0 rfl d_mo_areaOf_6 ?_
    refine sm_iconst (v := 3) (by decide) d_mo_areaOf_9 ?_
    obtain ⟨c1, hf⟩ := sm_gdE hf
    refine sm_iald (sm_at_arr (sm_inner e0 0 rfl rfl rfl)) c1 d_mo_areaOf_10 ?_
    refine sm_icmp_ge 41 d_mo_areaOf_11 rfl (fun c2 => ?_) (fun c2 => ?_)
    · have hf := sm_ifT c2 hf
      refine sm_sub [2] rfl ?_
      exact w_mo_areaOf_L41 l lo hi d _ _ hf
    · have hf := sm_ifF c2 hf
      refine sm_iload_n 2 rfl d_mo_areaOf_14 ?_
      refine sm_aload_n 0 rfl d_mo_areaOf_15 ?_
      refine sm_iload_n 3 rfl d_mo_areaOf_16 ?_
      refine sm_iload_n 1 rfl d_mo_areaOf_17 ?_
      refine sm_iload_n 3 rfl d_mo_areaOf_18 ?_
      obtain ⟨r3, g4, c5, hf⟩ := sm_b2E hf
      refine sm_callS (As := [.int a1, .int a3]) (rv := some (.int r3)) (h1 := g4) cvs_mo_255 (m_mo_hasBit l lo hi _ c5) rfl rfl d_mo_areaOf_19 ?_
      refine sm_if_eq 29 d_mo_areaOf_22 rfl (fun c6 => ?_) (fun c6 => ?_)
      · have hf := sm_ifT c6 hf
        refine sm_iconst (v := 1) (by decide) d_mo_areaOf_29 ?_
        refine sm_sub [0, 1, 3] rfl ?_
        exact w_mo_areaOf_L30 l lo hi d ih _ _ _ _ _ _ _ _ e0 e0 hf
      · have hf := sm_ifF c6 hf
        refine sm_iconst (v := 2) (by decide) d_mo_areaOf_25 ?_
        refine sm_goto 30 d_mo_areaOf_26 rfl ?_
        refine sm_sub [0, 1, 3] rfl ?_
        exact w_mo_areaOf_L30 l lo hi d ih _ _ _ _ _ _ _ _ e0 e0 hf
theorem m_mo_areaOf (l : Launch) (lo hi d : Nat) {a0 : Nat} {a1 : Int32} {r0 : Int32} {h h' : sm_H} (e0 : sm_at lo hi (0, 10, 0) a0) (hf : f_mo_areaOf a0 a1 h = some (r0, h')) : sm_Met l lo hi (d + 1) q_mo_areaOf [.ref a0, .int a1] h (some (.int r0)) h' := by
  refine sm_Met.of (by decide +kernel) rfl ?_
  show sm_W l lo hi (d + 1) q_mo_areaOf 0 [(0, .ref a0), (1, .int a1)] [] h (some (.int r0)) h'
  unfold f_mo_areaOf at hf
  refine sm_iconst (v := 0) (by decide) d_mo_areaOf_0 ?_
  refine sm_istore_n (lv' := [(2, .int 0), (0, .ref a0), (1, .int a1)]) d_mo_areaOf_1 rfl rfl ?_
  refine sm_iconst (v := 0) (by decide) d_mo_areaOf_2 ?_
  refine sm_istore_n (lv' := [(3, .int 0), (2, .int 0), (0, .ref a0), (1, .int a1)]) d_mo_areaOf_3 rfl rfl ?_
  refine sm_sub [2, 3, 1, 0] rfl ?_
  exact w_mo_areaOf_L4 l lo hi d sm_N _ _ _ _ _ e0 hf
theorem d_mo_pressureBy_0 : decode q_mo_pressureBy.2.1 0 = .ok (.iload_n 1, 1) := by decide +kernel
theorem d_mo_pressureBy_1 : decode q_mo_pressureBy.2.1 1 = .ok (.ifCond .ne 7, 3) := by decide +kernel
theorem d_mo_pressureBy_4 : decode q_mo_pressureBy.2.1 4 = .ok (.iconst 0, 1) := by decide +kernel
theorem d_mo_pressureBy_5 : decode q_mo_pressureBy.2.1 5 = .ok (.goto 16, 3) := by decide +kernel
theorem d_mo_pressureBy_8 : decode q_mo_pressureBy.2.1 8 = .ok (.sipush 999, 3) := by decide +kernel
theorem d_mo_pressureBy_11 : decode q_mo_pressureBy.2.1 11 = .ok (.iload_n 0, 1) := by decide +kernel
theorem d_mo_pressureBy_12 : decode q_mo_pressureBy.2.1 12 = .ok (.iload_n 0, 1) := by decide +kernel
theorem d_mo_pressureBy_13 : decode q_mo_pressureBy.2.1 13 = .ok (.imul, 1) := by decide +kernel
theorem d_mo_pressureBy_14 : decode q_mo_pressureBy.2.1 14 = .ok (.iload_n 1, 1) := by decide +kernel
theorem d_mo_pressureBy_15 : decode q_mo_pressureBy.2.1 15 = .ok (.iload_n 1, 1) := by decide +kernel
theorem d_mo_pressureBy_16 : decode q_mo_pressureBy.2.1 16 = .ok (.imul, 1) := by decide +kernel
theorem d_mo_pressureBy_17 : decode q_mo_pressureBy.2.1 17 = .ok (.idiv, 1) := by decide +kernel
theorem d_mo_pressureBy_18 : decode q_mo_pressureBy.2.1 18 = .ok (.invokestatic 361, 3) := by decide +kernel
theorem d_mo_pressureBy_21 : decode q_mo_pressureBy.2.1 21 = .ok (.ireturn, 1) := by decide +kernel
theorem w_mo_pressureBy_L21 (l : Launch) (lo hi d : Nat) {h' : sm_H} {r0 : Int32} (s0 : Int32) (h : sm_H) (hf : f_mo_pressureBy_L21 s0 h = some (r0, h')) : sm_W l lo hi (d + 1) q_mo_pressureBy 21 [] [.int s0] h (some (.int r0)) h' := by
  unfold f_mo_pressureBy_L21 at hf
  obtain ⟨rfl, rfl⟩ := sm_ret2 hf
  exact sm_iret d_mo_pressureBy_21 rfl
theorem m_mo_pressureBy (l : Launch) (lo hi d : Nat) {a0 : Int32} {a1 : Int32} {r0 : Int32} {h h' : sm_H} (hf : f_mo_pressureBy a0 a1 h = some (r0, h')) : sm_Met l lo hi (d + 1) q_mo_pressureBy [.int a0, .int a1] h (some (.int r0)) h' := by
  refine sm_Met.of (by decide +kernel) rfl ?_
  show sm_W l lo hi (d + 1) q_mo_pressureBy 0 [(0, .int a0), (1, .int a1)] [] h (some (.int r0)) h'
  unfold f_mo_pressureBy at hf
  refine sm_iload_n 1 rfl d_mo_pressureBy_0 ?_
  refine sm_if_ne 8 d_mo_pressureBy_1 rfl (fun c1 => ?_) (fun c1 => ?_)
  · have hf := sm_ifF c1 hf
    refine sm_sipush (v := 999) (by decide) d_mo_pressureBy_8 ?_
    refine sm_iload_n 0 rfl d_mo_pressureBy_11 ?_
    refine sm_iload_n 0 rfl d_mo_pressureBy_12 ?_
    refine sm_imul d_mo_pressureBy_13 ?_
    refine sm_iload_n 1 rfl d_mo_pressureBy_14 ?_
    refine sm_iload_n 1 rfl d_mo_pressureBy_15 ?_
    refine sm_imul d_mo_pressureBy_16 ?_
    obtain ⟨c2, hf⟩ := sm_gdE hf
    refine sm_idiv c2 d_mo_pressureBy_17 ?_
    obtain ⟨r3, g4, c5, hf⟩ := sm_b2E hf
    refine sm_callS (As := [.int 999, .int ((a0 * a0) / (a1 * a1))]) (rv := some (.int r3)) (h1 := g4) cvs_mo_361 (m_mo_lesser l lo hi _ c5) rfl rfl d_mo_pressureBy_18 ?_
    refine sm_sub [] rfl ?_
    exact w_mo_pressureBy_L21 l lo hi d _ _ hf
  · have hf := sm_ifT c1 hf
    refine sm_iconst (v := 0) (by decide) d_mo_pressureBy_4 ?_
    refine sm_goto 21 d_mo_pressureBy_5 rfl ?_
    refine sm_sub [] rfl ?_
    exact w_mo_pressureBy_L21 l lo hi d _ _ hf
theorem d_mo_record_0 : decode q_mo_record.2.1 0 = .ok (.aload_n 0, 1) := by decide +kernel
theorem d_mo_record_1 : decode q_mo_record.2.1 1 = .ok (.getfield 16, 3) := by decide +kernel
theorem d_mo_record_4 : decode q_mo_record.2.1 4 = .ok (.bipush 9, 2) := by decide +kernel
theorem d_mo_record_6 : decode q_mo_record.2.1 6 = .ok (.iaload, 1) := by decide +kernel
theorem d_mo_record_7 : decode q_mo_record.2.1 7 = .ok (.bipush 50, 2) := by decide +kernel
theorem d_mo_record_9 : decode q_mo_record.2.1 9 = .ok (.if_icmp .ne 43, 3) := by decide +kernel
theorem d_mo_record_12 : decode q_mo_record.2.1 12 = .ok (.sipush 203, 3) := by decide +kernel
theorem d_mo_record_15 : decode q_mo_record.2.1 15 = .ok (.istore_n 3, 1) := by decide +kernel
theorem d_mo_record_16 : decode q_mo_record.2.1 16 = .ok (.iload_n 3, 1) := by decide +kernel
theorem d_mo_record_17 : decode q_mo_record.2.1 17 = .ok (.sipush 350, 3) := by decide +kernel
theorem d_mo_record_20 : decode q_mo_record.2.1 20 = .ok (.if_icmp .ge 23, 3) := by decide +kernel
theorem d_mo_record_23 : decode q_mo_record.2.1 23 = .ok (.aload_n 0, 1) := by decide +kernel
theorem d_mo_record_24 : decode q_mo_record.2.1 24 = .ok (.getfield 16, 3) := by decide +kernel
theorem d_mo_record_27 : decode q_mo_record.2.1 27 = .ok (.iload_n 3, 1) := by decide +kernel
theorem d_mo_record_28 : decode q_mo_record.2.1 28 = .ok (.iconst 3, 1) := by decide +kernel
theorem d_mo_record_29 : decode q_mo_record.2.1 29 = .ok (.isub, 1) := by decide +kernel
theorem d_mo_record_30 : decode q_mo_record.2.1 30 = .ok (.aload_n 0, 1) := by decide +kernel
theorem d_mo_record_31 : decode q_mo_record.2.1 31 = .ok (.getfield 16, 3) := by decide +kernel
theorem d_mo_record_34 : decode q_mo_record.2.1 34 = .ok (.iload_n 3, 1) := by decide +kernel
theorem d_mo_record_35 : decode q_mo_record.2.1 35 = .ok (.iaload, 1) := by decide +kernel
theorem d_mo_record_36 : decode q_mo_record.2.1 36 = .ok (.iastore, 1) := by decide +kernel
theorem d_mo_record_37 : decode q_mo_record.2.1 37 = .ok (.iinc 3 1, 3) := by decide +kernel
theorem d_mo_record_40 : decode q_mo_record.2.1 40 = .ok (.goto (-24), 3) := by decide +kernel
theorem d_mo_record_43 : decode q_mo_record.2.1 43 = .ok (.aload_n 0, 1) := by decide +kernel
theorem d_mo_record_44 : decode q_mo_record.2.1 44 = .ok (.getfield 16, 3) := by decide +kernel
theorem d_mo_record_47 : decode q_mo_record.2.1 47 = .ok (.bipush 9, 2) := by decide +kernel
theorem d_mo_record_49 : decode q_mo_record.2.1 49 = .ok (.bipush 49, 2) := by decide +kernel
theorem d_mo_record_51 : decode q_mo_record.2.1 51 = .ok (.iastore, 1) := by decide +kernel
theorem d_mo_record_52 : decode q_mo_record.2.1 52 = .ok (.sipush 200, 3) := by decide +kernel
theorem d_mo_record_55 : decode q_mo_record.2.1 55 = .ok (.iconst 3, 1) := by decide +kernel
theorem d_mo_record_56 : decode q_mo_record.2.1 56 = .ok (.aload_n 0, 1) := by decide +kernel
theorem d_mo_record_57 : decode q_mo_record.2.1 57 = .ok (.getfield 16, 3) := by decide +kernel
theorem d_mo_record_60 : decode q_mo_record.2.1 60 = .ok (.bipush 9, 2) := by decide +kernel
theorem d_mo_record_62 : decode q_mo_record.2.1 62 = .ok (.iaload, 1) := by decide +kernel
theorem d_mo_record_63 : decode q_mo_record.2.1 63 = .ok (.imul, 1) := by decide +kernel
theorem d_mo_record_64 : decode q_mo_record.2.1 64 = .ok (.iadd, 1) := by decide +kernel
theorem d_mo_record_65 : decode q_mo_record.2.1 65 = .ok (.istore_n 3, 1) := by decide +kernel
theorem d_mo_record_66 : decode q_mo_record.2.1 66 = .ok (.aload_n 0, 1) := by decide +kernel
theorem d_mo_record_67 : decode q_mo_record.2.1 67 = .ok (.getfield 16, 3) := by decide +kernel
theorem d_mo_record_70 : decode q_mo_record.2.1 70 = .ok (.iload_n 3, 1) := by decide +kernel
theorem d_mo_record_71 : decode q_mo_record.2.1 71 = .ok (.aload_n 0, 1) := by decide +kernel
theorem d_mo_record_72 : decode q_mo_record.2.1 72 = .ok (.getfield 16, 3) := by decide +kernel
theorem d_mo_record_75 : decode q_mo_record.2.1 75 = .ok (.iconst 0, 1) := by decide +kernel
theorem d_mo_record_76 : decode q_mo_record.2.1 76 = .ok (.iaload, 1) := by decide +kernel
theorem d_mo_record_77 : decode q_mo_record.2.1 77 = .ok (.iastore, 1) := by decide +kernel
theorem d_mo_record_78 : decode q_mo_record.2.1 78 = .ok (.aload_n 0, 1) := by decide +kernel
theorem d_mo_record_79 : decode q_mo_record.2.1 79 = .ok (.getfield 16, 3) := by decide +kernel
theorem d_mo_record_82 : decode q_mo_record.2.1 82 = .ok (.iload_n 3, 1) := by decide +kernel
theorem d_mo_record_83 : decode q_mo_record.2.1 83 = .ok (.iconst 1, 1) := by decide +kernel
theorem d_mo_record_84 : decode q_mo_record.2.1 84 = .ok (.iadd, 1) := by decide +kernel
theorem d_mo_record_85 : decode q_mo_record.2.1 85 = .ok (.iload_n 1, 1) := by decide +kernel
theorem d_mo_record_86 : decode q_mo_record.2.1 86 = .ok (.iastore, 1) := by decide +kernel
theorem d_mo_record_87 : decode q_mo_record.2.1 87 = .ok (.aload_n 0, 1) := by decide +kernel
theorem d_mo_record_88 : decode q_mo_record.2.1 88 = .ok (.getfield 16, 3) := by decide +kernel
theorem d_mo_record_91 : decode q_mo_record.2.1 91 = .ok (.iload_n 3, 1) := by decide +kernel
theorem d_mo_record_92 : decode q_mo_record.2.1 92 = .ok (.iconst 2, 1) := by decide +kernel
theorem d_mo_record_93 : decode q_mo_record.2.1 93 = .ok (.iadd, 1) := by decide +kernel
theorem d_mo_record_94 : decode q_mo_record.2.1 94 = .ok (.iload_n 2, 1) := by decide +kernel
theorem d_mo_record_95 : decode q_mo_record.2.1 95 = .ok (.iastore, 1) := by decide +kernel
theorem d_mo_record_96 : decode q_mo_record.2.1 96 = .ok (.aload_n 0, 1) := by decide +kernel
theorem d_mo_record_97 : decode q_mo_record.2.1 97 = .ok (.getfield 16, 3) := by decide +kernel
theorem d_mo_record_100 : decode q_mo_record.2.1 100 = .ok (.bipush 9, 2) := by decide +kernel
theorem d_mo_record_102 : decode q_mo_record.2.1 102 = .ok (.aload_n 0, 1) := by decide +kernel
theorem d_mo_record_103 : decode q_mo_record.2.1 103 = .ok (.getfield 16, 3) := by decide +kernel
theorem d_mo_record_106 : decode q_mo_record.2.1 106 = .ok (.bipush 9, 2) := by decide +kernel
theorem d_mo_record_108 : decode q_mo_record.2.1 108 = .ok (.iaload, 1) := by decide +kernel
theorem d_mo_record_109 : decode q_mo_record.2.1 109 = .ok (.iconst 1, 1) := by decide +kernel
theorem d_mo_record_110 : decode q_mo_record.2.1 110 = .ok (.iadd, 1) := by decide +kernel
theorem d_mo_record_111 : decode q_mo_record.2.1 111 = .ok (.iastore, 1) := by decide +kernel
theorem d_mo_record_112 : decode q_mo_record.2.1 112 = .ok (.return_, 1) := by decide +kernel
theorem w_mo_record_L52 (l : Launch) (lo hi d : Nat) {h' : sm_H} (a0 : Nat) (a1 : Int32) (a2 : Int32) (h : sm_H) (e0 : sm_at lo hi (0, 10, 0) a0) (hf : f_mo_record_L52 a0 a1 a2 h = some h') : sm_W l lo hi (d) q_mo_record 52 [(0, .ref a0), (1, .int a1), (2, .int a2)] [] h none h' := by
  unfold f_mo_record_L52 at hf
  refine sm_sipush (v := 200) (by decide) d_mo_record_52 ?_
  refine sm_iconst (v := 3) (by decide) d_mo_record_55 ?_
  refine sm_aload_n 0 rfl d_mo_record_56 ?_
  refine sm_getR (n := 3) fl_mo_16 e0 rfl d_mo_record_57 ?_
  refine sm_bipush (v := 9) (by decide) d_mo_record_60 ?_
  obtain ⟨c13, hf⟩ := sm_gdE hf
  refine sm_iald (sm_at_arr (sm_inner e0 2 rfl rfl rfl)) c13 d_mo_record_62 ?_
  refine sm_imul d_mo_record_63 ?_
  refine sm_iadd d_mo_record_64 ?_
  refine sm_nmI (fun x14 w15 => ?_)
  have hf := sm_letV w15 hf
  refine sm_istore_n (lv' := [(3, .int x14), (0, .ref a0), (1, .int a1), (2, .int a2)]) d_mo_record_65 rfl rfl ?_
  refine sm_aload_n 1 rfl d_mo_record_66 ?_
  refine sm_getR (n := 3) fl_mo_16 e0 rfl d_mo_record_67 ?_
  refine sm_iload_n 0 rfl d_mo_record_70 ?_
  refine sm_aload_n 1 rfl d_mo_record_71 ?_
  refine sm_getR (n := 3) fl_mo_16 e0 rfl d_mo_record_72 ?_
  refine sm_iconst (v := 0) (by decide) d_mo_record_75 ?_
  obtain ⟨c16, hf⟩ := sm_gdE hf
  refine sm_iald (sm_at_arr (sm_inner e0 2 rfl rfl rfl)) c16 d_mo_record_76 ?_
  obtain ⟨c17, hf⟩ := sm_gdE hf
  refine sm_iast (sm_at_arr (sm_inner e0 2 rfl rfl rfl)) c17 d_mo_record_77 ?_
  refine sm_nmH (fun g18 w19 => ?_)
  have hf := sm_letV w19 hf
  refine sm_aload_n 1 rfl d_mo_record_78 ?_
  refine sm_getR (n := 3) fl_mo_16 e0 rfl d_mo_record_79 ?_
  refine sm_iload_n 0 rfl d_mo_record_82 ?_
  refine sm_iconst (v := 1) (by decide) d_mo_record_83 ?_
  refine sm_iadd d_mo_record_84 ?_
  refine sm_iload_n 2 rfl d_mo_record_85 ?_
  obtain ⟨c20, hf⟩ := sm_gdE hf
  refine sm_iast (sm_at_arr (sm_inner e0 2 rfl rfl rfl)) c20 d_mo_record_86 ?_
  refine sm_nmH (fun g21 w22 => ?_)
  have hf := sm_letV w22 hf
  refine sm_aload_n 1 rfl d_mo_record_87 ?_
  refine sm_getR (n := 3) fl_mo_16 e0 rfl d_mo_record_88 ?_
  refine sm_iload_n 0 rfl d_mo_record_91 ?_
  refine sm_iconst (v := 2) (by decide) d_mo_record_92 ?_
  refine sm_iadd d_mo_record_93 ?_
  refine sm_iload_n 3 rfl d_mo_record_94 ?_
  obtain ⟨c23, hf⟩ := sm_gdE hf
  refine sm_iast (sm_at_arr (sm_inner e0 2 rfl rfl rfl)) c23 d_mo_record_95 ?_
  refine sm_nmH (fun g24 w25 => ?_)
  have hf := sm_letV w25 hf
  refine sm_aload_n 1 rfl d_mo_record_96 ?_
  refine sm_getR (n := 3) fl_mo_16 e0 rfl d_mo_record_97 ?_
  refine sm_bipush (v := 9) (by decide) d_mo_record_100 ?_
  refine sm_aload_n 1 rfl d_mo_record_102 ?_
  refine sm_getR (n := 3) fl_mo_16 e0 rfl d_mo_record_103 ?_
  refine sm_bipush (v := 9) (by decide) d_mo_record_106 ?_
  obtain ⟨c26, hf⟩ := sm_gdE hf
  refine sm_iald (sm_at_arr (sm_inner e0 2 rfl rfl rfl)) c26 d_mo_record_108 ?_
  refine sm_iconst (v := 1) (by decide) d_mo_record_109 ?_
  refine sm_iadd d_mo_record_110 ?_
  obtain ⟨c27, hf⟩ := sm_gdE hf
  refine sm_iast (sm_at_arr (sm_inner e0 2 rfl rfl rfl)) c27 d_mo_record_111 ?_
  refine sm_nmH (fun g28 w29 => ?_)
  have hf := sm_letV w29 hf
  obtain rfl := sm_ret1 hf
  exact sm_vret d_mo_record_112 rfl
theorem w_mo_record_L43 (l : Launch) (lo hi d : Nat) {h' : sm_H} (a0 : Nat) (a1 : Int32) (a2 : Int32) (h : sm_H) (e0 : sm_at lo hi (0, 10, 0) a0) (hf : f_mo_record_L43 a0 a1 a2 h = some h') : sm_W l lo hi (d) q_mo_record 43 [(0, .ref a0), (1, .int a1), (2, .int a2)] [] h none h' := by
  unfold f_mo_record_L43 at hf
  refine sm_aload_n 0 rfl d_mo_record_43 ?_
  refine sm_getR (n := 3) fl_mo_16 e0 rfl d_mo_record_44 ?_
  refine sm_bipush (v := 9) (by decide) d_mo_record_47 ?_
  refine sm_bipush (v := 49) (by decide) d_mo_record_49 ?_
  obtain ⟨c10, hf⟩ := sm_gdE hf
  refine sm_iast (sm_at_arr (sm_inner e0 2 rfl rfl rfl)) c10 d_mo_record_51 ?_
  refine sm_nmH (fun g11 w12 => ?_)
  have hf := sm_letV w12 hf
  exact w_mo_record_L52 l lo hi d _ _ _ _ e0 hf
theorem w_mo_record_L16 (l : Launch) (lo hi d : Nat) {h' : sm_H} : ∀ (n : Nat) (a0 : Nat) (a1 : Int32) (a2 : Int32) (a3 : Int32) (h : sm_H) (e0 : sm_at lo hi (0, 10, 0) a0) (hf : f_mo_record_L16 n a0 a1 a2 a3 h = some h'), sm_W l lo hi (d) q_mo_record 16 [(0, .ref a0), (1, .int a1), (2, .int a2), (3, .int a3)] [] h none h' := by
  intro n
  induction n with
  | zero =>
    intro a0 a1 a2 a3 h e0 hf
    have z : (none : Option sm_H) = some _ := hf
    cases z
  | succ n ih =>
    intro a0 a1 a2 a3 h e0 hf
    unfold f_mo_record_L16 at hf
    refine sm_iload_n 3 rfl d_mo_record_16 ?_
    refine sm_sipush (v := 350) (by decide) d_mo_record_17 ?_
    refine sm_icmp_ge 43 d_mo_record_20 rfl (fun c3 => ?_) (fun c3 => ?_)
    · have hf := sm_ifT c3 hf
      refine sm_sub [0, 1, 2] rfl ?_
      exact w_mo_record_L43 l lo hi d _ _ _ _ e0 hf
    · have hf := sm_ifF c3 hf
      refine sm_aload_n 0 rfl d_mo_record_23 ?_
      refine sm_getR (n := 3) fl_mo_16 e0 rfl d_mo_record_24 ?_
      refine sm_iload_n 3 rfl d_mo_record_27 ?_
      refine sm_iconst (v := 3) (by decide) d_mo_record_28 ?_
      refine sm_isub d_mo_record_29 ?_
      refine sm_aload_n 0 rfl d_mo_record_30 ?_
      refine sm_getR (n := 3) fl_mo_16 e0 rfl d_mo_record_31 ?_
      refine sm_iload_n 3 rfl d_mo_record_34 ?_
      obtain ⟨c4, hf⟩ := sm_gdE hf
      refine sm_iald (sm_at_arr (sm_inner e0 2 rfl rfl rfl)) c4 d_mo_record_35 ?_
      obtain ⟨c5, hf⟩ := sm_gdE hf
      refine sm_iast (sm_at_arr (sm_inner e0 2 rfl rfl rfl)) c5 d_mo_record_36 ?_
      refine sm_nmH (fun g6 w7 => ?_)
      have hf := sm_letV w7 hf
      obtain ⟨x8, w9⟩ : ∃ v : Int32, v = a3 + 1 := ⟨_, rfl⟩
      have hf := sm_letV w9 hf
      refine sm_iinc (v := x8) (lv' := [(3, .int x8), (0, .ref a0), (1, .int a1), (2, .int a2)]) 3 rfl (by rw [w9]; rfl) d_mo_record_37 rfl rfl ?_
      refine sm_goto 16 d_mo_record_40 rfl ?_
      refine sm_sub [1, 2, 3, 0] rfl ?_
      exact ih _ _ _ _ _ e0 hf
theorem m_mo_record (l : Launch) (lo hi d : Nat) {a0 : Nat} {a1 : Int32} {a2 : Int32} {h h' : sm_H} (e0 : sm_at lo hi (0, 10, 0) a0) (hf : f_mo_record a0 a1 a2 h = some h') : sm_Met l lo hi (d) q_mo_record [.ref a0, .int a1, .int a2] h none h' := by
  refine sm_Met.of (by decide +kernel) rfl ?_
  show sm_W l lo hi (d) q_mo_record 0 [(0, .ref a0), (1, .int a1), (2, .int a2)] [] h none h'
  unfold f_mo_record at hf
  refine sm_aload_n 0 rfl d_mo_record_0 ?_
  refine sm_getR (n := 3) fl_mo_16 e0 rfl d_mo_record_1 ?_
  refine sm_bipush (v := 9) (by decide) d_mo_record_4 ?_
  obtain ⟨c1, hf⟩ := sm_gdE hf
  refine sm_iald (sm_at_arr (sm_inner e0 2 rfl rfl rfl)) c1 d_mo_record_6 ?_
  refine sm_bipush (v := 50) (by decide) d_mo_record_7 ?_
  refine sm_icmp_ne 52 d_mo_record_9 rfl (fun c2 => ?_) (fun c2 => ?_)
  · have hf := sm_ifF c2 hf
    exact w_mo_record_L52 l lo hi d _ _ _ _ e0 hf
  · have hf := sm_ifT c2 hf
    refine sm_sipush (v := 203) (by decide) d_mo_record_12 ?_
    refine sm_istore_n (lv' := [(3, .int 203), (0, .ref a0), (1, .int a1), (2, .int a2)]) d_mo_record_15 rfl rfl ?_
    refine sm_sub [1, 2, 3, 0] rfl ?_
    exact w_mo_record_L16 l lo hi d sm_N _ _ _ _ _ e0 hf
theorem d_mo_moveDamper_0 : decode q_mo_moveDamper.2.1 0 = .ok (.aload_n 0, 1) := by decide +kernel
theorem d_mo_moveDamper_1 : decode q_mo_moveDamper.2.1 1 = .ok (.iload_n 1, 1) := by decide +kernel
theorem d_mo_moveDamper_2 : decode q_mo_moveDamper.2.1 2 = .ok (.iconst 2, 1) := by decide +kernel
theorem d_mo_moveDamper_3 : decode q_mo_moveDamper.2.1 3 = .ok (.invokevirtual 73, 3) := by decide +kernel
theorem d_mo_moveDamper_6 : decode q_mo_moveDamper.2.1 6 = .ok (.istore_n 2, 1) := by decide +kernel
theorem d_mo_moveDamper_7 : decode q_mo_moveDamper.2.1 7 = .ok (.aload_n 0, 1) := by decide +kernel
theorem d_mo_moveDamper_8 : decode q_mo_moveDamper.2.1 8 = .ok (.getfield 45, 3) := by decide +kernel
theorem d_mo_moveDamper_11 : decode q_mo_moveDamper.2.1 11 = .ok (.iload_n 1, 1) := by decide +kernel
theorem d_mo_moveDamper_12 : decode q_mo_moveDamper.2.1 12 = .ok (.iaload, 1) := by decide +kernel
theorem d_mo_moveDamper_13 : decode q_mo_moveDamper.2.1 13 = .ok (.iconst 1, 1) := by decide +kernel
theorem d_mo_moveDamper_14 : decode q_mo_moveDamper.2.1 14 = .ok (.if_icmp .ne 7, 3) := by decide +kernel
theorem d_mo_moveDamper_17 : decode q_mo_moveDamper.2.1 17 = .ok (.iload_n 2, 1) := by decide +kernel
theorem d_mo_moveDamper_18 : decode q_mo_moveDamper.2.1 18 = .ok (.goto 4, 3) := by decide +kernel
theorem d_mo_moveDamper_21 : decode q_mo_moveDamper.2.1 21 = .ok (.iconst 0, 1) := by decide +kernel
theorem d_mo_moveDamper_22 : decode q_mo_moveDamper.2.1 22 = .ok (.istore_n 3, 1) := by decide +kernel
theorem d_mo_moveDamper_23 : decode q_mo_moveDamper.2.1 23 = .ok (.aload_n 0, 1) := by decide +kernel
theorem d_mo_moveDamper_24 : decode q_mo_moveDamper.2.1 24 = .ok (.iload_n 1, 1) := by decide +kernel
theorem d_mo_moveDamper_25 : decode q_mo_moveDamper.2.1 25 = .ok (.iconst 0, 1) := by decide +kernel
theorem d_mo_moveDamper_26 : decode q_mo_moveDamper.2.1 26 = .ok (.invokevirtual 308, 3) := by decide +kernel
theorem d_mo_moveDamper_29 : decode q_mo_moveDamper.2.1 29 = .ok (.istore 4, 2) := by decide +kernel
theorem d_mo_moveDamper_31 : decode q_mo_moveDamper.2.1 31 = .ok (.aload_n 0, 1) := by decide +kernel
theorem d_mo_moveDamper_32 : decode q_mo_moveDamper.2.1 32 = .ok (.iload_n 1, 1) := by decide +kernel
theorem d_mo_moveDamper_33 : decode q_mo_moveDamper.2.1 33 = .ok (.iconst 1, 1) := by decide +kernel
theorem d_mo_moveDamper_34 : decode q_mo_moveDamper.2.1 34 = .ok (.invokevirtual 308, 3) := by decide +kernel
theorem d_mo_moveDamper_37 : decode q_mo_moveDamper.2.1 37 = .ok (.ifCond .ne 36, 3) := by decide +kernel
theorem d_mo_moveDamper_40 : decode q_mo_moveDamper.2.1 40 = .ok (.iload 4, 2) := by decide +kernel
theorem d_mo_moveDamper_42 : decode q_mo_moveDamper.2.1 42 = .ok (.iload_n 3, 1) := by decide +kernel
theorem d_mo_moveDamper_43 : decode q_mo_moveDamper.2.1 43 = .ok (.if_icmp .eq 30, 3) := by decide +kernel
theorem d_mo_moveDamper_46 : decode q_mo_moveDamper.2.1 46 = .ok (.iload 4, 2) := by decide +kernel
theorem d_mo_moveDamper_48 : decode q_mo_moveDamper.2.1 48 = .ok (.iload_n 3, 1) := by decide +kernel
theorem d_mo_moveDamper_49 : decode q_mo_moveDamper.2.1 49 = .ok (.if_icmp .ge 10, 3) := by decide +kernel
theorem d_mo_moveDamper_52 : decode q_mo_moveDamper.2.1 52 = .ok (.iload 4, 2) := by decide +kernel
theorem d_mo_moveDamper_54 : decode q_mo_moveDamper.2.1 54 = .ok (.iconst 1, 1) := by decide +kernel
theorem d_mo_moveDamper_55 : decode q_mo_moveDamper.2.1 55 = .ok (.iadd, 1) := by decide +kernel
theorem d_mo_moveDamper_56 : decode q_mo_moveDamper.2.1 56 = .ok (.goto 7, 3) := by decide +kernel
theorem d_mo_moveDamper_59 : decode q_mo_moveDamper.2.1 59 = .ok (.iload 4, 2) := by decide +kernel
theorem d_mo_moveDamper_61 : decode q_mo_moveDamper.2.1 61 = .ok (.iconst 1, 1) := by decide +kernel
theorem d_mo_moveDamper_62 : decode q_mo_moveDamper.2.1 62 = .ok (.isub, 1) := by decide +kernel
theorem d_mo_moveDamper_63 : decode q_mo_moveDamper.2.1 63 = .ok (.istore 4, 2) := by decide +kernel
theorem d_mo_moveDamper_65 : decode q_mo_moveDamper.2.1 65 = .ok (.aload_n 0, 1) := by decide +kernel
theorem d_mo_moveDamper_66 : decode q_mo_moveDamper.2.1 66 = .ok (.iload_n 1, 1) := by decide +kernel
theorem d_mo_moveDamper_67 : decode q_mo_moveDamper.2.1 67 = .ok (.iconst 0, 1) := by decide +kernel
theorem d_mo_moveDamper_68 : decode q_mo_moveDamper.2.1 68 = .ok (.iload 4, 2) := by decide +kernel
theorem d_mo_moveDamper_70 : decode q_mo_moveDamper.2.1 70 = .ok (.invokevirtual 77, 3) := by decide +kernel
theorem d_mo_moveDamper_73 : decode q_mo_moveDamper.2.1 73 = .ok (.aload_n 0, 1) := by decide +kernel
theorem d_mo_moveDamper_74 : decode q_mo_moveDamper.2.1 74 = .ok (.iload_n 1, 1) := by decide +kernel
theorem d_mo_moveDamper_75 : decode q_mo_moveDamper.2.1 75 = .ok (.iconst 4, 1) := by decide +kernel
theorem d_mo_moveDamper_76 : decode q_mo_moveDamper.2.1 76 = .ok (.invokevirtual 308, 3) := by decide +kernel
theorem d_mo_moveDamper_79 : decode q_mo_moveDamper.2.1 79 = .ok (.aload_n 0, 1) := by decide +kernel
theorem d_mo_moveDamper_80 : decode q_mo_moveDamper.2.1 80 = .ok (.getfield 45, 3) := by decide +kernel
theorem d_mo_moveDamper_83 : decode q_mo_moveDamper.2.1 83 = .ok (.iload_n 1, 1) := by decide +kernel
theorem d_mo_moveDamper_84 : decode q_mo_moveDamper.2.1 84 = .ok (.iaload, 1) := by decide +kernel
theorem d_mo_moveDamper_85 : decode q_mo_moveDamper.2.1 85 = .ok (.if_icmp .eq 7, 3) := by decide +kernel
theorem d_mo_moveDamper_88 : decode q_mo_moveDamper.2.1 88 = .ok (.iconst 1, 1) := by decide +kernel
theorem d_mo_moveDamper_89 : decode q_mo_moveDamper.2.1 89 = .ok (.goto 4, 3) := by decide +kernel
theorem d_mo_moveDamper_92 : decode q_mo_moveDamper.2.1 92 = .ok (.iconst 0, 1) := by decide +kernel
theorem d_mo_moveDamper_93 : decode q_mo_moveDamper.2.1 93 = .ok (.istore 5, 2) := by decide +kernel
theorem d_mo_moveDamper_95 : decode q_mo_moveDamper.2.1 95 = .ok (.aload_n 0, 1) := by decide +kernel
theorem d_mo_moveDamper_96 : decode q_mo_moveDamper.2.1 96 = .ok (.iload_n 1, 1) := by decide +kernel
theorem d_mo_moveDamper_97 : decode q_mo_moveDamper.2.1 97 = .ok (.iconst 4, 1) := by decide +kernel
theorem d_mo_moveDamper_98 : decode q_mo_moveDamper.2.1 98 = .ok (.aload_n 0, 1) := by decide +kernel
theorem d_mo_moveDamper_99 : decode q_mo_moveDamper.2.1 99 = .ok (.getfield 45, 3) := by decide +kernel
theorem d_mo_moveDamper_102 : decode q_mo_moveDamper.2.1 102 = .ok (.iload_n 1, 1) := by decide +kernel
theorem d_mo_moveDamper_103 : decode q_mo_moveDamper.2.1 103 = .ok (.iaload, 1) := by decide +kernel
theorem d_mo_moveDamper_104 : decode q_mo_moveDamper.2.1 104 = .ok (.invokevirtual 77, 3) := by decide +kernel
theorem d_mo_moveDamper_107 : decode q_mo_moveDamper.2.1 107 = .ok (.iload 5, 2) := by decide +kernel
theorem d_mo_moveDamper_109 : decode q_mo_moveDamper.2.1 109 = .ok (.ifCond .ne 9, 3) := by decide +kernel
theorem d_mo_moveDamper_112 : decode q_mo_moveDamper.2.1 112 = .ok (.iload 4, 2) := by decide +kernel
theorem d_mo_moveDamper_114 : decode q_mo_moveDamper.2.1 114 = .ok (.iload_n 3, 1) := by decide +kernel
theorem d_mo_moveDamper_115 : decode q_mo_moveDamper.2.1 115 = .ok (.if_icmp .ne 11, 3) := by decide +kernel
theorem d_mo_moveDamper_118 : decode q_mo_moveDamper.2.1 118 = .ok (.aload_n 0, 1) := by decide +kernel
theorem d_mo_moveDamper_119 : decode q_mo_moveDamper.2.1 119 = .ok (.iload_n 1, 1) := by decide +kernel
theorem d_mo_moveDamper_120 : decode q_mo_moveDamper.2.1 120 = .ok (.iconst 5, 1) := by decide +kernel
theorem d_mo_moveDamper_121 : decode q_mo_moveDamper.2.1 121 = .ok (.iconst 0, 1) := by decide +kernel
theorem d_mo_moveDamper_122 : decode q_mo_moveDamper.2.1 122 = .ok (.invokevirtual 77, 3) := by decide +kernel
theorem d_mo_moveDamper_125 : decode q_mo_moveDamper.2.1 125 = .ok (.return_, 1) := by decide +kernel
theorem d_mo_moveDamper_126 : decode q_mo_moveDamper.2.1 126 = .ok (.aload_n 0, 1) := by decide +kernel
theorem d_mo_moveDamper_127 : decode q_mo_moveDamper.2.1 127 = .ok (.iload_n 1, 1) := by decide +kernel
theorem d_mo_moveDamper_128 : decode q_mo_moveDamper.2.1 128 = .ok (.iconst 5, 1) := by decide +kernel
theorem d_mo_moveDamper_129 : decode q_mo_moveDamper.2.1 129 = .ok (.aload_n 0, 1) := by decide +kernel
theorem d_mo_moveDamper_130 : decode q_mo_moveDamper.2.1 130 = .ok (.iload_n 1, 1) := by decide +kernel
theorem d_mo_moveDamper_131 : decode q_mo_moveDamper.2.1 131 = .ok (.iconst 5, 1) := by decide +kernel
theorem d_mo_moveDamper_132 : decode q_mo_moveDamper.2.1 132 = .ok (.invokevirtual 308, 3) := by decide +kernel
theorem d_mo_moveDamper_135 : decode q_mo_moveDamper.2.1 135 = .ok (.iconst 1, 1) := by decide +kernel
theorem d_mo_moveDamper_136 : decode q_mo_moveDamper.2.1 136 = .ok (.iadd, 1) := by decide +kernel
theorem d_mo_moveDamper_137 : decode q_mo_moveDamper.2.1 137 = .ok (.invokevirtual 77, 3) := by decide +kernel
theorem d_mo_moveDamper_140 : decode q_mo_moveDamper.2.1 140 = .ok (.aload_n 0, 1) := by decide +kernel
theorem d_mo_moveDamper_141 : decode q_mo_moveDamper.2.1 141 = .ok (.iload_n 1, 1) := by decide +kernel
theorem d_mo_moveDamper_142 : decode q_mo_moveDamper.2.1 142 = .ok (.iconst 5, 1) := by decide +kernel
theorem d_mo_moveDamper_143 : decode q_mo_moveDamper.2.1 143 = .ok (.invokevirtual 308, 3) := by decide +kernel
theorem d_mo_moveDamper_146 : decode q_mo_moveDamper.2.1 146 = .ok (.iload_n 2, 1) := by decide +kernel
theorem d_mo_moveDamper_147 : decode q_mo_moveDamper.2.1 147 = .ok (.aload_n 0, 1) := by decide +kernel
theorem d_mo_moveDamper_148 : decode q_mo_moveDamper.2.1 148 = .ok (.getfield 7, 3) := by decide +kernel
theorem d_mo_moveDamper_151 : decode q_mo_moveDamper.2.1 151 = .ok (.bipush 6, 2) := by decide +kernel
theorem d_mo_moveDamper_153 : decode q_mo_moveDamper.2.1 153 = .ok (.iaload, 1) := by decide +kernel
theorem d_mo_moveDamper_154 : decode q_mo_moveDamper.2.1 154 = .ok (.iadd, 1) := by decide +kernel
theorem d_mo_moveDamper_155 : decode q_mo_moveDamper.2.1 155 = .ok (.if_icmp .ne 27, 3) := by decide +kernel
theorem d_mo_moveDamper_158 : decode q_mo_moveDamper.2.1 158 = .ok (.aload_n 0, 1) := by decide +kernel
theorem d_mo_moveDamper_159 : decode q_mo_moveDamper.2.1 159 = .ok (.iload_n 1, 1) := by decide +kernel
theorem d_mo_moveDamper_160 : decode q_mo_moveDamper.2.1 160 = .ok (.bipush 6, 2) := by decide +kernel
theorem d_mo_moveDamper_162 : decode q_mo_moveDamper.2.1 162 = .ok (.invokevirtual 308, 3) := by decide +kernel
theorem d_mo_moveDamper_165 : decode q_mo_moveDamper.2.1 165 = .ok (.ifCond .ne 17, 3) := by decide +kernel
theorem d_mo_moveDamper_168 : decode q_mo_moveDamper.2.1 168 = .ok (.aload_n 0, 1) := by decide +kernel
theorem d_mo_moveDamper_169 : decode q_mo_moveDamper.2.1 169 = .ok (.iload_n 1, 1) := by decide +kernel
theorem d_mo_moveDamper_170 : decode q_mo_moveDamper.2.1 170 = .ok (.bipush 6, 2) := by decide +kernel
theorem d_mo_moveDamper_172 : decode q_mo_moveDamper.2.1 172 = .ok (.iconst 1, 1) := by decide +kernel
theorem d_mo_moveDamper_173 : decode q_mo_moveDamper.2.1 173 = .ok (.invokevirtual 77, 3) := by decide +kernel
theorem d_mo_moveDamper_176 : decode q_mo_moveDamper.2.1 176 = .ok (.aload_n 0, 1) := by decide +kernel
theorem d_mo_moveDamper_177 : decode q_mo_moveDamper.2.1 177 = .ok (.iconst 1, 1) := by decide +kernel
theorem d_mo_moveDamper_178 : decode q_mo_moveDamper.2.1 178 = .ok (.iload_n 1, 1) := by decide +kernel
theorem d_mo_moveDamper_179 : decode q_mo_moveDamper.2.1 179 = .ok (.invokevirtual 364, 3) := by decide +kernel
theorem d_mo_moveDamper_182 : decode q_mo_moveDamper.2.1 182 = .ok (.return_, 1) := by decide +kernel
theorem w_mo_moveDamper_L118 (l : Launch) (lo hi d : Nat) {h' : sm_H} (a0 : Nat) (a1 : Int32) (h : sm_H) (e0 : sm_at lo hi (0, 10, 0) a0) (hf : f_mo_moveDamper_L118 a0 a1 h = some h') : sm_W l lo hi (d + 1) q_mo_moveDamper 118 [(0, .ref a0), (1, .int a1)] [] h none h' := by
  unfold f_mo_moveDamper_L118 at hf
  refine sm_aload_n 0 rfl d_mo_moveDamper_118 ?_
  refine sm_iload_n 1 rfl d_mo_moveDamper_119 ?_
  refine sm_iconst (v := 5) (by decide) d_mo_moveDamper_120 ?_
  refine sm_iconst (v := 0) (by decide) d_mo_moveDamper_121 ?_
  obtain ⟨g45, c46, hf⟩ := sm_bindE hf
  refine sm_callV (As := [.int a1, .int 5, .int 0]) (rv := none) (h1 := g45) (c := 10) cvv_mo_77 rfl rfl e0 (m_mo_put l lo hi _ e0 c46) rfl rfl d_mo_moveDamper_122 ?_
  obtain rfl := sm_ret1 hf
  exact sm_vret d_mo_moveDamper_125 rfl
theorem w_mo_moveDamper_L93 (l : Launch) (lo hi d : Nat) {h' : sm_H} (a0 : Nat) (a1 : Int32) (a2 : Int32) (a3 : Int32) (a4 : Int32) (s0 : Int32) (h : sm_H) (e0 : sm_at lo hi (0, 10, 0) a0) (hf : f_mo_moveDamper_L93 a0 a1 a2 a3 a4 s0 h = some h') : sm_W l lo hi (d + 1) q_mo_moveDamper 93 [(0, .ref a0), (1, .int a1), (2, .int a2), (3, .int a3), (4, .int a4)] [.int s0] h none h' := by
  unfold f_mo_moveDamper_L93 at hf
  refine sm_istore (lv' := [(5, .int s0), (0, .ref a0), (1, .int a1), (2, .int a2), (3, .int a3), (4, .int a4)]) d_mo_moveDamper_93 rfl rfl ?_
  refine sm_aload_n 1 rfl d_mo_moveDamper_95 ?_
  refine sm_iload_n 2 rfl d_mo_moveDamper_96 ?_
  refine sm_iconst (v := 4) (by decide) d_mo_moveDamper_97 ?_
  refine sm_aload_n 1 rfl d_mo_moveDamper_98 ?_
  refine sm_getR (n := 11) fl_mo_45 e0 rfl d_mo_moveDamper_99 ?_
  refine sm_iload_n 2 rfl d_mo_moveDamper_102 ?_
  obtain ⟨c22, hf⟩ := sm_gdE hf
  refine sm_iald (sm_at_arr (sm_inner e0 27 rfl rfl rfl)) c22 d_mo_moveDamper_103 ?_
  obtain ⟨g23, c24, hf⟩ := sm_bindE hf
  refine sm_callV (As := [.int a1, .int 4, .int (h (a0 + 11) (a1 : Int32).toNatClampNeg)]) (rv := none) (h1 := g23) (c := 10) cvv_mo_77 rfl rfl e0 (m_mo_put l lo hi _ e0 c24) rfl rfl d_mo_moveDamper_104 ?_
  refine sm_iload 0 rfl d_mo_moveDamper_107 ?_
  refine sm_if_ne 118 d_mo_moveDamper_109 rfl (fun c25 => ?_) (fun c25 => ?_)
  · have hf := sm_ifF c25 hf
    refine sm_sub [1, 2] rfl ?_
    exact w_mo_moveDamper_L118 l lo hi d _ _ _ e0 hf
  · have hf := sm_ifT c25 hf
    refine sm_iload 5 rfl d_mo_moveDamper_112 ?_
    refine sm_iload_n 4 rfl d_mo_moveDamper_114 ?_
    refine sm_icmp_ne 126 d_mo_moveDamper_115 rfl (fun c26 => ?_) (fun c26 => ?_)
    · have hf := sm_ifF c26 hf
      refine sm_aload_n 1 rfl d_mo_moveDamper_126 ?_
      refine sm_iload_n 2 rfl d_mo_moveDamper_127 ?_
      refine sm_iconst (v := 5) (by decide) d_mo_moveDamper_128 ?_
      refine sm_aload_n 1 rfl d_mo_moveDamper_129 ?_
      refine sm_iload_n 2 rfl d_mo_moveDamper_130 ?_
      refine sm_iconst (v := 5) (by decide) d_mo_moveDamper_131 ?_
      obtain ⟨r27, g28, c29, hf⟩ := sm_b2E hf
      refine sm_callV (As := [.int a1, .int 5]) (rv := some (.int r27)) (h1 := g28) (c := 10) cvv_mo_308 rfl rfl e0 (m_mo_damperIs l lo hi _ e0 c29) rfl rfl d_mo_moveDamper_132 ?_
      refine sm_iconst (v := 1) (by decide) d_mo_moveDamper_135 ?_
      refine sm_iadd d_mo_moveDamper_136 ?_
      obtain ⟨g30, c31, hf⟩ := sm_bindE hf
      refine sm_callV (As := [.int a1, .int 5, .int (r27 + 1)]) (rv := none) (h1 := g30) (c := 10) cvv_mo_77 rfl rfl e0 (m_mo_put l lo hi _ e0 c31) rfl rfl d_mo_moveDamper_137 ?_
      refine sm_aload_n 1 rfl d_mo_moveDamper_140 ?_
      refine sm_iload_n 2 rfl d_mo_moveDamper_141 ?_
      refine sm_iconst (v := 5) (by decide) d_mo_moveDamper_142 ?_
      obtain ⟨r32, g33, c34, hf⟩ := sm_b2E hf
      refine sm_callV (As := [.int a1, .int 5]) (rv := some (.int r32)) (h1 := g33) (c := 10) cvv_mo_308 rfl rfl e0 (m_mo_damperIs l lo hi _ e0 c34) rfl rfl d_mo_moveDamper_143 ?_
      refine sm_iload_n 3 rfl d_mo_moveDamper_146 ?_
      refine sm_aload_n 1 rfl d_mo_moveDamper_147 ?_
      refine sm_getR (n := 1) fl_mo_7 e0 rfl d_mo_moveDamper_148 ?_
      refine sm_bipush (v := 6) (by decide) d_mo_moveDamper_151 ?_
      obtain ⟨c35, hf⟩ := sm_gdE hf
      refine sm_iald (sm_at_arr (sm_inner e0 0 rfl rfl rfl)) c35 d_mo_moveDamper_153 ?_
      refine sm_iadd d_mo_moveDamper_154 ?_
      refine sm_icmp_ne 182 d_mo_moveDamper_155 rfl (fun c36 => ?_) (fun c36 => ?_)
      · have hf := sm_ifF c36 hf
        obtain rfl := sm_ret1 hf
        exact sm_vret d_mo_moveDamper_182 rfl
      · have hf := sm_ifT c36 hf
        refine sm_aload_n 1 rfl d_mo_moveDamper_158 ?_
        refine sm_iload_n 2 rfl d_mo_moveDamper_159 ?_
        refine sm_bipush (v := 6) (by decide) d_mo_moveDamper_160 ?_
        obtain ⟨r37, g38, c39, hf⟩ := sm_b2E hf
        refine sm_callV (As := [.int a1, .int 6]) (rv := some (.int r37)) (h1 := g38) (c := 10) cvv_mo_308 rfl rfl e0 (m_mo_damperIs l lo hi _ e0 c39) rfl rfl d_mo_moveDamper_162 ?_
        refine sm_if_ne 182 d_mo_moveDamper_165 rfl (fun c40 => ?_) (fun c40 => ?_)
        · have hf := sm_ifF c40 hf
          obtain rfl := sm_ret1 hf
          exact sm_vret d_mo_moveDamper_182 rfl
        · have hf := sm_ifT c40 hf
          refine sm_aload_n 1 rfl d_mo_moveDamper_168 ?_
          refine sm_iload_n 2 rfl d_mo_moveDamper_169 ?_
          refine sm_bipush (v := 6) (by decide) d_mo_moveDamper_170 ?_
          refine sm_iconst (v := 1) (by decide) d_mo_moveDamper_172 ?_
          obtain ⟨g41, c42, hf⟩ := sm_bindE hf
          refine sm_callV (As := [.int a1, .int 6, .int 1]) (rv := none) (h1 := g41) (c := 10) cvv_mo_77 rfl rfl e0 (m_mo_put l lo hi _ e0 c42) rfl rfl d_mo_moveDamper_173 ?_
          refine sm_aload_n 1 rfl d_mo_moveDamper_176 ?_
          refine sm_iconst (v := 1) (by decide) d_mo_moveDamper_177 ?_
          refine sm_iload_n 2 rfl d_mo_moveDamper_178 ?_
          obtain ⟨g43, c44, hf⟩ := sm_bindE hf
          refine sm_callV (As := [.int 1, .int a1]) (rv := none) (h1 := g43) (c := 10) cvv_mo_364 rfl rfl e0 (m_mo_record l lo hi _ e0 c44) rfl rfl d_mo_moveDamper_179 ?_
          obtain rfl := sm_ret1 hf
          exact sm_vret d_mo_moveDamper_182 rfl
    · have hf := sm_ifT c26 hf
      refine sm_sub [1, 2] rfl ?_
      exact w_mo_moveDamper_L118 l lo hi d _ _ _ e0 hf
theorem w_mo_moveDamper_L73 (l : Launch) (lo hi d : Nat) {h' : sm_H} (a0 : Nat) (a1 : Int32) (a2 : Int32) (a3 : Int32) (a4 : Int32) (h : sm_H) (e0 : sm_at lo hi (0, 10, 0) a0) (hf : f_mo_moveDamper_L73 a0 a1 a2 a3 a4 h = some h') : sm_W l lo hi (d + 1) q_mo_moveDamper 73 [(0, .ref a0), (1, .int a1), (2, .int a2), (3, .int a3), (4, .int a4)] [] h none h' := by
  unfold f_mo_moveDamper_L73 at hf
  refine sm_aload_n 0 rfl d_mo_moveDamper_73 ?_
  refine sm_iload_n 1 rfl d_mo_moveDamper_74 ?_
  refine sm_iconst (v := 4) (by decide) d_mo_moveDamper_75 ?_
  obtain ⟨r17, g18, c19, hf⟩ := sm_b2E hf
  refine sm_callV (As := [.int a1, .int 4]) (rv := some (.int r17)) (h1 := g18) (c := 10) cvv_mo_308 rfl rfl e0 (m_mo_damperIs l lo hi _ e0 c19) rfl rfl d_mo_moveDamper_76 ?_
  refine sm_aload_n 0 rfl d_mo_moveDamper_79 ?_
  refine sm_getR (n := 11) fl_mo_45 e0 rfl d_mo_moveDamper_80 ?_
  refine sm_iload_n 1 rfl d_mo_moveDamper_83 ?_
  obtain ⟨c20, hf⟩ := sm_gdE hf
  refine sm_iald (sm_at_arr (sm_inner e0 27 rfl rfl rfl)) c20 d_mo_moveDamper_84 ?_
  refine sm_icmp_eq 92 d_mo_moveDamper_85 rfl (fun c21 => ?_) (fun c21 => ?_)
  · have hf := sm_ifT c21 hf
    refine sm_iconst (v := 0) (by decide) d_mo_moveDamper_92 ?_
    exact w_mo_moveDamper_L93 l lo hi d _ _ _ _ _ _ _ e0 hf
  · have hf := sm_ifF c21 hf
    refine sm_iconst (v := 1) (by decide) d_mo_moveDamper_88 ?_
    refine sm_goto 93 d_mo_moveDamper_89 rfl ?_
    exact w_mo_moveDamper_L93 l lo hi d _ _ _ _ _ _ _ e0 hf
theorem w_mo_moveDamper_L63 (l : Launch) (lo hi d : Nat) {h' : sm_H} (a0 : Nat) (a1 : Int32) (a2 : Int32) (a3 : Int32) (s0 : Int32) (h : sm_H) (e0 : sm_at lo hi (0, 10, 0) a0) (hf : f_mo_moveDamper_L63 a0 a1 a2 a3 s0 h = some h') : sm_W l lo hi (d + 1) q_mo_moveDamper 63 [(0, .ref a0), (1, .int a1), (2, .int a2), (3, .int a3)] [.int s0] h none h' := by
  unfold f_mo_moveDamper_L63 at hf
  refine sm_istore (lv' := [(4, .int s0), (0, .ref a0), (1, .int a1), (2, .int a2), (3, .int a3)]) d_mo_moveDamper_63 rfl rfl ?_
  refine sm_aload_n 1 rfl d_mo_moveDamper_65 ?_
  refine sm_iload_n 2 rfl d_mo_moveDamper_66 ?_
  refine sm_iconst (v := 0) (by decide) d_mo_moveDamper_67 ?_
  refine sm_iload 0 rfl d_mo_moveDamper_68 ?_
  obtain ⟨g15, c16, hf⟩ := sm_bindE hf
  refine sm_callV (As := [.int a1, .int 0, .int s0]) (rv := none) (h1 := g15) (c := 10) cvv_mo_77 rfl rfl e0 (m_mo_put l lo hi _ e0 c16) rfl rfl d_mo_moveDamper_70 ?_
  refine sm_sub [1, 2, 3, 4, 0] rfl ?_
  exact w_mo_moveDamper_L73 l lo hi d _ _ _ _ _ _ e0 hf
theorem w_mo_moveDamper_L22 (l : Launch) (lo hi d : Nat) {h' : sm_H} (a0 : Nat) (a1 : Int32) (a2 : Int32) (s0 : Int32) (h : sm_H) (e0 : sm_at lo hi (0, 10, 0) a0) (hf : f_mo_moveDamper_L22 a0 a1 a2 s0 h = some h') : sm_W l lo hi (d + 1) q_mo_moveDamper 22 [(0, .ref a0), (1, .int a1), (2, .int a2)] [.int s0] h none h' := by
  unfold f_mo_moveDamper_L22 at hf
  refine sm_istore_n (lv' := [(3, .int s0), (0, .ref a0), (1, .int a1), (2, .int a2)]) d_mo_moveDamper_22 rfl rfl ?_
  refine sm_aload_n 1 rfl d_mo_moveDamper_23 ?_
  refine sm_iload_n 2 rfl d_mo_moveDamper_24 ?_
  refine sm_iconst (v := 0) (by decide) d_mo_moveDamper_25 ?_
  obtain ⟨r6, g7, c8, hf⟩ := sm_b2E hf
  refine sm_callV (As := [.int a1, .int 0]) (rv := some (.int r6)) (h1 := g7) (c := 10) cvv_mo_308 rfl rfl e0 (m_mo_damperIs l lo hi _ e0 c8) rfl rfl d_mo_moveDamper_26 ?_
  refine sm_istore (lv' := [(4, .int r6), (3, .int s0), (0, .ref a0), (1, .int a1), (2, .int a2)]) d_mo_moveDamper_29 rfl rfl ?_
  refine sm_aload_n 2 rfl d_mo_moveDamper_31 ?_
  refine sm_iload_n 3 rfl d_mo_moveDamper_32 ?_
  refine sm_iconst (v := 1) (by decide) d_mo_moveDamper_33 ?_
  obtain ⟨r9, g10, c11, hf⟩ := sm_b2E hf
  refine sm_callV (As := [.int a1, .int 1]) (rv := some (.int r9)) (h1 := g10) (c := 10) cvv_mo_308 rfl rfl e0 (m_mo_damperIs l lo hi _ e0 c11) rfl rfl d_mo_moveDamper_34 ?_
  refine sm_if_ne 73 d_mo_moveDamper_37 rfl (fun c12 => ?_) (fun c12 => ?_)
  · have hf := sm_ifF c12 hf
    refine sm_sub [2, 3, 4, 1, 0] rfl ?_
    exact w_mo_moveDamper_L73 l lo hi d _ _ _ _ _ _ e0 hf
  · have hf := sm_ifT c12 hf
    refine sm_iload 0 rfl d_mo_moveDamper_40 ?_
    refine sm_iload_n 1 rfl d_mo_moveDamper_42 ?_
    refine sm_icmp_eq 73 d_mo_moveDamper_43 rfl (fun c13 => ?_) (fun c13 => ?_)
    · have hf := sm_ifT c13 hf
      refine sm_sub [2, 3, 4, 1, 0] rfl ?_
      exact w_mo_moveDamper_L73 l lo hi d _ _ _ _ _ _ e0 hf
    · have hf := sm_ifF c13 hf
      refine sm_iload 0 rfl d_mo_moveDamper_46 ?_
      refine sm_iload_n 1 rfl d_mo_moveDamper_48 ?_
      refine sm_icmp_ge 59 d_mo_moveDamper_49 rfl (fun c14 => ?_) (fun c14 => ?_)
      · have hf := sm_ifT c14 hf
        refine sm_iload 0 rfl d_mo_moveDamper_59 ?_
        refine sm_iconst (v := 1) (by decide) d_mo_moveDamper_61 ?_
        refine sm_isub d_mo_moveDamper_62 ?_
        refine sm_sub [2, 3, 4, 1] rfl ?_
        exact w_mo_moveDamper_L63 l lo hi d _ _ _ _ _ _ e0 hf
      · have hf := sm_ifF c14 hf
        refine sm_iload 0 rfl d_mo_moveDamper_52 ?_
        refine sm_iconst (v := 1) (by decide) d_mo_moveDamper_54 ?_
        refine sm_iadd d_mo_moveDamper_55 ?_
        refine sm_goto 63 d_mo_moveDamper_56 rfl ?_
        refine sm_sub [2, 3, 4, 1] rfl ?_
        exact w_mo_moveDamper_L63 l lo hi d _ _ _ _ _ _ e0 hf
theorem m_mo_moveDamper (l : Launch) (lo hi d : Nat) {a0 : Nat} {a1 : Int32} {h h' : sm_H} (e0 : sm_at lo hi (0, 10, 0) a0) (hf : f_mo_moveDamper a0 a1 h = some h') : sm_Met l lo hi (d + 1) q_mo_moveDamper [.ref a0, .int a1] h none h' := by
  refine sm_Met.of (by decide +kernel) rfl ?_
  show sm_W l lo hi (d + 1) q_mo_moveDamper 0 [(0, .ref a0), (1, .int a1)] [] h none h'
  unfold f_mo_moveDamper at hf
  refine sm_aload_n 0 rfl d_mo_moveDamper_0 ?_
  refine sm_iload_n 1 rfl d_mo_moveDamper_1 ?_
  refine sm_iconst (v := 2) (by decide) d_mo_moveDamper_2 ?_
  obtain ⟨r1, g2, c3, hf⟩ := sm_b2E hf
  refine sm_callV (As := [.int a1, .int 2]) (rv := some (.int r1)) (h1 := g2) (c := 10) cvv_mo_73 rfl rfl e0 (m_mo_damperOf l lo hi _ e0 c3) rfl rfl d_mo_moveDamper_3 ?_
  refine sm_istore_n (lv' := [(2, .int r1), (0, .ref a0), (1, .int a1)]) d_mo_moveDamper_6 rfl rfl ?_
  refine sm_aload_n 1 rfl d_mo_moveDamper_7 ?_
  refine sm_getR (n := 11) fl_mo_45 e0 rfl d_mo_moveDamper_8 ?_
  refine sm_iload_n 2 rfl d_mo_moveDamper_11 ?_
  obtain ⟨c4, hf⟩ := sm_gdE hf
  refine sm_iald (sm_at_arr (sm_inner e0 27 rfl rfl rfl)) c4 d_mo_moveDamper_12 ?_
  refine sm_iconst (v := 1) (by decide) d_mo_moveDamper_13 ?_
  refine sm_icmp_ne 21 d_mo_moveDamper_14 rfl (fun c5 => ?_) (fun c5 => ?_)
  · have hf := sm_ifF c5 hf
    refine sm_iconst (v := 0) (by decide) d_mo_moveDamper_21 ?_
    refine sm_sub [1, 2, 0] rfl ?_
    exact w_mo_moveDamper_L22 l lo hi d _ _ _ _ _ e0 hf
  · have hf := sm_ifT c5 hf
    refine sm_iload_n 0 rfl d_mo_moveDamper_17 ?_
    refine sm_goto 22 d_mo_moveDamper_18 rfl ?_
    refine sm_sub [1, 2, 0] rfl ?_
    exact w_mo_moveDamper_L22 l lo hi d _ _ _ _ _ e0 hf
theorem d_mo_moveFan_0 : decode q_mo_moveFan.2.1 0 = .ok (.aload_n 0, 1) := by decide +kernel
theorem d_mo_moveFan_1 : decode q_mo_moveFan.2.1 1 = .ok (.iload_n 1, 1) := by decide +kernel
theorem d_mo_moveFan_2 : decode q_mo_moveFan.2.1 2 = .ok (.iconst 2, 1) := by decide +kernel
theorem d_mo_moveFan_3 : decode q_mo_moveFan.2.1 3 = .ok (.invokevirtual 320, 3) := by decide +kernel
theorem d_mo_moveFan_6 : decode q_mo_moveFan.2.1 6 = .ok (.istore_n 2, 1) := by decide +kernel
theorem d_mo_moveFan_7 : decode q_mo_moveFan.2.1 7 = .ok (.aload_n 0, 1) := by decide +kernel
theorem d_mo_moveFan_8 : decode q_mo_moveFan.2.1 8 = .ok (.iload_n 1, 1) := by decide +kernel
theorem d_mo_moveFan_9 : decode q_mo_moveFan.2.1 9 = .ok (.iconst 0, 1) := by decide +kernel
theorem d_mo_moveFan_10 : decode q_mo_moveFan.2.1 10 = .ok (.invokevirtual 311, 3) := by decide +kernel
theorem d_mo_moveFan_13 : decode q_mo_moveFan.2.1 13 = .ok (.istore_n 3, 1) := by decide +kernel
theorem d_mo_moveFan_14 : decode q_mo_moveFan.2.1 14 = .ok (.aload_n 0, 1) := by decide +kernel
theorem d_mo_moveFan_15 : decode q_mo_moveFan.2.1 15 = .ok (.getfield 51, 3) := by decide +kernel
theorem d_mo_moveFan_18 : decode q_mo_moveFan.2.1 18 = .ok (.iload_n 1, 1) := by decide +kernel
theorem d_mo_moveFan_19 : decode q_mo_moveFan.2.1 19 = .ok (.iaload, 1) := by decide +kernel
theorem d_mo_moveFan_20 : decode q_mo_moveFan.2.1 20 = .ok (.iconst 1, 1) := by decide +kernel
theorem d_mo_moveFan_21 : decode q_mo_moveFan.2.1 21 = .ok (.if_icmp .ne 15, 3) := by decide +kernel
theorem d_mo_moveFan_24 : decode q_mo_moveFan.2.1 24 = .ok (.aload_n 0, 1) := by decide +kernel
theorem d_mo_moveFan_25 : decode q_mo_moveFan.2.1 25 = .ok (.iload_n 1, 1) := by decide +kernel
theorem d_mo_moveFan_26 : decode q_mo_moveFan.2.1 26 = .ok (.invokevirtual 367, 3) := by decide +kernel
theorem d_mo_moveFan_29 : decode q_mo_moveFan.2.1 29 = .ok (.ifCond .eq 7, 3) := by decide +kernel
theorem d_mo_moveFan_32 : decode q_mo_moveFan.2.1 32 = .ok (.iconst 1, 1) := by decide +kernel
theorem d_mo_moveFan_33 : decode q_mo_moveFan.2.1 33 = .ok (.goto 4, 3) := by decide +kernel
theorem d_mo_moveFan_36 : decode q_mo_moveFan.2.1 36 = .ok (.iconst 0, 1) := by decide +kernel
theorem d_mo_moveFan_37 : decode q_mo_moveFan.2.1 37 = .ok (.istore 4, 2) := by decide +kernel
theorem d_mo_moveFan_39 : decode q_mo_moveFan.2.1 39 = .ok (.iload 4, 2) := by decide +kernel
theorem d_mo_moveFan_41 : decode q_mo_moveFan.2.1 41 = .ok (.ifCond .eq 22, 3) := by decide +kernel
theorem d_mo_moveFan_44 : decode q_mo_moveFan.2.1 44 = .ok (.aload_n 0, 1) := by decide +kernel
theorem d_mo_moveFan_45 : decode q_mo_moveFan.2.1 45 = .ok (.iload_n 1, 1) := by decide +kernel
theorem d_mo_moveFan_46 : decode q_mo_moveFan.2.1 46 = .ok (.iconst 1, 1) := by decide +kernel
theorem d_mo_moveFan_47 : decode q_mo_moveFan.2.1 47 = .ok (.invokevirtual 311, 3) := by decide +kernel
theorem d_mo_moveFan_50 : decode q_mo_moveFan.2.1 50 = .ok (.ifCond .ne 13, 3) := by decide +kernel
theorem d_mo_moveFan_53 : decode q_mo_moveFan.2.1 53 = .ok (.iload_n 2, 1) := by decide +kernel
theorem d_mo_moveFan_54 : decode q_mo_moveFan.2.1 54 = .ok (.iload_n 3, 1) := by decide +kernel
theorem d_mo_moveFan_55 : decode q_mo_moveFan.2.1 55 = .ok (.iconst 1, 1) := by decide +kernel
theorem d_mo_moveFan_56 : decode q_mo_moveFan.2.1 56 = .ok (.iadd, 1) := by decide +kernel
theorem d_mo_moveFan_57 : decode q_mo_moveFan.2.1 57 = .ok (.invokestatic 361, 3) := by decide +kernel
theorem d_mo_moveFan_60 : decode q_mo_moveFan.2.1 60 = .ok (.goto 10, 3) := by decide +kernel
theorem d_mo_moveFan_63 : decode q_mo_moveFan.2.1 63 = .ok (.iconst 0, 1) := by decide +kernel
theorem d_mo_moveFan_64 : decode q_mo_moveFan.2.1 64 = .ok (.iload_n 3, 1) := by decide +kernel
theorem d_mo_moveFan_65 : decode q_mo_moveFan.2.1 65 = .ok (.iconst 1, 1) := by decide +kernel
theorem d_mo_moveFan_66 : decode q_mo_moveFan.2.1 66 = .ok (.isub, 1) := by decide +kernel
theorem d_mo_moveFan_67 : decode q_mo_moveFan.2.1 67 = .ok (.invokestatic 370, 3) := by decide +kernel
theorem d_mo_moveFan_70 : decode q_mo_moveFan.2.1 70 = .ok (.istore 5, 2) := by decide +kernel
theorem d_mo_moveFan_72 : decode q_mo_moveFan.2.1 72 = .ok (.aload_n 0, 1) := by decide +kernel
theorem d_mo_moveFan_73 : decode q_mo_moveFan.2.1 73 = .ok (.iload_n 1, 1) := by decide +kernel
theorem d_mo_moveFan_74 : decode q_mo_moveFan.2.1 74 = .ok (.iconst 0, 1) := by decide +kernel
theorem d_mo_moveFan_75 : decode q_mo_moveFan.2.1 75 = .ok (.iload 5, 2) := by decide +kernel
theorem d_mo_moveFan_77 : decode q_mo_moveFan.2.1 77 = .ok (.invokevirtual 373, 3) := by decide +kernel
theorem d_mo_moveFan_80 : decode q_mo_moveFan.2.1 80 = .ok (.iload 5, 2) := by decide +kernel
theorem d_mo_moveFan_82 : decode q_mo_moveFan.2.1 82 = .ok (.iload_n 3, 1) := by decide +kernel
theorem d_mo_moveFan_83 : decode q_mo_moveFan.2.1 83 = .ok (.if_icmp .eq 15, 3) := by decide +kernel
theorem d_mo_moveFan_86 : decode q_mo_moveFan.2.1 86 = .ok (.iload 5, 2) := by decide +kernel
theorem d_mo_moveFan_88 : decode q_mo_moveFan.2.1 88 = .ok (.iload_n 2, 1) := by decide +kernel
theorem d_mo_moveFan_89 : decode q_mo_moveFan.2.1 89 = .ok (.if_icmp .ne 9, 3) := by decide +kernel
theorem d_mo_moveFan_92 : decode q_mo_moveFan.2.1 92 = .ok (.aload_n 0, 1) := by decide +kernel
theorem d_mo_moveFan_93 : decode q_mo_moveFan.2.1 93 = .ok (.iconst 4, 1) := by decide +kernel
theorem d_mo_moveFan_94 : decode q_mo_moveFan.2.1 94 = .ok (.iload_n 1, 1) := by decide +kernel
theorem d_mo_moveFan_95 : decode q_mo_moveFan.2.1 95 = .ok (.invokevirtual 364, 3) := by decide +kernel
theorem d_mo_moveFan_98 : decode q_mo_moveFan.2.1 98 = .ok (.iload 5, 2) := by decide +kernel
theorem d_mo_moveFan_100 : decode q_mo_moveFan.2.1 100 = .ok (.iload_n 3, 1) := by decide +kernel
theorem d_mo_moveFan_101 : decode q_mo_moveFan.2.1 101 = .ok (.if_icmp .eq 14, 3) := by decide +kernel
theorem d_mo_moveFan_104 : decode q_mo_moveFan.2.1 104 = .ok (.iload 5, 2) := by decide +kernel
theorem d_mo_moveFan_106 : decode q_mo_moveFan.2.1 106 = .ok (.ifCond .ne 9, 3) := by decide +kernel
theorem d_mo_moveFan_109 : decode q_mo_moveFan.2.1 109 = .ok (.aload_n 0, 1) := by decide +kernel
theorem d_mo_moveFan_110 : decode q_mo_moveFan.2.1 110 = .ok (.iconst 5, 1) := by decide +kernel
theorem d_mo_moveFan_111 : decode q_mo_moveFan.2.1 111 = .ok (.iload_n 1, 1) := by decide +kernel
theorem d_mo_moveFan_112 : decode q_mo_moveFan.2.1 112 = .ok (.invokevirtual 364, 3) := by decide +kernel
theorem d_mo_moveFan_115 : decode q_mo_moveFan.2.1 115 = .ok (.iload 4, 2) := by decide +kernel
theorem d_mo_moveFan_117 : decode q_mo_moveFan.2.1 117 = .ok (.ifCond .eq 9, 3) := by decide +kernel
theorem d_mo_moveFan_120 : decode q_mo_moveFan.2.1 120 = .ok (.iload 5, 2) := by decide +kernel
theorem d_mo_moveFan_122 : decode q_mo_moveFan.2.1 122 = .ok (.iload_n 2, 1) := by decide +kernel
theorem d_mo_moveFan_123 : decode q_mo_moveFan.2.1 123 = .ok (.if_icmp .ne 11, 3) := by decide +kernel
theorem d_mo_moveFan_126 : decode q_mo_moveFan.2.1 126 = .ok (.aload_n 0, 1) := by decide +kernel
theorem d_mo_moveFan_127 : decode q_mo_moveFan.2.1 127 = .ok (.iload_n 1, 1) := by decide +kernel
theorem d_mo_moveFan_128 : decode q_mo_moveFan.2.1 128 = .ok (.iconst 4, 1) := by decide +kernel
theorem d_mo_moveFan_129 : decode q_mo_moveFan.2.1 129 = .ok (.iconst 0, 1) := by decide +kernel
theorem d_mo_moveFan_130 : decode q_mo_moveFan.2.1 130 = .ok (.invokevirtual 373, 3) := by decide +kernel
theorem d_mo_moveFan_133 : decode q_mo_moveFan.2.1 133 = .ok (.return_, 1) := by decide +kernel
theorem d_mo_moveFan_134 : decode q_mo_moveFan.2.1 134 = .ok (.aload_n 0, 1) := by decide +kernel
theorem d_mo_moveFan_135 : decode q_mo_moveFan.2.1 135 = .ok (.iload_n 1, 1) := by decide +kernel
theorem d_mo_moveFan_136 : decode q_mo_moveFan.2.1 136 = .ok (.iconst 4, 1) := by decide +kernel
theorem d_mo_moveFan_137 : decode q_mo_moveFan.2.1 137 = .ok (.aload_n 0, 1) := by decide +kernel
theorem d_mo_moveFan_138 : decode q_mo_moveFan.2.1 138 = .ok (.iload_n 1, 1) := by decide +kernel
theorem d_mo_moveFan_139 : decode q_mo_moveFan.2.1 139 = .ok (.iconst 4, 1) := by decide +kernel
theorem d_mo_moveFan_140 : decode q_mo_moveFan.2.1 140 = .ok (.invokevirtual 311, 3) := by decide +kernel
theorem d_mo_moveFan_143 : decode q_mo_moveFan.2.1 143 = .ok (.iconst 1, 1) := by decide +kernel
theorem d_mo_moveFan_144 : decode q_mo_moveFan.2.1 144 = .ok (.iadd, 1) := by decide +kernel
theorem d_mo_moveFan_145 : decode q_mo_moveFan.2.1 145 = .ok (.invokevirtual 373, 3) := by decide +kernel
theorem d_mo_moveFan_148 : decode q_mo_moveFan.2.1 148 = .ok (.aload_n 0, 1) := by decide +kernel
theorem d_mo_moveFan_149 : decode q_mo_moveFan.2.1 149 = .ok (.iload_n 1, 1) := by decide +kernel
theorem d_mo_moveFan_150 : decode q_mo_moveFan.2.1 150 = .ok (.iconst 4, 1) := by decide +kernel
theorem d_mo_moveFan_151 : decode q_mo_moveFan.2.1 151 = .ok (.invokevirtual 311, 3) := by decide +kernel
theorem d_mo_moveFan_154 : decode q_mo_moveFan.2.1 154 = .ok (.iload_n 2, 1) := by decide +kernel
theorem d_mo_moveFan_155 : decode q_mo_moveFan.2.1 155 = .ok (.aload_n 0, 1) := by decide +kernel
theorem d_mo_moveFan_156 : decode q_mo_moveFan.2.1 156 = .ok (.getfield 7, 3) := by decide +kernel
theorem d_mo_moveFan_159 : decode q_mo_moveFan.2.1 159 = .ok (.bipush 6, 2) := by decide +kernel
theorem d_mo_moveFan_161 : decode q_mo_moveFan.2.1 161 = .ok (.iaload, 1) := by decide +kernel
theorem d_mo_moveFan_162 : decode q_mo_moveFan.2.1 162 = .ok (.iadd, 1) := by decide +kernel
theorem d_mo_moveFan_163 : decode q_mo_moveFan.2.1 163 = .ok (.if_icmp .ne 25, 3) := by decide +kernel
theorem d_mo_moveFan_166 : decode q_mo_moveFan.2.1 166 = .ok (.aload_n 0, 1) := by decide +kernel
theorem d_mo_moveFan_167 : decode q_mo_moveFan.2.1 167 = .ok (.iload_n 1, 1) := by decide +kernel
theorem d_mo_moveFan_168 : decode q_mo_moveFan.2.1 168 = .ok (.iconst 5, 1) := by decide +kernel
theorem d_mo_moveFan_169 : decode q_mo_moveFan.2.1 169 = .ok (.invokevirtual 311, 3) := by decide +kernel
theorem d_mo_moveFan_172 : decode q_mo_moveFan.2.1 172 = .ok (.ifCond .ne 16, 3) := by decide +kernel
theorem d_mo_moveFan_175 : decode q_mo_moveFan.2.1 175 = .ok (.aload_n 0, 1) := by decide +kernel
theorem d_mo_moveFan_176 : decode q_mo_moveFan.2.1 176 = .ok (.iload_n 1, 1) := by decide +kernel
theorem d_mo_moveFan_177 : decode q_mo_moveFan.2.1 177 = .ok (.iconst 5, 1) := by decide +kernel
theorem d_mo_moveFan_178 : decode q_mo_moveFan.2.1 178 = .ok (.iconst 1, 1) := by decide +kernel
theorem d_mo_moveFan_179 : decode q_mo_moveFan.2.1 179 = .ok (.invokevirtual 373, 3) := by decide +kernel
theorem d_mo_moveFan_182 : decode q_mo_moveFan.2.1 182 = .ok (.aload_n 0, 1) := by decide +kernel
theorem d_mo_moveFan_183 : decode q_mo_moveFan.2.1 183 = .ok (.iconst 2, 1) := by decide +kernel
theorem d_mo_moveFan_184 : decode q_mo_moveFan.2.1 184 = .ok (.iload_n 1, 1) := by decide +kernel
theorem d_mo_moveFan_185 : decode q_mo_moveFan.2.1 185 = .ok (.invokevirtual 364, 3) := by decide +kernel
theorem d_mo_moveFan_188 : decode q_mo_moveFan.2.1 188 = .ok (.return_, 1) := by decide +kernel
theorem w_mo_moveFan_L126 (l : Launch) (lo hi d : Nat) {h' : sm_H} (a0 : Nat) (a1 : Int32) (h : sm_H) (e0 : sm_at lo hi (0, 10, 0) a0) (hf : f_mo_moveFan_L126 a0 a1 h = some h') : sm_W l lo hi (d + 4) q_mo_moveFan 126 [(0, .ref a0), (1, .int a1)] [] h none h' := by
  unfold f_mo_moveFan_L126 at hf
  refine sm_aload_n 0 rfl d_mo_moveFan_126 ?_
  refine sm_iload_n 1 rfl d_mo_moveFan_127 ?_
  refine sm_iconst (v := 4) (by decide) d_mo_moveFan_128 ?_
  refine sm_iconst (v := 0) (by decide) d_mo_moveFan_129 ?_
  obtain ⟨g54, c55, hf⟩ := sm_bindE hf
  refine sm_callV (As := [.int a1, .int 4, .int 0]) (rv := none) (h1 := g54) (c := 10) cvv_mo_373 rfl rfl e0 (m_mo_putFan l lo hi _ e0 c55) rfl rfl d_mo_moveFan_130 ?_
  obtain rfl := sm_ret1 hf
  exact sm_vret d_mo_moveFan_133 rfl
theorem w_mo_moveFan_L115 (l : Launch) (lo hi d : Nat) {h' : sm_H} (a0 : Nat) (a1 : Int32) (a2 : Int32) (a4 : Int32) (a5 : Int32) (h : sm_H) (e0 : sm_at lo hi (0, 10, 0) a0) (hf : f_mo_moveFan_L115 a0 a1 a2 a4 a5 h = some h') : sm_W l lo hi (d + 4) q_mo_moveFan 115 [(0, .ref a0), (1, .int a1), (2, .int a2), (4, .int a4), (5, .int a5)] [] h none h' := by
  unfold f_mo_moveFan_L115 at hf
  refine sm_iload 3 rfl d_mo_moveFan_115 ?_
  refine sm_if_eq 126 d_mo_moveFan_117 rfl (fun c34 => ?_) (fun c34 => ?_)
  · have hf := sm_ifT c34 hf
    refine sm_sub [0, 1] rfl ?_
    exact w_mo_moveFan_L126 l lo hi d _ _ _ e0 hf
  · have hf := sm_ifF c34 hf
    refine sm_iload 4 rfl d_mo_moveFan_120 ?_
    refine sm_iload_n 2 rfl d_mo_moveFan_122 ?_
    refine sm_icmp_ne 134 d_mo_moveFan_123 rfl (fun c35 => ?_) (fun c35 => ?_)
    · have hf := sm_ifF c35 hf
      refine sm_aload_n 0 rfl d_mo_moveFan_134 ?_
      refine sm_iload_n 1 rfl d_mo_moveFan_135 ?_
      refine sm_iconst (v := 4) (by decide) d_mo_moveFan_136 ?_
      refine sm_aload_n 0 rfl d_mo_moveFan_137 ?_
      refine sm_iload_n 1 rfl d_mo_moveFan_138 ?_
      refine sm_iconst (v := 4) (by decide) d_mo_moveFan_139 ?_
      obtain ⟨r36, g37, c38, hf⟩ := sm_b2E hf
      refine sm_callV (As := [.int a1, .int 4]) (rv := some (.int r36)) (h1 := g37) (c := 10) cvv_mo_311 rfl rfl e0 (m_mo_fanIs l lo hi _ e0 c38) rfl rfl d_mo_moveFan_140 ?_
      refine sm_iconst (v := 1) (by decide) d_mo_moveFan_143 ?_
      refine sm_iadd d_mo_moveFan_144 ?_
      obtain ⟨g39, c40, hf⟩ := sm_bindE hf
      refine sm_callV (As := [.int a1, .int 4, .int (r36 + 1)]) (rv := none) (h1 := g39) (c := 10) cvv_mo_373 rfl rfl e0 (m_mo_putFan l lo hi _ e0 c40) rfl rfl d_mo_moveFan_145 ?_
      refine sm_aload_n 0 rfl d_mo_moveFan_148 ?_
      refine sm_iload_n 1 rfl d_mo_moveFan_149 ?_
      refine sm_iconst (v := 4) (by decide) d_mo_moveFan_150 ?_
      obtain ⟨r41, g42, c43, hf⟩ := sm_b2E hf
      refine sm_callV (As := [.int a1, .int 4]) (rv := some (.int r41)) (h1 := g42) (c := 10) cvv_mo_311 rfl rfl e0 (m_mo_fanIs l lo hi _ e0 c43) rfl rfl d_mo_moveFan_151 ?_
      refine sm_iload_n 2 rfl d_mo_moveFan_154 ?_
      refine sm_aload_n 0 rfl d_mo_moveFan_155 ?_
      refine sm_getR (n := 1) fl_mo_7 e0 rfl d_mo_moveFan_156 ?_
      refine sm_bipush (v := 6) (by decide) d_mo_moveFan_159 ?_
      obtain ⟨c44, hf⟩ := sm_gdE hf
      refine sm_iald (sm_at_arr (sm_inner e0 0 rfl rfl rfl)) c44 d_mo_moveFan_161 ?_
      refine sm_iadd d_mo_moveFan_162 ?_
      refine sm_icmp_ne 188 d_mo_moveFan_163 rfl (fun c45 => ?_) (fun c45 => ?_)
      · have hf := sm_ifF c45 hf
        obtain rfl := sm_ret1 hf
        exact sm_vret d_mo_moveFan_188 rfl
      · have hf := sm_ifT c45 hf
        refine sm_aload_n 0 rfl d_mo_moveFan_166 ?_
        refine sm_iload_n 1 rfl d_mo_moveFan_167 ?_
        refine sm_iconst (v := 5) (by decide) d_mo_moveFan_168 ?_
        obtain ⟨r46, g47, c48, hf⟩ := sm_b2E hf
        refine sm_callV (As := [.int a1, .int 5]) (rv := some (.int r46)) (h1 := g47) (c := 10) cvv_mo_311 rfl rfl e0 (m_mo_fanIs l lo hi _ e0 c48) rfl rfl d_mo_moveFan_169 ?_
        refine sm_if_ne 188 d_mo_moveFan_172 rfl (fun c49 => ?_) (fun c49 => ?_)
        · have hf := sm_ifF c49 hf
          obtain rfl := sm_ret1 hf
          exact sm_vret d_mo_moveFan_188 rfl
        · have hf := sm_ifT c49 hf
          refine sm_aload_n 0 rfl d_mo_moveFan_175 ?_
          refine sm_iload_n 1 rfl d_mo_moveFan_176 ?_
          refine sm_iconst (v := 5) (by decide) d_mo_moveFan_177 ?_
          refine sm_iconst (v := 1) (by decide) d_mo_moveFan_178 ?_
          obtain ⟨g50, c51, hf⟩ := sm_bindE hf
          refine sm_callV (As := [.int a1, .int 5, .int 1]) (rv := none) (h1 := g50) (c := 10) cvv_mo_373 rfl rfl e0 (m_mo_putFan l lo hi _ e0 c51) rfl rfl d_mo_moveFan_179 ?_
          refine sm_aload_n 0 rfl d_mo_moveFan_182 ?_
          refine sm_iconst (v := 2) (by decide) d_mo_moveFan_183 ?_
          refine sm_iload_n 1 rfl d_mo_moveFan_184 ?_
          obtain ⟨g52, c53, hf⟩ := sm_bindE hf
          refine sm_callV (As := [.int 2, .int a1]) (rv := none) (h1 := g52) (c := 10) cvv_mo_364 rfl rfl e0 (m_mo_record l lo hi _ e0 c53) rfl rfl d_mo_moveFan_185 ?_
          obtain rfl := sm_ret1 hf
          exact sm_vret d_mo_moveFan_188 rfl
    · have hf := sm_ifT c35 hf
      refine sm_sub [0, 1] rfl ?_
      exact w_mo_moveFan_L126 l lo hi d _ _ _ e0 hf
theorem w_mo_moveFan_L98 (l : Launch) (lo hi d : Nat) {h' : sm_H} (a0 : Nat) (a1 : Int32) (a2 : Int32) (a3 : Int32) (a4 : Int32) (a5 : Int32) (h : sm_H) (e0 : sm_at lo hi (0, 10, 0) a0) (hf : f_mo_moveFan_L98 a0 a1 a2 a3 a4 a5 h = some h') : sm_W l lo hi (d + 4) q_mo_moveFan 98 [(0, .ref a0), (1, .int a1), (2, .int a2), (3, .int a3), (4, .int a4), (5, .int a5)] [] h none h' := by
  unfold f_mo_moveFan_L98 at hf
  refine sm_iload 5 rfl d_mo_moveFan_98 ?_
  refine sm_iload_n 3 rfl d_mo_moveFan_100 ?_
  refine sm_icmp_eq 115 d_mo_moveFan_101 rfl (fun c30 => ?_) (fun c30 => ?_)
  · have hf := sm_ifT c30 hf
    refine sm_sub [0, 1, 2, 4, 5] rfl ?_
    exact w_mo_moveFan_L115 l lo hi d _ _ _ _ _ _ e0 hf
  · have hf := sm_ifF c30 hf
    refine sm_iload 5 rfl d_mo_moveFan_104 ?_
    refine sm_if_ne 115 d_mo_moveFan_106 rfl (fun c31 => ?_) (fun c31 => ?_)
    · have hf := sm_ifF c31 hf
      refine sm_sub [0, 1, 2, 4, 5] rfl ?_
      exact w_mo_moveFan_L115 l lo hi d _ _ _ _ _ _ e0 hf
    · have hf := sm_ifT c31 hf
      refine sm_aload_n 0 rfl d_mo_moveFan_109 ?_
      refine sm_iconst (v := 5) (by decide) d_mo_moveFan_110 ?_
      refine sm_iload_n 1 rfl d_mo_moveFan_111 ?_
      obtain ⟨g32, c33, hf⟩ := sm_bindE hf
      refine sm_callV (As := [.int 5, .int a1]) (rv := none) (h1 := g32) (c := 10) cvv_mo_364 rfl rfl e0 (m_mo_record l lo hi _ e0 c33) rfl rfl d_mo_moveFan_112 ?_
      refine sm_sub [0, 1, 2, 4, 5] rfl ?_
      exact w_mo_moveFan_L115 l lo hi d _ _ _ _ _ _ e0 hf
theorem w_mo_moveFan_L70 (l : Launch) (lo hi d : Nat) {h' : sm_H} (a0 : Nat) (a1 : Int32) (a2 : Int32) (a3 : Int32) (a4 : Int32) (s0 : Int32) (h : sm_H) (e0 : sm_at lo hi (0, 10, 0) a0) (hf : f_mo_moveFan_L70 a0 a1 a2 a3 a4 s0 h = some h') : sm_W l lo hi (d + 4) q_mo_moveFan 70 [(0, .ref a0), (1, .int a1), (2, .int a2), (3, .int a3), (4, .int a4)] [.int s0] h none h' := by
  unfold f_mo_moveFan_L70 at hf
  refine sm_istore (lv' := [(5, .int s0), (0, .ref a0), (1, .int a1), (2, .int a2), (3, .int a3), (4, .int a4)]) d_mo_moveFan_70 rfl rfl ?_
  refine sm_aload_n 1 rfl d_mo_moveFan_72 ?_
  refine sm_iload_n 2 rfl d_mo_moveFan_73 ?_
  refine sm_iconst (v := 0) (by decide) d_mo_moveFan_74 ?_
  refine sm_iload 0 rfl d_mo_moveFan_75 ?_
  obtain ⟨g24, c25, hf⟩ := sm_bindE hf
  refine sm_callV (As := [.int a1, .int 0, .int s0]) (rv := none) (h1 := g24) (c := 10) cvv_mo_373 rfl rfl e0 (m_mo_putFan l lo hi _ e0 c25) rfl rfl d_mo_moveFan_77 ?_
  refine sm_iload 0 rfl d_mo_moveFan_80 ?_
  refine sm_iload_n 4 rfl d_mo_moveFan_82 ?_
  refine sm_icmp_eq 98 d_mo_moveFan_83 rfl (fun c26 => ?_) (fun c26 => ?_)
  · have hf := sm_ifT c26 hf
    refine sm_sub [1, 2, 3, 4, 5, 0] rfl ?_
    exact w_mo_moveFan_L98 l lo hi d _ _ _ _ _ _ _ e0 hf
  · have hf := sm_ifF c26 hf
    refine sm_iload 0 rfl d_mo_moveFan_86 ?_
    refine sm_iload_n 3 rfl d_mo_moveFan_88 ?_
    refine sm_icmp_ne 98 d_mo_moveFan_89 rfl (fun c27 => ?_) (fun c27 => ?_)
    · have hf := sm_ifF c27 hf
      refine sm_sub [1, 2, 3, 4, 5, 0] rfl ?_
      exact w_mo_moveFan_L98 l lo hi d _ _ _ _ _ _ _ e0 hf
    · have hf := sm_ifT c27 hf
      refine sm_aload_n 1 rfl d_mo_moveFan_92 ?_
      refine sm_iconst (v := 4) (by decide) d_mo_moveFan_93 ?_
      refine sm_iload_n 2 rfl d_mo_moveFan_94 ?_
      obtain ⟨g28, c29, hf⟩ := sm_bindE hf
      refine sm_callV (As := [.int 4, .int a1]) (rv := none) (h1 := g28) (c := 10) cvv_mo_364 rfl rfl e0 (m_mo_record l lo hi _ e0 c29) rfl rfl d_mo_moveFan_95 ?_
      refine sm_sub [1, 2, 3, 4, 5, 0] rfl ?_
      exact w_mo_moveFan_L98 l lo hi d _ _ _ _ _ _ _ e0 hf
theorem w_mo_moveFan_L63 (l : Launch) (lo hi d : Nat) {h' : sm_H} (a0 : Nat) (a1 : Int32) (a2 : Int32) (a3 : Int32) (a4 : Int32) (h : sm_H) (e0 : sm_at lo hi (0, 10, 0) a0) (hf : f_mo_moveFan_L63 a0 a1 a2 a3 a4 h = some h') : sm_W l lo hi (d + 4) q_mo_moveFan 63 [(0, .ref a0), (1, .int a1), (2, .int a2), (3, .int a3), (4, .int a4)] [] h none h' := by
  unfold f_mo_moveFan_L63 at hf
  refine sm_iconst (v := 0) (by decide) d_mo_moveFan_63 ?_
  refine sm_iload_n 3 rfl d_mo_moveFan_64 ?_
  refine sm_iconst (v := 1) (by decide) d_mo_moveFan_65 ?_
  refine sm_isub d_mo_moveFan_66 ?_
  obtain ⟨r21, g22, c23, hf⟩ := sm_b2E hf
  refine sm_callS (As := [.int 0, .int (a3 - 1)]) (rv := some (.int r21)) (h1 := g22) cvs_mo_370 (m_mo_greater l lo hi _ c23) rfl rfl d_mo_moveFan_67 ?_
  exact w_mo_moveFan_L70 l lo hi d _ _ _ _ _ _ _ e0 hf
theorem w_mo_moveFan_L37 (l : Launch) (lo hi d : Nat) {h' : sm_H} (a0 : Nat) (a1 : Int32) (a2 : Int32) (a3 : Int32) (s0 : Int32) (h : sm_H) (e0 : sm_at lo hi (0, 10, 0) a0) (hf : f_mo_moveFan_L37 a0 a1 a2 a3 s0 h = some h') : sm_W l lo hi (d + 4) q_mo_moveFan 37 [(0, .ref a0), (1, .int a1), (2, .int a2), (3, .int a3)] [.int s0] h none h' := by
  unfold f_mo_moveFan_L37 at hf
  refine sm_istore (lv' := [(4, .int s0), (0, .ref a0), (1, .int a1), (2, .int a2), (3, .int a3)]) d_mo_moveFan_37 rfl rfl ?_
  refine sm_iload 0 rfl d_mo_moveFan_39 ?_
  refine sm_if_eq 63 d_mo_moveFan_41 rfl (fun c13 => ?_) (fun c13 => ?_)
  · have hf := sm_ifT c13 hf
    refine sm_sub [1, 2, 3, 4, 0] rfl ?_
    exact w_mo_moveFan_L63 l lo hi d _ _ _ _ _ _ e0 hf
  · have hf := sm_ifF c13 hf
    refine sm_aload_n 1 rfl d_mo_moveFan_44 ?_
    refine sm_iload_n 2 rfl d_mo_moveFan_45 ?_
    refine sm_iconst (v := 1) (by decide) d_mo_moveFan_46 ?_
    obtain ⟨r14, g15, c16, hf⟩ := sm_b2E hf
    refine sm_callV (As := [.int a1, .int 1]) (rv := some (.int r14)) (h1 := g15) (c := 10) cvv_mo_311 rfl rfl e0 (m_mo_fanIs l lo hi _ e0 c16) rfl rfl d_mo_moveFan_47 ?_
    refine sm_if_ne 63 d_mo_moveFan_50 rfl (fun c17 => ?_) (fun c17 => ?_)
    · have hf := sm_ifF c17 hf
      refine sm_sub [1, 2, 3, 4, 0] rfl ?_
      exact w_mo_moveFan_L63 l lo hi d _ _ _ _ _ _ e0 hf
    · have hf := sm_ifT c17 hf
      refine sm_iload_n 3 rfl d_mo_moveFan_53 ?_
      refine sm_iload_n 4 rfl d_mo_moveFan_54 ?_
      refine sm_iconst (v := 1) (by decide) d_mo_moveFan_55 ?_
      refine sm_iadd d_mo_moveFan_56 ?_
      obtain ⟨r18, g19, c20, hf⟩ := sm_b2E hf
      refine sm_callS (As := [.int a2, .int (a3 + 1)]) (rv := some (.int r18)) (h1 := g19) cvs_mo_361 (m_mo_lesser l lo hi _ c20) rfl rfl d_mo_moveFan_57 ?_
      refine sm_goto 70 d_mo_moveFan_60 rfl ?_
      refine sm_sub [1, 2, 3, 4, 0] rfl ?_
      exact w_mo_moveFan_L70 l lo hi d _ _ _ _ _ _ _ e0 hf
theorem w_mo_moveFan_L36 (l : Launch) (lo hi d : Nat) {h' : sm_H} (a0 : Nat) (a1 : Int32) (a2 : Int32) (a3 : Int32) (h : sm_H) (e0 : sm_at lo hi (0, 10, 0) a0) (hf : f_mo_moveFan_L36 a0 a1 a2 a3 h = some h') : sm_W l lo hi (d + 4) q_mo_moveFan 36 [(0, .ref a0), (1, .int a1), (2, .int a2), (3, .int a3)] [] h none h' := by
  unfold f_mo_moveFan_L36 at hf
  refine sm_iconst (v := 0) (by decide) d_mo_moveFan_36 ?_
  exact w_mo_moveFan_L37 l lo hi d _ _ _ _ _ _ e0 hf
theorem m_mo_moveFan (l : Launch) (lo hi d : Nat) {a0 : Nat} {a1 : Int32} {h h' : sm_H} (e0 : sm_at lo hi (0, 10, 0) a0) (hf : f_mo_moveFan a0 a1 h = some h') : sm_Met l lo hi (d + 4) q_mo_moveFan [.ref a0, .int a1] h none h' := by
  refine sm_Met.of (by decide +kernel) rfl ?_
  show sm_W l lo hi (d + 4) q_mo_moveFan 0 [(0, .ref a0), (1, .int a1)] [] h none h'
  unfold f_mo_moveFan at hf
  refine sm_aload_n 0 rfl d_mo_moveFan_0 ?_
  refine sm_iload_n 1 rfl d_mo_moveFan_1 ?_
  refine sm_iconst (v := 2) (by decide) d_mo_moveFan_2 ?_
  obtain ⟨r1, g2, c3, hf⟩ := sm_b2E hf
  refine sm_callV (As := [.int a1, .int 2]) (rv := some (.int r1)) (h1 := g2) (c := 10) cvv_mo_320 rfl rfl e0 (m_mo_fanOf l lo hi _ e0 c3) rfl rfl d_mo_moveFan_3 ?_
  refine sm_istore_n (lv' := [(2, .int r1), (0, .ref a0), (1, .int a1)]) d_mo_moveFan_6 rfl rfl ?_
  refine sm_aload_n 1 rfl d_mo_moveFan_7 ?_
  refine sm_iload_n 2 rfl d_mo_moveFan_8 ?_
  refine sm_iconst (v := 0) (by decide) d_mo_moveFan_9 ?_
  obtain ⟨r4, g5, c6, hf⟩ := sm_b2E hf
  refine sm_callV (As := [.int a1, .int 0]) (rv := some (.int r4)) (h1 := g5) (c := 10) cvv_mo_311 rfl rfl e0 (m_mo_fanIs l lo hi _ e0 c6) rfl rfl d_mo_moveFan_10 ?_
  refine sm_istore_n (lv' := [(3, .int r4), (2, .int r1), (0, .ref a0), (1, .int a1)]) d_mo_moveFan_13 rfl rfl ?_
  refine sm_aload_n 2 rfl d_mo_moveFan_14 ?_
  refine sm_getR (n := 13) fl_mo_51 e0 rfl d_mo_moveFan_15 ?_
  refine sm_iload_n 3 rfl d_mo_moveFan_18 ?_
  obtain ⟨c7, hf⟩ := sm_gdE hf
  refine sm_iald (sm_at_arr (sm_inner e0 29 rfl rfl rfl)) c7 d_mo_moveFan_19 ?_
  refine sm_iconst (v := 1) (by decide) d_mo_moveFan_20 ?_
  refine sm_icmp_ne 36 d_mo_moveFan_21 rfl (fun c8 => ?_) (fun c8 => ?_)
  · have hf := sm_ifF c8 hf
    refine sm_sub [2, 3, 1, 0] rfl ?_
    exact w_mo_moveFan_L36 l lo hi d _ _ _ _ _ e0 hf
  · have hf := sm_ifT c8 hf
    refine sm_aload_n 2 rfl d_mo_moveFan_24 ?_
    refine sm_iload_n 3 rfl d_mo_moveFan_25 ?_
    obtain ⟨r9, g10, c11, hf⟩ := sm_b2E hf
    refine sm_callV (As := [.int a1]) (rv := some (.int r9)) (h1 := g10) (c := 10) cvv_mo_367 rfl rfl e0 (m_mo_isClear l lo hi _ e0 c11) rfl rfl d_mo_moveFan_26 ?_
    refine sm_if_eq 36 d_mo_moveFan_29 rfl (fun c12 => ?_) (fun c12 => ?_)
    · have hf := sm_ifT c12 hf
      refine sm_sub [2, 3, 1, 0] rfl ?_
      exact w_mo_moveFan_L36 l lo hi d _ _ _ _ _ e0 hf
    · have hf := sm_ifF c12 hf
      refine sm_iconst (v := 1) (by decide) d_mo_moveFan_32 ?_
      refine sm_goto 37 d_mo_moveFan_33 rfl ?_
      refine sm_sub [2, 3, 1, 0] rfl ?_
      exact w_mo_moveFan_L37 l lo hi d _ _ _ _ _ _ e0 hf
theorem d_mo_isStairWanted_0 : decode q_mo_isStairWanted.2.1 0 = .ok (.iconst 0, 1) := by decide +kernel
theorem d_mo_isStairWanted_1 : decode q_mo_isStairWanted.2.1 1 = .ok (.istore_n 1, 1) := by decide +kernel
theorem d_mo_isStairWanted_2 : decode q_mo_isStairWanted.2.1 2 = .ok (.iload_n 1, 1) := by decide +kernel
theorem d_mo_isStairWanted_3 : decode q_mo_isStairWanted.2.1 3 = .ok (.aload_n 0, 1) := by decide +kernel
theorem d_mo_isStairWanted_4 : decode q_mo_isStairWanted.2.1 4 = .ok (.getfield 7, 3) := by decide +kernel
theorem d_mo_isStairWanted_7 : decode q_mo_isStairWanted.2.1 7 = .ok (.iconst 2, 1) := by decide +kernel
theorem d_mo_isStairWanted_8 : decode q_mo_isStairWanted.2.1 8 = .ok (.iaload, 1) := by decide +kernel
theorem d_mo_isStairWanted_9 : decode q_mo_isStairWanted.2.1 9 = .ok (.if_icmp .ge 31, 3) := by decide +kernel
theorem d_mo_isStairWanted_12 : decode q_mo_isStairWanted.2.1 12 = .ok (.aload_n 0, 1) := by decide +kernel
theorem d_mo_isStairWanted_13 : decode q_mo_isStairWanted.2.1 13 = .ok (.iload_n 1, 1) := by decide +kernel
theorem d_mo_isStairWanted_14 : decode q_mo_isStairWanted.2.1 14 = .ok (.iconst 0, 1) := by decide +kernel
theorem d_mo_isStairWanted_15 : decode q_mo_isStairWanted.2.1 15 = .ok (.invokevirtual 320, 3) := by decide +kernel
theorem d_mo_isStairWanted_18 : decode q_mo_isStairWanted.2.1 18 = .ok (.iconst 2, 1) := by decide +kernel
theorem d_mo_isStairWanted_19 : decode q_mo_isStairWanted.2.1 19 = .ok (.if_icmp .ne 15, 3) := by decide +kernel
theorem d_mo_isStairWanted_22 : decode q_mo_isStairWanted.2.1 22 = .ok (.aload_n 0, 1) := by decide +kernel
theorem d_mo_isStairWanted_23 : decode q_mo_isStairWanted.2.1 23 = .ok (.getfield 51, 3) := by decide +kernel
theorem d_mo_isStairWanted_26 : decode q_mo_isStairWanted.2.1 26 = .ok (.iload_n 1, 1) := by decide +kernel
theorem d_mo_isStairWanted_27 : decode q_mo_isStairWanted.2.1 27 = .ok (.iaload, 1) := by decide +kernel
theorem d_mo_isStairWanted_28 : decode q_mo_isStairWanted.2.1 28 = .ok (.iconst 1, 1) := by decide +kernel
theorem d_mo_isStairWanted_29 : decode q_mo_isStairWanted.2.1 29 = .ok (.if_icmp .ne 5, 3) := by decide +kernel
theorem d_mo_isStairWanted_32 : decode q_mo_isStairWanted.2.1 32 = .ok (.iconst 1, 1) := by decide +kernel
theorem d_mo_isStairWanted_33 : decode q_mo_isStairWanted.2.1 33 = .ok (.ireturn, 1) := by decide +kernel
theorem d_mo_isStairWanted_34 : decode q_mo_isStairWanted.2.1 34 = .ok (.iinc 1 1, 3) := by decide +kernel
theorem d_mo_isStairWanted_37 : decode q_mo_isStairWanted.2.1 37 = .ok (.goto (-35), 3) := by decide +kernel
theorem d_mo_isStairWanted_40 : decode q_mo_isStairWanted.2.1 40 = .ok (.iconst 0, 1) := by decide +kernel
theorem d_mo_isStairWanted_41 : decode q_mo_isStairWanted.2.1 41 = .ok (.ireturn, 1) := by decide +kernel
theorem w_mo_isStairWanted_L34 (l : Launch) (lo hi d : Nat) {k2 : Nat → Int32 → sm_H → Option (Int32 × sm_H)} {h' : sm_H} {r0 : Int32} (hk2 : ∀ (a0 : Nat) (a1 : Int32) (h : sm_H) (_ : sm_at lo hi (0, 10, 0) a0) , k2 a0 a1 h = some (r0, h') → sm_W l lo hi (d + 1) q_mo_isStairWanted 2 [(0, .ref a0), (1, .int a1)] [] h (some (.int r0)) h') (a0 : Nat) (a1 : Int32) (h : sm_H) (e0 : sm_at lo hi (0, 10, 0) a0) (hf : f_mo_isStairWanted_L34 k2 a0 a1 h = some (r0, h')) : sm_W l lo hi (d + 1) q_mo_isStairWanted 34 [(0, .ref a0), (1, .int a1)] [] h (some (.int r0)) h' := by
  unfold f_mo_isStairWanted_L34 at hf
  obtain ⟨x9, w10⟩ : ∃ v : Int32, v = a1 + 1 := ⟨_, rfl⟩
  have hf := sm_letV w10 hf
  refine sm_iinc (v := x9) (lv' := [(1, .int x9), (0, .ref a0)]) 1 rfl (by rw [w10]; rfl) d_mo_isStairWanted_34 rfl rfl ?_
  refine sm_goto 2 d_mo_isStairWanted_37 rfl ?_
  refine sm_sub [1, 0] rfl ?_
  exact hk2 _ _ _ e0 hf
theorem w_mo_isStairWanted_L2 (l : Launch) (lo hi d : Nat) {h' : sm_H} {r0 : Int32} : ∀ (n : Nat) (a0 : Nat) (a1 : Int32) (h : sm_H) (e0 : sm_at lo hi (0, 10, 0) a0) (hf : f_mo_isStairWanted_L2 n a0 a1 h = some (r0, h')), sm_W l lo hi (d + 1) q_mo_isStairWanted 2 [(0, .ref a0), (1, .int a1)] [] h (some (.int r0)) h' := by
  intro n
  induction n with
  | zero =>
    intro a0 a1 h e0 hf
    have z : (none : Option (Int32 × sm_H)) = some _ := hf
    cases z
  | succ n ih =>
    intro a0 a1 h e0 hf
    unfold f_mo_isStairWanted_L2 at hf
    refine sm_iload_n 1 rfl d_mo_isStairWanted_2 ?_
    refine sm_aload_n 0 rfl d_mo_isStairWanted_3 ?_
    refine sm_getR (n := 1) fl_mo_7 e0 rfl d_mo_isStairWanted_4 ?_
    refine sm_iconst (v := 2) (by decide) d_mo_isStairWanted_7 ?_
    obtain ⟨c1, hf⟩ := sm_gdE hf
    refine sm_iald (sm_at_arr (sm_inner e0 0 rfl rfl rfl)) c1 d_mo_isStairWanted_8 ?_
    refine sm_icmp_ge 40 d_mo_isStairWanted_9 rfl (fun c2 => ?_) (fun c2 => ?_)
    · have hf := sm_ifT c2 hf
      refine sm_iconst (v := 0) (by decide) d_mo_isStairWanted_40 ?_
      obtain ⟨rfl, rfl⟩ := sm_ret2 hf
      exact sm_bret (by decide) d_mo_isStairWanted_41 rfl
    · have hf := sm_ifF c2 hf
      refine sm_aload_n 0 rfl d_mo_isStairWanted_12 ?_
      refine sm_iload_n 1 rfl d_mo_isStairWanted_13 ?_
      refine sm_iconst (v := 0) (by decide) d_mo_isStairWanted_14 ?_
      obtain ⟨r3, g4, c5, hf⟩ := sm_b2E hf
      refine sm_callV (As := [.int a1, .int 0]) (rv := some (.int r3)) (h1 := g4) (c := 10) cvv_mo_320 rfl rfl e0 (m_mo_fanOf l lo hi _ e0 c5) rfl rfl d_mo_isStairWanted_15 ?_
      refine sm_iconst (v := 2) (by decide) d_mo_isStairWanted_18 ?_
      refine sm_icmp_ne 34 d_mo_isStairWanted_19 rfl (fun c6 => ?_) (fun c6 => ?_)
      · have hf := sm_ifF c6 hf
        exact w_mo_isStairWanted_L34 l lo hi d ih _ _ _ e0 hf
      · have hf := sm_ifT c6 hf
        refine sm_aload_n 0 rfl d_mo_isStairWanted_22 ?_
        refine sm_getR (n := 13) fl_mo_51 e0 rfl d_mo_isStairWanted_23 ?_
        refine sm_iload_n 1 rfl d_mo_isStairWanted_26 ?_
        obtain ⟨c7, hf⟩ := sm_gdE hf
        refine sm_iald (sm_at_arr (sm_inner e0 29 rfl rfl rfl)) c7 d_mo_isStairWanted_27 ?_
        refine sm_iconst (v := 1) (by decide) d_mo_isStairWanted_28 ?_
        refine sm_icmp_ne 34 d_mo_isStairWanted_29 rfl (fun c8 => ?_) (fun c8 => ?_)
        · have hf := sm_ifF c8 hf
          exact w_mo_isStairWanted_L34 l lo hi d ih _ _ _ e0 hf
        · have hf := sm_ifT c8 hf
          refine sm_iconst (v := 1) (by decide) d_mo_isStairWanted_32 ?_
          obtain ⟨rfl, rfl⟩ := sm_ret2 hf
          exact sm_bret (by decide) d_mo_isStairWanted_33 rfl
theorem m_mo_isStairWanted (l : Launch) (lo hi d : Nat) {a0 : Nat} {r0 : Int32} {h h' : sm_H} (e0 : sm_at lo hi (0, 10, 0) a0) (hf : f_mo_isStairWanted a0 h = some (r0, h')) : sm_Met l lo hi (d + 1) q_mo_isStairWanted [.ref a0] h (some (.int r0)) h' := by
  refine sm_Met.of (by decide +kernel) rfl ?_
  show sm_W l lo hi (d + 1) q_mo_isStairWanted 0 [(0, .ref a0)] [] h (some (.int r0)) h'
  unfold f_mo_isStairWanted at hf
  refine sm_iconst (v := 0) (by decide) d_mo_isStairWanted_0 ?_
  refine sm_istore_n (lv' := [(1, .int 0), (0, .ref a0)]) d_mo_isStairWanted_1 rfl rfl ?_
  refine sm_sub [1, 0] rfl ?_
  exact w_mo_isStairWanted_L2 l lo hi d sm_N _ _ _ e0 hf
theorem d_mo_pressStair_0 : decode q_mo_pressStair.2.1 0 = .ok (.aload_n 0, 1) := by decide +kernel
theorem d_mo_pressStair_1 : decode q_mo_pressStair.2.1 1 = .ok (.aload_n 0, 1) := by decide +kernel
theorem d_mo_pressStair_2 : decode q_mo_pressStair.2.1 2 = .ok (.invokevirtual 376, 3) := by decide +kernel
theorem d_mo_pressStair_5 : decode q_mo_pressStair.2.1 5 = .ok (.aload_n 0, 1) := by decide +kernel
theorem d_mo_pressStair_6 : decode q_mo_pressStair.2.1 6 = .ok (.getfield 16, 3) := by decide +kernel
theorem d_mo_pressStair_9 : decode q_mo_pressStair.2.1 9 = .ok (.iconst 2, 1) := by decide +kernel
theorem d_mo_pressStair_10 : decode q_mo_pressStair.2.1 10 = .ok (.iaload, 1) := by decide +kernel
theorem d_mo_pressStair_11 : decode q_mo_pressStair.2.1 11 = .ok (.imul, 1) := by decide +kernel
theorem d_mo_pressStair_12 : decode q_mo_pressStair.2.1 12 = .ok (.bipush 100, 2) := by decide +kernel
theorem d_mo_pressStair_14 : decode q_mo_pressStair.2.1 14 = .ok (.idiv, 1) := by decide +kernel
theorem d_mo_pressStair_15 : decode q_mo_pressStair.2.1 15 = .ok (.putfield 379, 3) := by decide +kernel
theorem d_mo_pressStair_18 : decode q_mo_pressStair.2.1 18 = .ok (.aload_n 0, 1) := by decide +kernel
theorem d_mo_pressStair_19 : decode q_mo_pressStair.2.1 19 = .ok (.getfield 379, 3) := by decide +kernel
theorem d_mo_pressStair_22 : decode q_mo_pressStair.2.1 22 = .ok (.aload_n 0, 1) := by decide +kernel
theorem d_mo_pressStair_23 : decode q_mo_pressStair.2.1 23 = .ok (.aload_n 0, 1) := by decide +kernel
theorem d_mo_pressStair_24 : decode q_mo_pressStair.2.1 24 = .ok (.invokevirtual 382, 3) := by decide +kernel
theorem d_mo_pressStair_27 : decode q_mo_pressStair.2.1 27 = .ok (.invokevirtual 385, 3) := by decide +kernel
theorem d_mo_pressStair_30 : decode q_mo_pressStair.2.1 30 = .ok (.invokestatic 388, 3) := by decide +kernel
theorem d_mo_pressStair_33 : decode q_mo_pressStair.2.1 33 = .ok (.istore_n 1, 1) := by decide +kernel
theorem d_mo_pressStair_34 : decode q_mo_pressStair.2.1 34 = .ok (.aload_n 0, 1) := by decide +kernel
theorem d_mo_pressStair_35 : decode q_mo_pressStair.2.1 35 = .ok (.getfield 16, 3) := by decide +kernel
theorem d_mo_pressStair_38 : decode q_mo_pressStair.2.1 38 = .ok (.iconst 3, 1) := by decide +kernel
theorem d_mo_pressStair_39 : decode q_mo_pressStair.2.1 39 = .ok (.iload_n 1, 1) := by decide +kernel
theorem d_mo_pressStair_40 : decode q_mo_pressStair.2.1 40 = .ok (.iastore, 1) := by decide +kernel
theorem d_mo_pressStair_41 : decode q_mo_pressStair.2.1 41 = .ok (.iload_n 1, 1) := by decide +kernel
theorem d_mo_pressStair_42 : decode q_mo_pressStair.2.1 42 = .ok (.aload_n 0, 1) := by decide +kernel
theorem d_mo_pressStair_43 : decode q_mo_pressStair.2.1 43 = .ok (.getfield 7, 3) := by decide +kernel
theorem d_mo_pressStair_46 : decode q_mo_pressStair.2.1 46 = .ok (.iconst 5, 1) := by decide +kernel
theorem d_mo_pressStair_47 : decode q_mo_pressStair.2.1 47 = .ok (.iaload, 1) := by decide +kernel
theorem d_mo_pressStair_48 : decode q_mo_pressStair.2.1 48 = .ok (.iconst 5, 1) := by decide +kernel
theorem d_mo_pressStair_49 : decode q_mo_pressStair.2.1 49 = .ok (.iadd, 1) := by decide +kernel
theorem d_mo_pressStair_50 : decode q_mo_pressStair.2.1 50 = .ok (.if_icmp .le 25, 3) := by decide +kernel
theorem d_mo_pressStair_53 : decode q_mo_pressStair.2.1 53 = .ok (.aload_n 0, 1) := by decide +kernel
theorem d_mo_pressStair_54 : decode q_mo_pressStair.2.1 54 = .ok (.getfield 16, 3) := by decide +kernel
theorem d_mo_pressStair_57 : decode q_mo_pressStair.2.1 57 = .ok (.iconst 2, 1) := by decide +kernel
theorem d_mo_pressStair_58 : decode q_mo_pressStair.2.1 58 = .ok (.bipush 20, 2) := by decide +kernel
theorem d_mo_pressStair_60 : decode q_mo_pressStair.2.1 60 = .ok (.aload_n 0, 1) := by decide +kernel
theorem d_mo_pressStair_61 : decode q_mo_pressStair.2.1 61 = .ok (.getfield 16, 3) := by decide +kernel
theorem d_mo_pressStair_64 : decode q_mo_pressStair.2.1 64 = .ok (.iconst 2, 1) := by decide +kernel
theorem d_mo_pressStair_65 : decode q_mo_pressStair.2.1 65 = .ok (.iaload, 1) := by decide +kernel
theorem d_mo_pressStair_66 : decode q_mo_pressStair.2.1 66 = .ok (.iconst 5, 1) := by decide +kernel
theorem d_mo_pressStair_67 : decode q_mo_pressStair.2.1 67 = .ok (.isub, 1) := by decide +kernel
theorem d_mo_pressStair_68 : decode q_mo_pressStair.2.1 68 = .ok (.invokestatic 370, 3) := by decide +kernel
theorem d_mo_pressStair_71 : decode q_mo_pressStair.2.1 71 = .ok (.iastore, 1) := by decide +kernel
theorem d_mo_pressStair_72 : decode q_mo_pressStair.2.1 72 = .ok (.goto 32, 3) := by decide +kernel
theorem d_mo_pressStair_75 : decode q_mo_pressStair.2.1 75 = .ok (.iload_n 1, 1) := by decide +kernel
theorem d_mo_pressStair_76 : decode q_mo_pressStair.2.1 76 = .ok (.aload_n 0, 1) := by decide +kernel
theorem d_mo_pressStair_77 : decode q_mo_pressStair.2.1 77 = .ok (.getfield 7, 3) := by decide +kernel
theorem d_mo_pressStair_80 : decode q_mo_pressStair.2.1 80 = .ok (.iconst 5, 1) := by decide +kernel
theorem d_mo_pressStair_81 : decode q_mo_pressStair.2.1 81 = .ok (.iaload, 1) := by decide +kernel
theorem d_mo_pressStair_82 : decode q_mo_pressStair.2.1 82 = .ok (.if_icmp .ge 22, 3) := by decide +kernel
theorem d_mo_pressStair_85 : decode q_mo_pressStair.2.1 85 = .ok (.aload_n 0, 1) := by decide +kernel
theorem d_mo_pressStair_86 : decode q_mo_pressStair.2.1 86 = .ok (.getfield 16, 3) := by decide +kernel
theorem d_mo_pressStair_89 : decode q_mo_pressStair.2.1 89 = .ok (.iconst 2, 1) := by decide +kernel
theorem d_mo_pressStair_90 : decode q_mo_pressStair.2.1 90 = .ok (.bipush 100, 2) := by decide +kernel
theorem d_mo_pressStair_92 : decode q_mo_pressStair.2.1 92 = .ok (.aload_n 0, 1) := by decide +kernel
theorem d_mo_pressStair_93 : decode q_mo_pressStair.2.1 93 = .ok (.getfield 16, 3) := by decide +kernel
theorem d_mo_pressStair_96 : decode q_mo_pressStair.2.1 96 = .ok (.iconst 2, 1) := by decide +kernel
theorem d_mo_pressStair_97 : decode q_mo_pressStair.2.1 97 = .ok (.iaload, 1) := by decide +kernel
theorem d_mo_pressStair_98 : decode q_mo_pressStair.2.1 98 = .ok (.iconst 5, 1) := by decide +kernel
theorem d_mo_pressStair_99 : decode q_mo_pressStair.2.1 99 = .ok (.iadd, 1) := by decide +kernel
theorem d_mo_pressStair_100 : decode q_mo_pressStair.2.1 100 = .ok (.invokestatic 361, 3) := by decide +kernel
theorem d_mo_pressStair_103 : decode q_mo_pressStair.2.1 103 = .ok (.iastore, 1) := by decide +kernel
theorem d_mo_pressStair_104 : decode q_mo_pressStair.2.1 104 = .ok (.aload_n 0, 1) := by decide +kernel
theorem d_mo_pressStair_105 : decode q_mo_pressStair.2.1 105 = .ok (.invokevirtual 391, 3) := by decide +kernel
theorem d_mo_pressStair_108 : decode q_mo_pressStair.2.1 108 = .ok (.ifCond .eq 13, 3) := by decide +kernel
theorem d_mo_pressStair_111 : decode q_mo_pressStair.2.1 111 = .ok (.iload_n 1, 1) := by decide +kernel
theorem d_mo_pressStair_112 : decode q_mo_pressStair.2.1 112 = .ok (.aload_n 0, 1) := by decide +kernel
theorem d_mo_pressStair_113 : decode q_mo_pressStair.2.1 113 = .ok (.getfield 7, 3) := by decide +kernel
theorem d_mo_pressStair_116 : decode q_mo_pressStair.2.1 116 = .ok (.iconst 5, 1) := by decide +kernel
theorem d_mo_pressStair_117 : decode q_mo_pressStair.2.1 117 = .ok (.iaload, 1) := by decide +kernel
theorem d_mo_pressStair_118 : decode q_mo_pressStair.2.1 118 = .ok (.if_icmp .lt 11, 3) := by decide +kernel
theorem d_mo_pressStair_121 : decode q_mo_pressStair.2.1 121 = .ok (.aload_n 0, 1) := by decide +kernel
theorem d_mo_pressStair_122 : decode q_mo_pressStair.2.1 122 = .ok (.getfield 16, 3) := by decide +kernel
theorem d_mo_pressStair_125 : decode q_mo_pressStair.2.1 125 = .ok (.iconst 5, 1) := by decide +kernel
theorem d_mo_pressStair_126 : decode q_mo_pressStair.2.1 126 = .ok (.iconst 0, 1) := by decide +kernel
theorem d_mo_pressStair_127 : decode q_mo_pressStair.2.1 127 = .ok (.iastore, 1) := by decide +kernel
theorem d_mo_pressStair_128 : decode q_mo_pressStair.2.1 128 = .ok (.return_, 1) := by decide +kernel
theorem d_mo_pressStair_129 : decode q_mo_pressStair.2.1 129 = .ok (.aload_n 0, 1) := by decide +kernel
theorem d_mo_pressStair_130 : decode q_mo_pressStair.2.1 130 = .ok (.getfield 16, 3) := by decide +kernel
theorem d_mo_pressStair_133 : decode q_mo_pressStair.2.1 133 = .ok (.iconst 5, 1) := by decide +kernel
theorem d_mo_pressStair_134 : decode q_mo_pressStair.2.1 134 = .ok (.aload_n 0, 1) := by decide +kernel
theorem d_mo_pressStair_135 : decode q_mo_pressStair.2.1 135 = .ok (.getfield 16, 3) := by decide +kernel
theorem d_mo_pressStair_138 : decode q_mo_pressStair.2.1 138 = .ok (.iconst 5, 1) := by decide +kernel
theorem d_mo_pressStair_139 : decode q_mo_pressStair.2.1 139 = .ok (.iaload, 1) := by decide +kernel
theorem d_mo_pressStair_140 : decode q_mo_pressStair.2.1 140 = .ok (.iconst 1, 1) := by decide +kernel
theorem d_mo_pressStair_141 : decode q_mo_pressStair.2.1 141 = .ok (.iadd, 1) := by decide +kernel
theorem d_mo_pressStair_142 : decode q_mo_pressStair.2.1 142 = .ok (.iastore, 1) := by decide +kernel
theorem d_mo_pressStair_143 : decode q_mo_pressStair.2.1 143 = .ok (.aload_n 0, 1) := by decide +kernel
theorem d_mo_pressStair_144 : decode q_mo_pressStair.2.1 144 = .ok (.getfield 16, 3) := by decide +kernel
theorem d_mo_pressStair_147 : decode q_mo_pressStair.2.1 147 = .ok (.iconst 5, 1) := by decide +kernel
theorem d_mo_pressStair_148 : decode q_mo_pressStair.2.1 148 = .ok (.iaload, 1) := by decide +kernel
theorem d_mo_pressStair_149 : decode q_mo_pressStair.2.1 149 = .ok (.bipush 30, 2) := by decide +kernel
theorem d_mo_pressStair_151 : decode q_mo_pressStair.2.1 151 = .ok (.if_icmp .ne 27, 3) := by decide +kernel
theorem d_mo_pressStair_154 : decode q_mo_pressStair.2.1 154 = .ok (.aload_n 0, 1) := by decide +kernel
theorem d_mo_pressStair_155 : decode q_mo_pressStair.2.1 155 = .ok (.getfield 16, 3) := by decide +kernel
theorem d_mo_pressStair_158 : decode q_mo_pressStair.2.1 158 = .ok (.bipush 6, 2) := by decide +kernel
theorem d_mo_pressStair_160 : decode q_mo_pressStair.2.1 160 = .ok (.iaload, 1) := by decide +kernel
theorem d_mo_pressStair_161 : decode q_mo_pressStair.2.1 161 = .ok (.ifCond .ne 17, 3) := by decide +kernel
theorem d_mo_pressStair_164 : decode q_mo_pressStair.2.1 164 = .ok (.aload_n 0, 1) := by decide +kernel
theorem d_mo_pressStair_165 : decode q_mo_pressStair.2.1 165 = .ok (.getfield 16, 3) := by decide +kernel
theorem d_mo_pressStair_168 : decode q_mo_pressStair.2.1 168 = .ok (.bipush 6, 2) := by decide +kernel
theorem d_mo_pressStair_170 : decode q_mo_pressStair.2.1 170 = .ok (.iconst 1, 1) := by decide +kernel
theorem d_mo_pressStair_171 : decode q_mo_pressStair.2.1 171 = .ok (.iastore, 1) := by decide +kernel
theorem d_mo_pressStair_172 : decode q_mo_pressStair.2.1 172 = .ok (.aload_n 0, 1) := by decide +kernel
theorem d_mo_pressStair_173 : decode q_mo_pressStair.2.1 173 = .ok (.iconst 3, 1) := by decide +kernel
theorem d_mo_pressStair_174 : decode q_mo_pressStair.2.1 174 = .ok (.iconst 0, 1) := by decide +kernel
theorem d_mo_pressStair_175 : decode q_mo_pressStair.2.1 175 = .ok (.invokevirtual 364, 3) := by decide +kernel
theorem d_mo_pressStair_178 : decode q_mo_pressStair.2.1 178 = .ok (.return_, 1) := by decide +kernel
theorem w_mo_pressStair_L121 (l : Launch) (lo hi d : Nat) {h' : sm_H} (a0 : Nat) (h : sm_H) (e0 : sm_at lo hi (0, 10, 0) a0) (hf : f_mo_pressStair_L121 a0 h = some h') : sm_W l lo hi (d + 3) q_mo_pressStair 121 [(0, .ref a0)] [] h none h' := by
  unfold f_mo_pressStair_L121 at hf
  refine sm_aload_n 0 rfl d_mo_pressStair_121 ?_
  refine sm_getR (n := 3) fl_mo_16 e0 rfl d_mo_pressStair_122 ?_
  refine sm_iconst (v := 5) (by decide) d_mo_pressStair_125 ?_
  refine sm_iconst (v := 0) (by decide) d_mo_pressStair_126 ?_
  obtain ⟨c56, hf⟩ := sm_gdE hf
  refine sm_iast (sm_at_arr (sm_inner e0 2 rfl rfl rfl)) c56 d_mo_pressStair_127 ?_
  refine sm_nmH (fun g57 w58 => ?_)
  have hf := sm_letV w58 hf
  obtain rfl := sm_ret1 hf
  exact sm_vret d_mo_pressStair_128 rfl
theorem w_mo_pressStair_L104 (l : Launch) (lo hi d : Nat) {h' : sm_H} (a0 : Nat) (a1 : Int32) (h : sm_H) (e0 : sm_at lo hi (0, 10, 0) a0) (hf : f_mo_pressStair_L104 a0 a1 h = some h') : sm_W l lo hi (d + 3) q_mo_pressStair 104 [(0, .ref a0), (1, .int a1)] [] h none h' := by
  unfold f_mo_pressStair_L104 at hf
  refine sm_aload_n 0 rfl d_mo_pressStair_104 ?_
  obtain ⟨r37, g38, c39, hf⟩ := sm_b2E hf
  refine sm_callV (As := []) (rv := some (.int r37)) (h1 := g38) (c := 10) cvv_mo_391 rfl rfl e0 (m_mo_isStairWanted l lo hi _ e0 c39) rfl rfl d_mo_pressStair_105 ?_
  refine sm_if_eq 121 d_mo_pressStair_108 rfl (fun c40 => ?_) (fun c40 => ?_)
  · have hf := sm_ifT c40 hf
    refine sm_sub [0] rfl ?_
    exact w_mo_pressStair_L121 l lo hi d _ _ e0 hf
  · have hf := sm_ifF c40 hf
    refine sm_iload_n 1 rfl d_mo_pressStair_111 ?_
    refine sm_aload_n 0 rfl d_mo_pressStair_112 ?_
    refine sm_getR (n := 1) fl_mo_7 e0 rfl d_mo_pressStair_113 ?_
    refine sm_iconst (v := 5) (by decide) d_mo_pressStair_116 ?_
    obtain ⟨c41, hf⟩ := sm_gdE hf
    refine sm_iald (sm_at_arr (sm_inner e0 0 rfl rfl rfl)) c41 d_mo_pressStair_117 ?_
    refine sm_icmp_lt 129 d_mo_pressStair_118 rfl (fun c42 => ?_) (fun c42 => ?_)
    · have hf := sm_ifT c42 hf
      refine sm_aload_n 0 rfl d_mo_pressStair_129 ?_
      refine sm_getR (n := 3) fl_mo_16 e0 rfl d_mo_pressStair_130 ?_
      refine sm_iconst (v := 5) (by decide) d_mo_pressStair_133 ?_
      refine sm_aload_n 0 rfl d_mo_pressStair_134 ?_
      refine sm_getR (n := 3) fl_mo_16 e0 rfl d_mo_pressStair_135 ?_
      refine sm_iconst (v := 5) (by decide) d_mo_pressStair_138 ?_
      obtain ⟨c43, hf⟩ := sm_gdE hf
      refine sm_iald (sm_at_arr (sm_inner e0 2 rfl rfl rfl)) c43 d_mo_pressStair_139 ?_
      refine sm_iconst (v := 1) (by decide) d_mo_pressStair_140 ?_
      refine sm_iadd d_mo_pressStair_141 ?_
      obtain ⟨c44, hf⟩ := sm_gdE hf
      refine sm_iast (sm_at_arr (sm_inner e0 2 rfl rfl rfl)) c44 d_mo_pressStair_142 ?_
      refine sm_nmH (fun g45 w46 => ?_)
      have hf := sm_letV w46 hf
      refine sm_aload_n 0 rfl d_mo_pressStair_143 ?_
      refine sm_getR (n := 3) fl_mo_16 e0 rfl d_mo_pressStair_144 ?_
      refine sm_iconst (v := 5) (by decide) d_mo_pressStair_147 ?_
      obtain ⟨c47, hf⟩ := sm_gdE hf
      refine sm_iald (sm_at_arr (sm_inner e0 2 rfl rfl rfl)) c47 d_mo_pressStair_148 ?_
      refine sm_bipush (v := 30) (by decide) d_mo_pressStair_149 ?_
      refine sm_icmp_ne 178 d_mo_pressStair_151 rfl (fun c48 => ?_) (fun c48 => ?_)
      · have hf := sm_ifF c48 hf
        obtain rfl := sm_ret1 hf
        exact sm_vret d_mo_pressStair_178 rfl
      · have hf := sm_ifT c48 hf
        refine sm_aload_n 0 rfl d_mo_pressStair_154 ?_
        refine sm_getR (n := 3) fl_mo_16 e0 rfl d_mo_pressStair_155 ?_
        refine sm_bipush (v := 6) (by decide) d_mo_pressStair_158 ?_
        obtain ⟨c49, hf⟩ := sm_gdE hf
        refine sm_iald (sm_at_arr (sm_inner e0 2 rfl rfl rfl)) c49 d_mo_pressStair_160 ?_
        refine sm_if_ne 178 d_mo_pressStair_161 rfl (fun c50 => ?_) (fun c50 => ?_)
        · have hf := sm_ifF c50 hf
          obtain rfl := sm_ret1 hf
          exact sm_vret d_mo_pressStair_178 rfl
        · have hf := sm_ifT c50 hf
          refine sm_aload_n 0 rfl d_mo_pressStair_164 ?_
          refine sm_getR (n := 3) fl_mo_16 e0 rfl d_mo_pressStair_165 ?_
          refine sm_bipush (v := 6) (by decide) d_mo_pressStair_168 ?_
          refine sm_iconst (v := 1) (by decide) d_mo_pressStair_170 ?_
          obtain ⟨c51, hf⟩ := sm_gdE hf
          refine sm_iast (sm_at_arr (sm_inner e0 2 rfl rfl rfl)) c51 d_mo_pressStair_171 ?_
          refine sm_nmH (fun g52 w53 => ?_)
          have hf := sm_letV w53 hf
          refine sm_aload_n 0 rfl d_mo_pressStair_172 ?_
          refine sm_iconst (v := 3) (by decide) d_mo_pressStair_173 ?_
          refine sm_iconst (v := 0) (by decide) d_mo_pressStair_174 ?_
          obtain ⟨g54, c55, hf⟩ := sm_bindE hf
          refine sm_callV (As := [.int 3, .int 0]) (rv := none) (h1 := g54) (c := 10) cvv_mo_364 rfl rfl e0 (m_mo_record l lo hi _ e0 c55) rfl rfl d_mo_pressStair_175 ?_
          obtain rfl := sm_ret1 hf
          exact sm_vret d_mo_pressStair_178 rfl
    · have hf := sm_ifF c42 hf
      refine sm_sub [0] rfl ?_
      exact w_mo_pressStair_L121 l lo hi d _ _ e0 hf
theorem m_mo_pressStair (l : Launch) (lo hi d : Nat) {a0 : Nat} {h h' : sm_H} (e0 : sm_at lo hi (0, 10, 0) a0) (hf : f_mo_pressStair a0 h = some h') : sm_Met l lo hi (d + 3) q_mo_pressStair [.ref a0] h none h' := by
  refine sm_Met.of (by decide +kernel) rfl ?_
  show sm_W l lo hi (d + 3) q_mo_pressStair 0 [(0, .ref a0)] [] h none h'
  unfold f_mo_pressStair at hf
  refine sm_aload_n 0 rfl d_mo_pressStair_0 ?_
  refine sm_aload_n 0 rfl d_mo_pressStair_1 ?_
  obtain ⟨r1, g2, c3, hf⟩ := sm_b2E hf
  refine sm_callV (As := []) (rv := some (.int r1)) (h1 := g2) (c := 10) cvv_mo_376 rfl rfl e0 (m_mo_stairAir l lo hi _ e0 c3) rfl rfl d_mo_pressStair_2 ?_
  refine sm_aload_n 0 rfl d_mo_pressStair_5 ?_
  refine sm_getR (n := 3) fl_mo_16 e0 rfl d_mo_pressStair_6 ?_
  refine sm_iconst (v := 2) (by decide) d_mo_pressStair_9 ?_
  obtain ⟨c4, hf⟩ := sm_gdE hf
  refine sm_iald (sm_at_arr (sm_inner e0 2 rfl rfl rfl)) c4 d_mo_pressStair_10 ?_
  refine sm_imul d_mo_pressStair_11 ?_
  refine sm_bipush (v := 100) (by decide) d_mo_pressStair_12 ?_
  refine sm_idiv (by decide) d_mo_pressStair_14 ?_
  refine sm_putI fp_mo_379 e0 rfl rfl d_mo_pressStair_15 ?_
  refine sm_nmH (fun g5 w6 => ?_)
  have hf := sm_letV w6 hf
  refine sm_aload_n 0 rfl d_mo_pressStair_18 ?_
  refine sm_getI fl_mo_379 e0 rfl d_mo_pressStair_19 ?_
  refine sm_aload_n 0 rfl d_mo_pressStair_22 ?_
  refine sm_aload_n 0 rfl d_mo_pressStair_23 ?_
  obtain ⟨r7, g8, c9, hf⟩ := sm_b2E hf
  refine sm_callV (As := []) (rv := some (.int r7)) (h1 := g8) (c := 10) cvv_mo_382 rfl rfl e0 (m_mo_openDoors l lo hi _ e0 c9) rfl rfl d_mo_pressStair_24 ?_
  obtain ⟨r10, g11, c12, hf⟩ := sm_b2E hf
  refine sm_callV (As := [.int r7]) (rv := some (.int r10)) (h1 := g11) (c := 10) cvv_mo_385 rfl rfl e0 (m_mo_areaOf l lo hi _ e0 c12) rfl rfl d_mo_pressStair_27 ?_
  obtain ⟨r13, g14, c15, hf⟩ := sm_b2E hf
  refine sm_callS (As := [.int (g5 a0 31), .int r10]) (rv := some (.int r13)) (h1 := g14) cvs_mo_388 (m_mo_pressureBy l lo hi _ c15) rfl rfl d_mo_pressStair_30 ?_
  refine sm_istore_n (lv' := [(1, .int r13), (0, .ref a0)]) d_mo_pressStair_33 rfl rfl ?_
  refine sm_aload_n 1 rfl d_mo_pressStair_34 ?_
  refine sm_getR (n := 3) fl_mo_16 e0 rfl d_mo_pressStair_35 ?_
  refine sm_iconst (v := 3) (by decide) d_mo_pressStair_38 ?_
  refine sm_iload_n 0 rfl d_mo_pressStair_39 ?_
  obtain ⟨c16, hf⟩ := sm_gdE hf
  refine sm_iast (sm_at_arr (sm_inner e0 2 rfl rfl rfl)) c16 d_mo_pressStair_40 ?_
  refine sm_nmH (fun g17 w18 => ?_)
  have hf := sm_letV w18 hf
  refine sm_iload_n 0 rfl d_mo_pressStair_41 ?_
  refine sm_aload_n 1 rfl d_mo_pressStair_42 ?_
  refine sm_getR (n := 1) fl_mo_7 e0 rfl d_mo_pressStair_43 ?_
  refine sm_iconst (v := 5) (by decide) d_mo_pressStair_46 ?_
  obtain ⟨c19, hf⟩ := sm_gdE hf
  refine sm_iald (sm_at_arr (sm_inner e0 0 rfl rfl rfl)) c19 d_mo_pressStair_47 ?_
  refine sm_iconst (v := 5) (by decide) d_mo_pressStair_48 ?_
  refine sm_iadd d_mo_pressStair_49 ?_
  refine sm_icmp_le 75 d_mo_pressStair_50 rfl (fun c20 => ?_) (fun c20 => ?_)
  · have hf := sm_ifT c20 hf
    refine sm_iload_n 0 rfl d_mo_pressStair_75 ?_
    refine sm_aload_n 1 rfl d_mo_pressStair_76 ?_
    refine sm_getR (n := 1) fl_mo_7 e0 rfl d_mo_pressStair_77 ?_
    refine sm_iconst (v := 5) (by decide) d_mo_pressStair_80 ?_
    obtain ⟨c21, hf⟩ := sm_gdE hf
    refine sm_iald (sm_at_arr (sm_inner e0 0 rfl rfl rfl)) c21 d_mo_pressStair_81 ?_
    refine sm_icmp_ge 104 d_mo_pressStair_82 rfl (fun c22 => ?_) (fun c22 => ?_)
    · have hf := sm_ifT c22 hf
      refine sm_sub [1, 0] rfl ?_
      exact w_mo_pressStair_L104 l lo hi d _ _ _ e0 hf
    · have hf := sm_ifF c22 hf
      refine sm_aload_n 1 rfl d_mo_pressStair_85 ?_
      refine sm_getR (n := 3) fl_mo_16 e0 rfl d_mo_pressStair_86 ?_
      refine sm_iconst (v := 2) (by decide) d_mo_pressStair_89 ?_
      refine sm_bipush (v := 100) (by decide) d_mo_pressStair_90 ?_
      refine sm_aload_n 1 rfl d_mo_pressStair_92 ?_
      refine sm_getR (n := 3) fl_mo_16 e0 rfl d_mo_pressStair_93 ?_
      refine sm_iconst (v := 2) (by decide) d_mo_pressStair_96 ?_
      obtain ⟨c23, hf⟩ := sm_gdE hf
      refine sm_iald (sm_at_arr (sm_inner e0 2 rfl rfl rfl)) c23 d_mo_pressStair_97 ?_
      refine sm_iconst (v := 5) (by decide) d_mo_pressStair_98 ?_
      refine sm_iadd d_mo_pressStair_99 ?_
      obtain ⟨r24, g25, c26, hf⟩ := sm_b2E hf
      refine sm_callS (As := [.int 100, .int ((g17 (a0 + 3) (2 : Int32).toNatClampNeg) + 5)]) (rv := some (.int r24)) (h1 := g25) cvs_mo_361 (m_mo_lesser l lo hi _ c26) rfl rfl d_mo_pressStair_100 ?_
      obtain ⟨c27, hf⟩ := sm_gdE hf
      refine sm_iast (sm_at_arr (sm_inner e0 2 rfl rfl rfl)) c27 d_mo_pressStair_103 ?_
      refine sm_nmH (fun g28 w29 => ?_)
      have hf := sm_letV w29 hf
      refine sm_sub [1, 0] rfl ?_
      exact w_mo_pressStair_L104 l lo hi d _ _ _ e0 hf
  · have hf := sm_ifF c20 hf
    refine sm_aload_n 1 rfl d_mo_pressStair_53 ?_
    refine sm_getR (n := 3) fl_mo_16 e0 rfl d_mo_pressStair_54 ?_
    refine sm_iconst (v := 2) (by decide) d_mo_pressStair_57 ?_
    refine sm_bipush (v := 20) (by decide) d_mo_pressStair_58 ?_
    refine sm_aload_n 1 rfl d_mo_pressStair_60 ?_
    refine sm_getR (n := 3) fl_mo_16 e0 rfl d_mo_pressStair_61 ?_
    refine sm_iconst (v := 2) (by decide) d_mo_pressStair_64 ?_
    obtain ⟨c30, hf⟩ := sm_gdE hf
    refine sm_iald (sm_at_arr (sm_inner e0 2 rfl rfl rfl)) c30 d_mo_pressStair_65 ?_
    refine sm_iconst (v := 5) (by decide) d_mo_pressStair_66 ?_
    refine sm_isub d_mo_pressStair_67 ?_
    obtain ⟨r31, g32, c33, hf⟩ := sm_b2E hf
    refine sm_callS (As := [.int 20, .int ((g17 (a0 + 3) (2 : Int32).toNatClampNeg) - 5)]) (rv := some (.int r31)) (h1 := g32) cvs_mo_370 (m_mo_greater l lo hi _ c33) rfl rfl d_mo_pressStair_68 ?_
    obtain ⟨c34, hf⟩ := sm_gdE hf
    refine sm_iast (sm_at_arr (sm_inner e0 2 rfl rfl rfl)) c34 d_mo_pressStair_71 ?_
    refine sm_nmH (fun g35 w36 => ?_)
    have hf := sm_letV w36 hf
    refine sm_goto 104 d_mo_pressStair_72 rfl ?_
    refine sm_sub [1, 0] rfl ?_
    exact w_mo_pressStair_L104 l lo hi d _ _ _ e0 hf
theorem d_mo_drain_0 : decode q_mo_drain.2.1 0 = .ok (.iconst 0, 1) := by decide +kernel
theorem d_mo_drain_1 : decode q_mo_drain.2.1 1 = .ok (.sipush 500, 3) := by decide +kernel
theorem d_mo_drain_4 : decode q_mo_drain.2.1 4 = .ok (.bipush 100, 2) := by decide +kernel
theorem d_mo_drain_6 : decode q_mo_drain.2.1 6 = .ok (.aload_n 0, 1) := by decide +kernel
theorem d_mo_drain_7 : decode q_mo_drain.2.1 7 = .ok (.getfield 63, 3) := by decide +kernel
theorem d_mo_drain_10 : decode q_mo_drain.2.1 10 = .ok (.iload_n 1, 1) := by decide +kernel
theorem d_mo_drain_11 : decode q_mo_drain.2.1 11 = .ok (.iaload, 1) := by decide +kernel
theorem d_mo_drain_12 : decode q_mo_drain.2.1 12 = .ok (.iadd, 1) := by decide +kernel
theorem d_mo_drain_13 : decode q_mo_drain.2.1 13 = .ok (.aload_n 0, 1) := by decide +kernel
theorem d_mo_drain_14 : decode q_mo_drain.2.1 14 = .ok (.getfield 63, 3) := by decide +kernel
theorem d_mo_drain_17 : decode q_mo_drain.2.1 17 = .ok (.iload_n 2, 1) := by decide +kernel
theorem d_mo_drain_18 : decode q_mo_drain.2.1 18 = .ok (.iaload, 1) := by decide +kernel
theorem d_mo_drain_19 : decode q_mo_drain.2.1 19 = .ok (.isub, 1) := by decide +kernel
theorem d_mo_drain_20 : decode q_mo_drain.2.1 20 = .ok (.invokestatic 361, 3) := by decide +kernel
theorem d_mo_drain_23 : decode q_mo_drain.2.1 23 = .ok (.invokestatic 370, 3) := by decide +kernel
theorem d_mo_drain_26 : decode q_mo_drain.2.1 26 = .ok (.istore_n 3, 1) := by decide +kernel
theorem d_mo_drain_27 : decode q_mo_drain.2.1 27 = .ok (.aload_n 0, 1) := by decide +kernel
theorem d_mo_drain_28 : decode q_mo_drain.2.1 28 = .ok (.getfield 57, 3) := by decide +kernel
theorem d_mo_drain_31 : decode q_mo_drain.2.1 31 = .ok (.iload_n 1, 1) := by decide +kernel
theorem d_mo_drain_32 : decode q_mo_drain.2.1 32 = .ok (.iaload, 1) := by decide +kernel
theorem d_mo_drain_33 : decode q_mo_drain.2.1 33 = .ok (.iload_n 3, 1) := by decide +kernel
theorem d_mo_drain_34 : decode q_mo_drain.2.1 34 = .ok (.imul, 1) := by decide +kernel
theorem d_mo_drain_35 : decode q_mo_drain.2.1 35 = .ok (.sipush 5000, 3) := by decide +kernel
theorem d_mo_drain_38 : decode q_mo_drain.2.1 38 = .ok (.idiv, 1) := by decide +kernel
theorem d_mo_drain_39 : decode q_mo_drain.2.1 39 = .ok (.istore 4, 2) := by decide +kernel
theorem d_mo_drain_41 : decode q_mo_drain.2.1 41 = .ok (.aload_n 0, 1) := by decide +kernel
theorem d_mo_drain_42 : decode q_mo_drain.2.1 42 = .ok (.getfield 60, 3) := by decide +kernel
theorem d_mo_drain_45 : decode q_mo_drain.2.1 45 = .ok (.iload_n 1, 1) := by decide +kernel
theorem d_mo_drain_46 : decode q_mo_drain.2.1 46 = .ok (.aload_n 0, 1) := by decide +kernel
theorem d_mo_drain_47 : decode q_mo_drain.2.1 47 = .ok (.getfield 60, 3) := by decide +kernel
theorem d_mo_drain_50 : decode q_mo_drain.2.1 50 = .ok (.iload_n 1, 1) := by decide +kernel
theorem d_mo_drain_51 : decode q_mo_drain.2.1 51 = .ok (.iaload, 1) := by decide +kernel
theorem d_mo_drain_52 : decode q_mo_drain.2.1 52 = .ok (.iload 4, 2) := by decide +kernel
theorem d_mo_drain_54 : decode q_mo_drain.2.1 54 = .ok (.isub, 1) := by decide +kernel
theorem d_mo_drain_55 : decode q_mo_drain.2.1 55 = .ok (.iastore, 1) := by decide +kernel
theorem d_mo_drain_56 : decode q_mo_drain.2.1 56 = .ok (.aload_n 0, 1) := by decide +kernel
theorem d_mo_drain_57 : decode q_mo_drain.2.1 57 = .ok (.getfield 60, 3) := by decide +kernel
theorem d_mo_drain_60 : decode q_mo_drain.2.1 60 = .ok (.iload_n 2, 1) := by decide +kernel
theorem d_mo_drain_61 : decode q_mo_drain.2.1 61 = .ok (.aload_n 0, 1) := by decide +kernel
theorem d_mo_drain_62 : decode q_mo_drain.2.1 62 = .ok (.getfield 60, 3) := by decide +kernel
theorem d_mo_drain_65 : decode q_mo_drain.2.1 65 = .ok (.iload_n 2, 1) := by decide +kernel
theorem d_mo_drain_66 : decode q_mo_drain.2.1 66 = .ok (.iaload, 1) := by decide +kernel
theorem d_mo_drain_67 : decode q_mo_drain.2.1 67 = .ok (.iload 4, 2) := by decide +kernel
theorem d_mo_drain_69 : decode q_mo_drain.2.1 69 = .ok (.iadd, 1) := by decide +kernel
theorem d_mo_drain_70 : decode q_mo_drain.2.1 70 = .ok (.iastore, 1) := by decide +kernel
theorem d_mo_drain_71 : decode q_mo_drain.2.1 71 = .ok (.return_, 1) := by decide +kernel
theorem m_mo_drain (l : Launch) (lo hi d : Nat) {a0 : Nat} {a1 : Int32} {a2 : Int32} {h h' : sm_H} (e0 : sm_at lo hi (0, 10, 0) a0) (hf : f_mo_drain a0 a1 a2 h = some h') : sm_Met l lo hi (d + 1) q_mo_drain [.ref a0, .int a1, .int a2] h none h' := by
  refine sm_Met.of (by decide +kernel) rfl ?_
  show sm_W l lo hi (d + 1) q_mo_drain 0 [(0, .ref a0), (1, .int a1), (2, .int a2)] [] h none h'
  unfold f_mo_drain at hf
  refine sm_iconst (v := 0) (by decide) d_mo_drain_0 ?_
  refine sm_sipush (v := 500) (by decide) d_mo_drain_1 ?_
  refine sm_bipush (v := 100) (by decide) d_mo_drain_4 ?_
  refine sm_aload_n 0 rfl d_mo_drain_6 ?_
  refine sm_getR (n := 17) fl_mo_63 e0 rfl d_mo_drain_7 ?_
  refine sm_iload_n 1 rfl d_mo_drain_10 ?_
  obtain ⟨c1, hf⟩ := sm_gdE hf
  refine sm_iald (sm_at_arr (sm_inner e0 34 rfl rfl rfl)) c1 d_mo_drain_11 ?_
  refine sm_iadd d_mo_drain_12 ?_
  refine sm_aload_n 0 rfl d_mo_drain_13 ?_
  refine sm_getR (n := 17) fl_mo_63 e0 rfl d_mo_drain_14 ?_
  refine sm_iload_n 2 rfl d_mo_drain_17 ?_
  obtain ⟨c2, hf⟩ := sm_gdE hf
  refine sm_iald (sm_at_arr (sm_inner e0 34 rfl rfl rfl)) c2 d_mo_drain_18 ?_
  refine sm_isub d_mo_drain_19 ?_
  obtain ⟨r3, g4, c5, hf⟩ := sm_b2E hf
  refine sm_callS (As := [.int 500, .int ((100 + (h (a0 + 17) (a1 : Int32).toNatClampNeg)) - (h (a0 + 17) (a2 : Int32).toNatClampNeg))]) (rv := some (.int r3)) (h1 := g4) cvs_mo_361 (m_mo_lesser l lo hi _ c5) rfl rfl d_mo_drain_20 ?_
  obtain ⟨r6, g7, c8, hf⟩ := sm_b2E hf
  refine sm_callS (As := [.int 0, .int r3]) (rv := some (.int r6)) (h1 := g7) cvs_mo_370 (m_mo_greater l lo hi _ c8) rfl rfl d_mo_drain_23 ?_
  refine sm_istore_n (lv' := [(3, .int r6), (0, .ref a0), (1, .int a1), (2, .int a2)]) d_mo_drain_26 rfl rfl ?_
  refine sm_aload_n 1 rfl d_mo_drain_27 ?_
  refine sm_getR (n := 15) fl_mo_57 e0 rfl d_mo_drain_28 ?_
  refine sm_iload_n 2 rfl d_mo_drain_31 ?_
  obtain ⟨c9, hf⟩ := sm_gdE hf
  refine sm_iald (sm_at_arr (sm_inner e0 32 rfl rfl rfl)) c9 d_mo_drain_32 ?_
  refine sm_iload_n 0 rfl d_mo_drain_33 ?_
  refine sm_imul d_mo_drain_34 ?_
  refine sm_sipush (v := 5000) (by decide) d_mo_drain_35 ?_
  refine sm_idiv (by decide) d_mo_drain_38 ?_
  refine sm_nmI (fun x10 w11 => ?_)
  have hf := sm_letV w11 hf
  refine sm_istore (lv' := [(4, .int x10), (3, .int r6), (0, .ref a0), (1, .int a1), (2, .int a2)]) d_mo_drain_39 rfl rfl ?_
  refine sm_aload_n 2 rfl d_mo_drain_41 ?_
  refine sm_getR (n := 16) fl_mo_60 e0 rfl d_mo_drain_42 ?_
  refine sm_iload_n 3 rfl d_mo_drain_45 ?_
  refine sm_aload_n 2 rfl d_mo_drain_46 ?_
  refine sm_getR (n := 16) fl_mo_60 e0 rfl d_mo_drain_47 ?_
  refine sm_iload_n 3 rfl d_mo_drain_50 ?_
  obtain ⟨c12, hf⟩ := sm_gdE hf
  refine sm_iald (sm_at_arr (sm_inner e0 33 rfl rfl rfl)) c12 d_mo_drain_51 ?_
  refine sm_iload 0 rfl d_mo_drain_52 ?_
  refine sm_isub d_mo_drain_54 ?_
  obtain ⟨c13, hf⟩ := sm_gdE hf
  refine sm_iast (sm_at_arr (sm_inner e0 33 rfl rfl rfl)) c13 d_mo_drain_55 ?_
  refine sm_nmH (fun g14 w15 => ?_)
  have hf := sm_letV w15 hf
  refine sm_aload_n 2 rfl d_mo_drain_56 ?_
  refine sm_getR (n := 16) fl_mo_60 e0 rfl d_mo_drain_57 ?_
  refine sm_iload_n 4 rfl d_mo_drain_60 ?_
  refine sm_aload_n 2 rfl d_mo_drain_61 ?_
  refine sm_getR (n := 16) fl_mo_60 e0 rfl d_mo_drain_62 ?_
  refine sm_iload_n 4 rfl d_mo_drain_65 ?_
  obtain ⟨c16, hf⟩ := sm_gdE hf
  refine sm_iald (sm_at_arr (sm_inner e0 33 rfl rfl rfl)) c16 d_mo_drain_66 ?_
  refine sm_iload 0 rfl d_mo_drain_67 ?_
  refine sm_iadd d_mo_drain_69 ?_
  obtain ⟨c17, hf⟩ := sm_gdE hf
  refine sm_iast (sm_at_arr (sm_inner e0 33 rfl rfl rfl)) c17 d_mo_drain_70 ?_
  refine sm_nmH (fun g18 w19 => ?_)
  have hf := sm_letV w19 hf
  obtain rfl := sm_ret1 hf
  exact sm_vret d_mo_drain_71 rfl
theorem d_mo_leakSmoke_0 : decode q_mo_leakSmoke.2.1 0 = .ok (.aload_n 0, 1) := by decide +kernel
theorem d_mo_leakSmoke_1 : decode q_mo_leakSmoke.2.1 1 = .ok (.getfield 16, 3) := by decide +kernel
theorem d_mo_leakSmoke_4 : decode q_mo_leakSmoke.2.1 4 = .ok (.iconst 4, 1) := by decide +kernel
theorem d_mo_leakSmoke_5 : decode q_mo_leakSmoke.2.1 5 = .ok (.iaload, 1) := by decide +kernel
theorem d_mo_leakSmoke_6 : decode q_mo_leakSmoke.2.1 6 = .ok (.istore_n 1, 1) := by decide +kernel
theorem d_mo_leakSmoke_7 : decode q_mo_leakSmoke.2.1 7 = .ok (.iconst 0, 1) := by decide +kernel
theorem d_mo_leakSmoke_8 : decode q_mo_leakSmoke.2.1 8 = .ok (.istore_n 2, 1) := by decide +kernel
theorem d_mo_leakSmoke_9 : decode q_mo_leakSmoke.2.1 9 = .ok (.iload_n 2, 1) := by decide +kernel
theorem d_mo_leakSmoke_10 : decode q_mo_leakSmoke.2.1 10 = .ok (.aload_n 0, 1) := by decide +kernel
theorem d_mo_leakSmoke_11 : decode q_mo_leakSmoke.2.1 11 = .ok (.getfield 7, 3) := by decide +kernel
theorem d_mo_leakSmoke_14 : decode q_mo_leakSmoke.2.1 14 = .ok (.iconst 3, 1) := by decide +kernel
theorem d_mo_leakSmoke_15 : decode q_mo_leakSmoke.2.1 15 = .ok (.iaload, 1) := by decide +kernel
theorem d_mo_leakSmoke_16 : decode q_mo_leakSmoke.2.1 16 = .ok (.if_icmp .ge 69, 3) := by decide +kernel
theorem d_mo_leakSmoke_19 : decode q_mo_leakSmoke.2.1 19 = .ok (.aload_n 0, 1) := by decide +kernel
theorem d_mo_leakSmoke_20 : decode q_mo_leakSmoke.2.1 20 = .ok (.getfield 16, 3) := by decide +kernel
theorem d_mo_leakSmoke_23 : decode q_mo_leakSmoke.2.1 23 = .ok (.iconst 3, 1) := by decide +kernel
theorem d_mo_leakSmoke_24 : decode q_mo_leakSmoke.2.1 24 = .ok (.iaload, 1) := by decide +kernel
theorem d_mo_leakSmoke_25 : decode q_mo_leakSmoke.2.1 25 = .ok (.bipush 12, 2) := by decide +kernel
theorem d_mo_leakSmoke_27 : decode q_mo_leakSmoke.2.1 27 = .ok (.if_icmp .ge 58, 3) := by decide +kernel
theorem d_mo_leakSmoke_30 : decode q_mo_leakSmoke.2.1 30 = .ok (.iload_n 1, 1) := by decide +kernel
theorem d_mo_leakSmoke_31 : decode q_mo_leakSmoke.2.1 31 = .ok (.aload_n 0, 1) := by decide +kernel
theorem d_mo_leakSmoke_32 : decode q_mo_leakSmoke.2.1 32 = .ok (.getfield 57, 3) := by decide +kernel
theorem d_mo_leakSmoke_35 : decode q_mo_leakSmoke.2.1 35 = .ok (.aload_n 0, 1) := by decide +kernel
theorem d_mo_leakSmoke_36 : decode q_mo_leakSmoke.2.1 36 = .ok (.iload_n 2, 1) := by decide +kernel
theorem d_mo_leakSmoke_37 : decode q_mo_leakSmoke.2.1 37 = .ok (.iconst 0, 1) := by decide +kernel
theorem d_mo_leakSmoke_38 : decode q_mo_leakSmoke.2.1 38 = .ok (.invokevirtual 358, 3) := by decide +kernel
theorem d_mo_leakSmoke_41 : decode q_mo_leakSmoke.2.1 41 = .ok (.iaload, 1) := by decide +kernel
theorem d_mo_leakSmoke_42 : decode q_mo_leakSmoke.2.1 42 = .ok (.bipush 12, 2) := by decide +kernel
theorem d_mo_leakSmoke_44 : decode q_mo_leakSmoke.2.1 44 = .ok (.aload_n 0, 1) := by decide +kernel
theorem d_mo_leakSmoke_45 : decode q_mo_leakSmoke.2.1 45 = .ok (.getfield 16, 3) := by decide +kernel
theorem d_mo_leakSmoke_48 : decode q_mo_leakSmoke.2.1 48 = .ok (.iconst 3, 1) := by decide +kernel
theorem d_mo_leakSmoke_49 : decode q_mo_leakSmoke.2.1 49 = .ok (.iaload, 1) := by decide +kernel
theorem d_mo_leakSmoke_50 : decode q_mo_leakSmoke.2.1 50 = .ok (.isub, 1) := by decide +kernel
theorem d_mo_leakSmoke_51 : decode q_mo_leakSmoke.2.1 51 = .ok (.imul, 1) := by decide +kernel
theorem d_mo_leakSmoke_52 : decode q_mo_leakSmoke.2.1 52 = .ok (.aload_n 0, 1) := by decide +kernel
theorem d_mo_leakSmoke_53 : decode q_mo_leakSmoke.2.1 53 = .ok (.getfield 16, 3) := by decide +kernel
theorem d_mo_leakSmoke_56 : decode q_mo_leakSmoke.2.1 56 = .ok (.sipush 190, 3) := by decide +kernel
theorem d_mo_leakSmoke_59 : decode q_mo_leakSmoke.2.1 59 = .ok (.iload_n 2, 1) := by decide +kernel
theorem d_mo_leakSmoke_60 : decode q_mo_leakSmoke.2.1 60 = .ok (.iadd, 1) := by decide +kernel
theorem d_mo_leakSmoke_61 : decode q_mo_leakSmoke.2.1 61 = .ok (.iaload, 1) := by decide +kernel
theorem d_mo_leakSmoke_62 : decode q_mo_leakSmoke.2.1 62 = .ok (.iconst 1, 1) := by decide +kernel
theorem d_mo_leakSmoke_63 : decode q_mo_leakSmoke.2.1 63 = .ok (.if_icmp .ne 8, 3) := by decide +kernel
theorem d_mo_leakSmoke_66 : decode q_mo_leakSmoke.2.1 66 = .ok (.bipush 20, 2) := by decide +kernel
theorem d_mo_leakSmoke_68 : decode q_mo_leakSmoke.2.1 68 = .ok (.goto 4, 3) := by decide +kernel
theorem d_mo_leakSmoke_71 : decode q_mo_leakSmoke.2.1 71 = .ok (.iconst 1, 1) := by decide +kernel
theorem d_mo_leakSmoke_72 : decode q_mo_leakSmoke.2.1 72 = .ok (.imul, 1) := by decide +kernel
theorem d_mo_leakSmoke_73 : decode q_mo_leakSmoke.2.1 73 = .ok (.sipush 2400, 3) := by decide +kernel
theorem d_mo_leakSmoke_76 : decode q_mo_leakSmoke.2.1 76 = .ok (.idiv, 1) := by decide +kernel
theorem d_mo_leakSmoke_77 : decode q_mo_leakSmoke.2.1 77 = .ok (.iadd, 1) := by decide +kernel
theorem d_mo_leakSmoke_78 : decode q_mo_leakSmoke.2.1 78 = .ok (.istore_n 1, 1) := by decide +kernel
theorem d_mo_leakSmoke_79 : decode q_mo_leakSmoke.2.1 79 = .ok (.iinc 2 1, 3) := by decide +kernel
theorem d_mo_leakSmoke_82 : decode q_mo_leakSmoke.2.1 82 = .ok (.goto (-73), 3) := by decide +kernel
theorem d_mo_leakSmoke_85 : decode q_mo_leakSmoke.2.1 85 = .ok (.sipush 1000, 3) := by decide +kernel
theorem d_mo_leakSmoke_88 : decode q_mo_leakSmoke.2.1 88 = .ok (.iload_n 1, 1) := by decide +kernel
theorem d_mo_leakSmoke_89 : decode q_mo_leakSmoke.2.1 89 = .ok (.invokestatic 361, 3) := by decide +kernel
theorem d_mo_leakSmoke_92 : decode q_mo_leakSmoke.2.1 92 = .ok (.istore_n 1, 1) := by decide +kernel
theorem d_mo_leakSmoke_93 : decode q_mo_leakSmoke.2.1 93 = .ok (.aload_n 0, 1) := by decide +kernel
theorem d_mo_leakSmoke_94 : decode q_mo_leakSmoke.2.1 94 = .ok (.getfield 16, 3) := by decide +kernel
theorem d_mo_leakSmoke_97 : decode q_mo_leakSmoke.2.1 97 = .ok (.iconst 4, 1) := by decide +kernel
theorem d_mo_leakSmoke_98 : decode q_mo_leakSmoke.2.1 98 = .ok (.iload_n 1, 1) := by decide +kernel
theorem d_mo_leakSmoke_99 : decode q_mo_leakSmoke.2.1 99 = .ok (.iload_n 1, 1) := by decide +kernel
theorem d_mo_leakSmoke_100 : decode q_mo_leakSmoke.2.1 100 = .ok (.sipush 1000, 3) := by decide +kernel
theorem d_mo_leakSmoke_103 : decode q_mo_leakSmoke.2.1 103 = .ok (.aload_n 0, 1) := by decide +kernel
theorem d_mo_leakSmoke_104 : decode q_mo_leakSmoke.2.1 104 = .ok (.getfield 379, 3) := by decide +kernel
theorem d_mo_leakSmoke_107 : decode q_mo_leakSmoke.2.1 107 = .ok (.invokestatic 361, 3) := by decide +kernel
theorem d_mo_leakSmoke_110 : decode q_mo_leakSmoke.2.1 110 = .ok (.imul, 1) := by decide +kernel
theorem d_mo_leakSmoke_111 : decode q_mo_leakSmoke.2.1 111 = .ok (.sipush 4000, 3) := by decide +kernel
theorem d_mo_leakSmoke_114 : decode q_mo_leakSmoke.2.1 114 = .ok (.idiv, 1) := by decide +kernel
theorem d_mo_leakSmoke_115 : decode q_mo_leakSmoke.2.1 115 = .ok (.isub, 1) := by decide +kernel
theorem d_mo_leakSmoke_116 : decode q_mo_leakSmoke.2.1 116 = .ok (.iastore, 1) := by decide +kernel
theorem d_mo_leakSmoke_117 : decode q_mo_leakSmoke.2.1 117 = .ok (.return_, 1) := by decide +kernel
theorem w_mo_leakSmoke_L85 (l : Launch) (lo hi d : Nat) {h' : sm_H} (a0 : Nat) (a1 : Int32) (h : sm_H) (e0 : sm_at lo hi (0, 10, 0) a0) (hf : f_mo_leakSmoke_L85 a0 a1 h = some h') : sm_W l lo hi (d + 1) q_mo_leakSmoke 85 [(0, .ref a0), (1, .int a1)] [] h none h' := by
  unfold f_mo_leakSmoke_L85 at hf
  refine sm_sipush (v := 1000) (by decide) d_mo_leakSmoke_85 ?_
  refine sm_iload_n 1 rfl d_mo_leakSmoke_88 ?_
  obtain ⟨r19, g20, c21, hf⟩ := sm_b2E hf
  refine sm_callS (As := [.int 1000, .int a1]) (rv := some (.int r19)) (h1 := g20) cvs_mo_361 (m_mo_lesser l lo hi _ c21) rfl rfl d_mo_leakSmoke_89 ?_
  refine sm_istore_n (lv' := [(1, .int r19), (0, .ref a0)]) d_mo_leakSmoke_92 rfl rfl ?_
  refine sm_aload_n 1 rfl d_mo_leakSmoke_93 ?_
  refine sm_getR (n := 3) fl_mo_16 e0 rfl d_mo_leakSmoke_94 ?_
  refine sm_iconst (v := 4) (by decide) d_mo_leakSmoke_97 ?_
  refine sm_iload_n 0 rfl d_mo_leakSmoke_98 ?_
  refine sm_iload_n 0 rfl d_mo_leakSmoke_99 ?_
  refine sm_sipush (v := 1000) (by decide) d_mo_leakSmoke_100 ?_
  refine sm_aload_n 1 rfl d_mo_leakSmoke_103 ?_
  refine sm_getI fl_mo_379 e0 rfl d_mo_leakSmoke_104 ?_
  obtain ⟨r22, g23, c24, hf⟩ := sm_b2E hf
  refine sm_callS (As := [.int 1000, .int (g20 a0 31)]) (rv := some (.int r22)) (h1 := g23) cvs_mo_361 (m_mo_lesser l lo hi _ c24) rfl rfl d_mo_leakSmoke_107 ?_
  refine sm_imul d_mo_leakSmoke_110 ?_
  refine sm_sipush (v := 4000) (by decide) d_mo_leakSmoke_111 ?_
  refine sm_idiv (by decide) d_mo_leakSmoke_114 ?_
  refine sm_isub d_mo_leakSmoke_115 ?_
  obtain ⟨c25, hf⟩ := sm_gdE hf
  refine sm_iast (sm_at_arr (sm_inner e0 2 rfl rfl rfl)) c25 d_mo_leakSmoke_116 ?_
  refine sm_nmH (fun g26 w27 => ?_)
  have hf := sm_letV w27 hf
  obtain rfl := sm_ret1 hf
  exact sm_vret d_mo_leakSmoke_117 rfl
theorem w_mo_leakSmoke_L72 (l : Launch) (lo hi d : Nat) {k9 : Nat → Int32 → Int32 → sm_H → Option sm_H} {h' : sm_H} (hk9 : ∀ (a0 : Nat) (a1 : Int32) (a2 : Int32) (h : sm_H) (_ : sm_at lo hi (0, 10, 0) a0) , k9 a0 a1 a2 h = some h' → sm_W l lo hi (d + 1) q_mo_leakSmoke 9 [(0, .ref a0), (1, .int a1), (2, .int a2)] [] h none h') (a0 : Nat) (a2 : Int32) (s0 : Int32) (s1 : Int32) (s2 : Int32) (h : sm_H) (e0 : sm_at lo hi (0, 10, 0) a0) (hf : f_mo_leakSmoke_L72 k9 a0 a2 s0 s1 s2 h = some h') : sm_W l lo hi (d + 1) q_mo_leakSmoke 72 [(0, .ref a0), (2, .int a2)] [.int s0, .int s1, .int s2] h none h' := by
  unfold f_mo_leakSmoke_L72 at hf
  refine sm_imul d_mo_leakSmoke_72 ?_
  refine sm_sipush (v := 2400) (by decide) d_mo_leakSmoke_73 ?_
  refine sm_idiv (by decide) d_mo_leakSmoke_76 ?_
  refine sm_iadd d_mo_leakSmoke_77 ?_
  refine sm_nmI (fun x15 w16 => ?_)
  have hf := sm_letV w16 hf
  refine sm_istore_n (lv' := [(1, .int x15), (0, .ref a0), (2, .int a2)]) d_mo_leakSmoke_78 rfl rfl ?_
  obtain ⟨x17, w18⟩ : ∃ v : Int32, v = a2 + 1 := ⟨_, rfl⟩
  have hf := sm_letV w18 hf
  refine sm_iinc (v := x17) (lv' := [(2, .int x17), (1, .int x15), (0, .ref a0)]) 2 rfl (by rw [w18]; rfl) d_mo_leakSmoke_79 rfl rfl ?_
  refine sm_goto 9 d_mo_leakSmoke_82 rfl ?_
  refine sm_sub [2, 1, 0] rfl ?_
  exact hk9 _ _ _ _ e0 hf
theorem w_mo_leakSmoke_L9 (l : Launch) (lo hi d : Nat) {h' : sm_H} : ∀ (n : Nat) (a0 : Nat) (a1 : Int32) (a2 : Int32) (h : sm_H) (e0 : sm_at lo hi (0, 10, 0) a0) (hf : f_mo_leakSmoke_L9 n a0 a1 a2 h = some h'), sm_W l lo hi (d + 1) q_mo_leakSmoke 9 [(0, .ref a0), (1, .int a1), (2, .int a2)] [] h none h' := by
  intro n
  induction n with
  | zero =>
    intro a0 a1 a2 h e0 hf
    have z : (none : Option sm_H) = some _ := hf
    cases z
  | succ n ih =>
    intro a0 a1 a2 h e0 hf
    unfold f_mo_leakSmoke_L9 at hf
    refine sm_iload_n 2 rfl d_mo_leakSmoke_9 ?_
    refine sm_aload_n 0 rfl d_mo_leakSmoke_10 ?_
    refine sm_getR (n := 1) fl_mo_7 e0 rfl d_mo_leakSmoke_11 ?_
    refine sm_iconst (v := 3) (by decide) d_mo_leakSmoke_14 ?_
    obtain ⟨c4, hf⟩ := sm_gdE hf
    refine sm_iald (sm_at_arr (sm_inner e0 0 rfl rfl rfl)) c4 d_mo_leakSmoke_15 ?_
    refine sm_icmp_ge 85 d_mo_leakSmoke_16 rfl (fun c5 => ?_) (fun c5 => ?_)
    · have hf := sm_ifT c5 hf
      refine sm_sub [0, 1] rfl ?_
      exact w_mo_leakSmoke_L85 l lo hi d _ _ _ e0 hf
    · have hf := sm_ifF c5 hf
      refine sm_aload_n 0 rfl d_mo_leakSmoke_19 ?_
      refine sm_getR (n := 3) fl_mo_16 e0 rfl d_mo_leakSmoke_20 ?_
      refine sm_iconst (v := 3) (by decide) d_mo_leakSmoke_23 ?_
      obtain ⟨c6, hf⟩ := sm_gdE hf
      refine sm_iald (sm_at_arr (sm_inner e0 2 rfl rfl rfl)) c6 d_mo_leakSmoke_24 ?_
      refine sm_bipush (v := 12) (by decide) d_mo_leakSmoke_25 ?_
      refine sm_icmp_ge 85 d_mo_leakSmoke_27 rfl (fun c7 => ?_) (fun c7 => ?_)
      · have hf := sm_ifT c7 hf
        refine sm_sub [0, 1] rfl ?_
        exact w_mo_leakSmoke_L85 l lo hi d _ _ _ e0 hf
      · have hf := sm_ifF c7 hf
        refine sm_iload_n 1 rfl d_mo_leakSmoke_30 ?_
        refine sm_aload_n 0 rfl d_mo_leakSmoke_31 ?_
        refine sm_getR (n := 15) fl_mo_57 e0 rfl d_mo_leakSmoke_32 ?_
        refine sm_aload_n 0 rfl d_mo_leakSmoke_35 ?_
        refine sm_iload_n 2 rfl d_mo_leakSmoke_36 ?_
        refine sm_iconst (v := 0) (by decide) d_mo_leakSmoke_37 ?_
        obtain ⟨r8, g9, c10, hf⟩ := sm_b2E hf
        refine sm_callV (As := [.int a2, .int 0]) (rv := some (.int r8)) (h1 := g9) (c := 10) cvv_mo_358 rfl rfl e0 (m_mo_doorOf l lo hi _ e0 c10) rfl rfl d_mo_leakSmoke_38 ?_
        obtain ⟨c11, hf⟩ := sm_gdE hf
        refine sm_iald (sm_at_arr (sm_inner e0 32 rfl rfl rfl)) c11 d_mo_leakSmoke_41 ?_
        refine sm_bipush (v := 12) (by decide) d_mo_leakSmoke_42 ?_
        refine sm_aload_n 0 rfl d_mo_leakSmoke_44 ?_
        refine sm_getR (n := 3) fl_mo_16 e0 rfl d_mo_leakSmoke_45 ?_
        refine sm_iconst (v := 3) (by decide) d_mo_leakSmoke_48 ?_
        obtain ⟨c12, hf⟩ := sm_gdE hf
        refine sm_iald (sm_at_arr (sm_inner e0 2 rfl rfl rfl)) c12 d_mo_leakSmoke_49 ?_
        refine sm_isub d_mo_leakSmoke_50 ?_
        refine sm_imul d_mo_leakSmoke_51 ?_
        refine sm_aload_n 0 rfl d_mo_leakSmoke_52 ?_
        refine sm_getR (n := 3) fl_mo_16 e0 rfl d_mo_leakSmoke_53 ?_
        refine sm_sipush (v := 190) (by decide) d_mo_leakSmoke_56 ?_
        refine sm_iload_n 2 rfl d_mo_leakSmoke_59 ?_
        refine sm_iadd d_mo_leakSmoke_60 ?_
        obtain ⟨c13, hf⟩ := sm_gdE hf
        refine sm_iald (sm_at_arr (sm_inner e0 2 rfl rfl rfl)) c13 d_mo_leakSmoke_61 ?_
        refine sm_iconst (v := 1) (by decide) d_mo_leakSmoke_62 ?_
        refine sm_icmp_ne 71 d_mo_leakSmoke_63 rfl (fun c14 => ?_) (fun c14 => ?_)
        · have hf := sm_ifF c14 hf
          refine sm_iconst (v := 1) (by decide) d_mo_leakSmoke_71 ?_
          refine sm_sub [0, 2] rfl ?_
          exact w_mo_leakSmoke_L72 l lo hi d ih _ _ _ _ _ _ e0 hf
        · have hf := sm_ifT c14 hf
          refine sm_bipush (v := 20) (by decide) d_mo_leakSmoke_66 ?_
          refine sm_goto 72 d_mo_leakSmoke_68 rfl ?_
          refine sm_sub [0, 2] rfl ?_
          exact w_mo_leakSmoke_L72 l lo hi d ih _ _ _ _ _ _ e0 hf
theorem m_mo_leakSmoke (l : Launch) (lo hi d : Nat) {a0 : Nat} {h h' : sm_H} (e0 : sm_at lo hi (0, 10, 0) a0) (hf : f_mo_leakSmoke a0 h = some h') : sm_Met l lo hi (d + 1) q_mo_leakSmoke [.ref a0] h none h' := by
  refine sm_Met.of (by decide +kernel) rfl ?_
  show sm_W l lo hi (d + 1) q_mo_leakSmoke 0 [(0, .ref a0)] [] h none h'
  unfold f_mo_leakSmoke at hf
  refine sm_aload_n 0 rfl d_mo_leakSmoke_0 ?_
  refine sm_getR (n := 3) fl_mo_16 e0 rfl d_mo_leakSmoke_1 ?_
  refine sm_iconst (v := 4) (by decide) d_mo_leakSmoke_4 ?_
  obtain ⟨c1, hf⟩ := sm_gdE hf
  refine sm_iald (sm_at_arr (sm_inner e0 2 rfl rfl rfl)) c1 d_mo_leakSmoke_5 ?_
  refine sm_nmI (fun x2 w3 => ?_)
  have hf := sm_letV w3 hf
  refine sm_istore_n (lv' := [(1, .int x2), (0, .ref a0)]) d_mo_leakSmoke_6 rfl rfl ?_
  refine sm_iconst (v := 0) (by decide) d_mo_leakSmoke_7 ?_
  refine sm_istore_n (lv' := [(2, .int 0), (1, .int x2), (0, .ref a0)]) d_mo_leakSmoke_8 rfl rfl ?_
  refine sm_sub [2, 1, 0] rfl ?_
  exact w_mo_leakSmoke_L9 l lo hi d sm_N _ _ _ _ e0 hf
theorem d_mo_spreadSmoke_0 : decode q_mo_spreadSmoke.2.1 0 = .ok (.iconst 0, 1) := by decide +kernel
theorem d_mo_spreadSmoke_1 : decode q_mo_spreadSmoke.2.1 1 = .ok (.istore_n 1, 1) := by decide +kernel
theorem d_mo_spreadSmoke_2 : decode q_mo_spreadSmoke.2.1 2 = .ok (.iload_n 1, 1) := by decide +kernel
theorem d_mo_spreadSmoke_3 : decode q_mo_spreadSmoke.2.1 3 = .ok (.aload_n 0, 1) := by decide +kernel
theorem d_mo_spreadSmoke_4 : decode q_mo_spreadSmoke.2.1 4 = .ok (.getfield 7, 3) := by decide +kernel
theorem d_mo_spreadSmoke_7 : decode q_mo_spreadSmoke.2.1 7 = .ok (.iconst 0, 1) := by decide +kernel
theorem d_mo_spreadSmoke_8 : decode q_mo_spreadSmoke.2.1 8 = .ok (.iaload, 1) := by decide +kernel
theorem d_mo_spreadSmoke_9 : decode q_mo_spreadSmoke.2.1 9 = .ok (.if_icmp .ge 92, 3) := by decide +kernel
theorem d_mo_spreadSmoke_12 : decode q_mo_spreadSmoke.2.1 12 = .ok (.aload_n 0, 1) := by decide +kernel
theorem d_mo_spreadSmoke_13 : decode q_mo_spreadSmoke.2.1 13 = .ok (.iload_n 1, 1) := by decide +kernel
theorem d_mo_spreadSmoke_14 : decode q_mo_spreadSmoke.2.1 14 = .ok (.iconst 0, 1) := by decide +kernel
theorem d_mo_spreadSmoke_15 : decode q_mo_spreadSmoke.2.1 15 = .ok (.invokevirtual 394, 3) := by decide +kernel
theorem d_mo_spreadSmoke_18 : decode q_mo_spreadSmoke.2.1 18 = .ok (.istore_n 2, 1) := by decide +kernel
theorem d_mo_spreadSmoke_19 : decode q_mo_spreadSmoke.2.1 19 = .ok (.aload_n 0, 1) := by decide +kernel
theorem d_mo_spreadSmoke_20 : decode q_mo_spreadSmoke.2.1 20 = .ok (.iload_n 1, 1) := by decide +kernel
theorem d_mo_spreadSmoke_21 : decode q_mo_spreadSmoke.2.1 21 = .ok (.iconst 1, 1) := by decide +kernel
theorem d_mo_spreadSmoke_22 : decode q_mo_spreadSmoke.2.1 22 = .ok (.invokevirtual 394, 3) := by decide +kernel
theorem d_mo_spreadSmoke_25 : decode q_mo_spreadSmoke.2.1 25 = .ok (.istore_n 3, 1) := by decide +kernel
theorem d_mo_spreadSmoke_26 : decode q_mo_spreadSmoke.2.1 26 = .ok (.aload_n 0, 1) := by decide +kernel
theorem d_mo_spreadSmoke_27 : decode q_mo_spreadSmoke.2.1 27 = .ok (.getfield 63, 3) := by decide +kernel
theorem d_mo_spreadSmoke_30 : decode q_mo_spreadSmoke.2.1 30 = .ok (.iload_n 1, 1) := by decide +kernel
theorem d_mo_spreadSmoke_31 : decode q_mo_spreadSmoke.2.1 31 = .ok (.iload_n 2, 1) := by decide +kernel
theorem d_mo_spreadSmoke_32 : decode q_mo_spreadSmoke.2.1 32 = .ok (.iload_n 3, 1) := by decide +kernel
theorem d_mo_spreadSmoke_33 : decode q_mo_spreadSmoke.2.1 33 = .ok (.isub, 1) := by decide +kernel
theorem d_mo_spreadSmoke_34 : decode q_mo_spreadSmoke.2.1 34 = .ok (.iastore, 1) := by decide +kernel
theorem d_mo_spreadSmoke_35 : decode q_mo_spreadSmoke.2.1 35 = .ok (.sipush 1000, 3) := by decide +kernel
theorem d_mo_spreadSmoke_38 : decode q_mo_spreadSmoke.2.1 38 = .ok (.aload_n 0, 1) := by decide +kernel
theorem d_mo_spreadSmoke_39 : decode q_mo_spreadSmoke.2.1 39 = .ok (.iload_n 1, 1) := by decide +kernel
theorem d_mo_spreadSmoke_40 : decode q_mo_spreadSmoke.2.1 40 = .ok (.iconst 0, 1) := by decide +kernel
theorem d_mo_spreadSmoke_41 : decode q_mo_spreadSmoke.2.1 41 = .ok (.invokevirtual 314, 3) := by decide +kernel
theorem d_mo_spreadSmoke_44 : decode q_mo_spreadSmoke.2.1 44 = .ok (.aload_n 0, 1) := by decide +kernel
theorem d_mo_spreadSmoke_45 : decode q_mo_spreadSmoke.2.1 45 = .ok (.iload_n 1, 1) := by decide +kernel
theorem d_mo_spreadSmoke_46 : decode q_mo_spreadSmoke.2.1 46 = .ok (.iconst 1, 1) := by decide +kernel
theorem d_mo_spreadSmoke_47 : decode q_mo_spreadSmoke.2.1 47 = .ok (.invokevirtual 314, 3) := by decide +kernel
theorem d_mo_spreadSmoke_50 : decode q_mo_spreadSmoke.2.1 50 = .ok (.iadd, 1) := by decide +kernel
theorem d_mo_spreadSmoke_51 : decode q_mo_spreadSmoke.2.1 51 = .ok (.invokestatic 361, 3) := by decide +kernel
theorem d_mo_spreadSmoke_54 : decode q_mo_spreadSmoke.2.1 54 = .ok (.istore 4, 2) := by decide +kernel
theorem d_mo_spreadSmoke_56 : decode q_mo_spreadSmoke.2.1 56 = .ok (.aload_n 0, 1) := by decide +kernel
theorem d_mo_spreadSmoke_57 : decode q_mo_spreadSmoke.2.1 57 = .ok (.getfield 57, 3) := by decide +kernel
theorem d_mo_spreadSmoke_60 : decode q_mo_spreadSmoke.2.1 60 = .ok (.iload_n 1, 1) := by decide +kernel
theorem d_mo_spreadSmoke_61 : decode q_mo_spreadSmoke.2.1 61 = .ok (.iload 4, 2) := by decide +kernel
theorem d_mo_spreadSmoke_63 : decode q_mo_spreadSmoke.2.1 63 = .ok (.iload 4, 2) := by decide +kernel
theorem d_mo_spreadSmoke_65 : decode q_mo_spreadSmoke.2.1 65 = .ok (.sipush 1000, 3) := by decide +kernel
theorem d_mo_spreadSmoke_68 : decode q_mo_spreadSmoke.2.1 68 = .ok (.iload_n 3, 1) := by decide +kernel
theorem d_mo_spreadSmoke_69 : decode q_mo_spreadSmoke.2.1 69 = .ok (.iload_n 2, 1) := by decide +kernel
theorem d_mo_spreadSmoke_70 : decode q_mo_spreadSmoke.2.1 70 = .ok (.iconst 2, 1) := by decide +kernel
theorem d_mo_spreadSmoke_71 : decode q_mo_spreadSmoke.2.1 71 = .ok (.idiv, 1) := by decide +kernel
theorem d_mo_spreadSmoke_72 : decode q_mo_spreadSmoke.2.1 72 = .ok (.iadd, 1) := by decide +kernel
theorem d_mo_spreadSmoke_73 : decode q_mo_spreadSmoke.2.1 73 = .ok (.invokestatic 361, 3) := by decide +kernel
theorem d_mo_spreadSmoke_76 : decode q_mo_spreadSmoke.2.1 76 = .ok (.imul, 1) := by decide +kernel
theorem d_mo_spreadSmoke_77 : decode q_mo_spreadSmoke.2.1 77 = .ok (.sipush 2000, 3) := by decide +kernel
theorem d_mo_spreadSmoke_80 : decode q_mo_spreadSmoke.2.1 80 = .ok (.idiv, 1) := by decide +kernel
theorem d_mo_spreadSmoke_81 : decode q_mo_spreadSmoke.2.1 81 = .ok (.isub, 1) := by decide +kernel
theorem d_mo_spreadSmoke_82 : decode q_mo_spreadSmoke.2.1 82 = .ok (.iastore, 1) := by decide +kernel
theorem d_mo_spreadSmoke_83 : decode q_mo_spreadSmoke.2.1 83 = .ok (.aload_n 0, 1) := by decide +kernel
theorem d_mo_spreadSmoke_84 : decode q_mo_spreadSmoke.2.1 84 = .ok (.getfield 60, 3) := by decide +kernel
theorem d_mo_spreadSmoke_87 : decode q_mo_spreadSmoke.2.1 87 = .ok (.iload_n 1, 1) := by decide +kernel
theorem d_mo_spreadSmoke_88 : decode q_mo_spreadSmoke.2.1 88 = .ok (.aload_n 0, 1) := by decide +kernel
theorem d_mo_spreadSmoke_89 : decode q_mo_spreadSmoke.2.1 89 = .ok (.getfield 57, 3) := by decide +kernel
theorem d_mo_spreadSmoke_92 : decode q_mo_spreadSmoke.2.1 92 = .ok (.iload_n 1, 1) := by decide +kernel
theorem d_mo_spreadSmoke_93 : decode q_mo_spreadSmoke.2.1 93 = .ok (.iaload, 1) := by decide +kernel
theorem d_mo_spreadSmoke_94 : decode q_mo_spreadSmoke.2.1 94 = .ok (.iastore, 1) := by decide +kernel
theorem d_mo_spreadSmoke_95 : decode q_mo_spreadSmoke.2.1 95 = .ok (.iinc 1 1, 3) := by decide +kernel
theorem d_mo_spreadSmoke_98 : decode q_mo_spreadSmoke.2.1 98 = .ok (.goto (-96), 3) := by decide +kernel
theorem d_mo_spreadSmoke_101 : decode q_mo_spreadSmoke.2.1 101 = .ok (.iconst 0, 1) := by decide +kernel
theorem d_mo_spreadSmoke_102 : decode q_mo_spreadSmoke.2.1 102 = .ok (.istore_n 1, 1) := by decide +kernel
theorem d_mo_spreadSmoke_103 : decode q_mo_spreadSmoke.2.1 103 = .ok (.iload_n 1, 1) := by decide +kernel
theorem d_mo_spreadSmoke_104 : decode q_mo_spreadSmoke.2.1 104 = .ok (.iconst 1, 1) := by decide +kernel
theorem d_mo_spreadSmoke_105 : decode q_mo_spreadSmoke.2.1 105 = .ok (.iadd, 1) := by decide +kernel
theorem d_mo_spreadSmoke_106 : decode q_mo_spreadSmoke.2.1 106 = .ok (.aload_n 0, 1) := by decide +kernel
theorem d_mo_spreadSmoke_107 : decode q_mo_spreadSmoke.2.1 107 = .ok (.getfield 7, 3) := by decide +kernel
theorem d_mo_spreadSmoke_110 : decode q_mo_spreadSmoke.2.1 110 = .ok (.iconst 0, 1) := by decide +kernel
theorem d_mo_spreadSmoke_111 : decode q_mo_spreadSmoke.2.1 111 = .ok (.iaload, 1) := by decide +kernel
theorem d_mo_spreadSmoke_112 : decode q_mo_spreadSmoke.2.1 112 = .ok (.if_icmp .ge 25, 3) := by decide +kernel
theorem d_mo_spreadSmoke_115 : decode q_mo_spreadSmoke.2.1 115 = .ok (.aload_n 0, 1) := by decide +kernel
theorem d_mo_spreadSmoke_116 : decode q_mo_spreadSmoke.2.1 116 = .ok (.iload_n 1, 1) := by decide +kernel
theorem d_mo_spreadSmoke_117 : decode q_mo_spreadSmoke.2.1 117 = .ok (.iload_n 1, 1) := by decide +kernel
theorem d_mo_spreadSmoke_118 : decode q_mo_spreadSmoke.2.1 118 = .ok (.iconst 1, 1) := by decide +kernel
theorem d_mo_spreadSmoke_119 : decode q_mo_spreadSmoke.2.1 119 = .ok (.iadd, 1) := by decide +kernel
theorem d_mo_spreadSmoke_120 : decode q_mo_spreadSmoke.2.1 120 = .ok (.invokevirtual 397, 3) := by decide +kernel
theorem d_mo_spreadSmoke_123 : decode q_mo_spreadSmoke.2.1 123 = .ok (.aload_n 0, 1) := by decide +kernel
theorem d_mo_spreadSmoke_124 : decode q_mo_spreadSmoke.2.1 124 = .ok (.iload_n 1, 1) := by decide +kernel
theorem d_mo_spreadSmoke_125 : decode q_mo_spreadSmoke.2.1 125 = .ok (.iconst 1, 1) := by decide +kernel
theorem d_mo_spreadSmoke_126 : decode q_mo_spreadSmoke.2.1 126 = .ok (.iadd, 1) := by decide +kernel
theorem d_mo_spreadSmoke_127 : decode q_mo_spreadSmoke.2.1 127 = .ok (.iload_n 1, 1) := by decide +kernel
theorem d_mo_spreadSmoke_128 : decode q_mo_spreadSmoke.2.1 128 = .ok (.invokevirtual 397, 3) := by decide +kernel
theorem d_mo_spreadSmoke_131 : decode q_mo_spreadSmoke.2.1 131 = .ok (.iinc 1 1, 3) := by decide +kernel
theorem d_mo_spreadSmoke_134 : decode q_mo_spreadSmoke.2.1 134 = .ok (.goto (-31), 3) := by decide +kernel
theorem d_mo_spreadSmoke_137 : decode q_mo_spreadSmoke.2.1 137 = .ok (.iconst 0, 1) := by decide +kernel
theorem d_mo_spreadSmoke_138 : decode q_mo_spreadSmoke.2.1 138 = .ok (.istore_n 1, 1) := by decide +kernel
theorem d_mo_spreadSmoke_139 : decode q_mo_spreadSmoke.2.1 139 = .ok (.iload_n 1, 1) := by decide +kernel
theorem d_mo_spreadSmoke_140 : decode q_mo_spreadSmoke.2.1 140 = .ok (.aload_n 0, 1) := by decide +kernel
theorem d_mo_spreadSmoke_141 : decode q_mo_spreadSmoke.2.1 141 = .ok (.getfield 7, 3) := by decide +kernel
theorem d_mo_spreadSmoke_144 : decode q_mo_spreadSmoke.2.1 144 = .ok (.iconst 0, 1) := by decide +kernel
theorem d_mo_spreadSmoke_145 : decode q_mo_spreadSmoke.2.1 145 = .ok (.iaload, 1) := by decide +kernel
theorem d_mo_spreadSmoke_146 : decode q_mo_spreadSmoke.2.1 146 = .ok (.if_icmp .ge 31, 3) := by decide +kernel
theorem d_mo_spreadSmoke_149 : decode q_mo_spreadSmoke.2.1 149 = .ok (.aload_n 0, 1) := by decide +kernel
theorem d_mo_spreadSmoke_150 : decode q_mo_spreadSmoke.2.1 150 = .ok (.iload_n 1, 1) := by decide +kernel
theorem d_mo_spreadSmoke_151 : decode q_mo_spreadSmoke.2.1 151 = .ok (.iconst 0, 1) := by decide +kernel
theorem d_mo_spreadSmoke_152 : decode q_mo_spreadSmoke.2.1 152 = .ok (.iconst 0, 1) := by decide +kernel
theorem d_mo_spreadSmoke_153 : decode q_mo_spreadSmoke.2.1 153 = .ok (.sipush 1000, 3) := by decide +kernel
theorem d_mo_spreadSmoke_156 : decode q_mo_spreadSmoke.2.1 156 = .ok (.aload_n 0, 1) := by decide +kernel
theorem d_mo_spreadSmoke_157 : decode q_mo_spreadSmoke.2.1 157 = .ok (.getfield 60, 3) := by decide +kernel
theorem d_mo_spreadSmoke_160 : decode q_mo_spreadSmoke.2.1 160 = .ok (.iload_n 1, 1) := by decide +kernel
theorem d_mo_spreadSmoke_161 : decode q_mo_spreadSmoke.2.1 161 = .ok (.iaload, 1) := by decide +kernel
theorem d_mo_spreadSmoke_162 : decode q_mo_spreadSmoke.2.1 162 = .ok (.invokestatic 361, 3) := by decide +kernel
theorem d_mo_spreadSmoke_165 : decode q_mo_spreadSmoke.2.1 165 = .ok (.invokestatic 370, 3) := by decide +kernel
theorem d_mo_spreadSmoke_168 : decode q_mo_spreadSmoke.2.1 168 = .ok (.invokevirtual 400, 3) := by decide +kernel
theorem d_mo_spreadSmoke_171 : decode q_mo_spreadSmoke.2.1 171 = .ok (.iinc 1 1, 3) := by decide +kernel
theorem d_mo_spreadSmoke_174 : decode q_mo_spreadSmoke.2.1 174 = .ok (.goto (-35), 3) := by decide +kernel
theorem d_mo_spreadSmoke_177 : decode q_mo_spreadSmoke.2.1 177 = .ok (.aload_n 0, 1) := by decide +kernel
theorem d_mo_spreadSmoke_178 : decode q_mo_spreadSmoke.2.1 178 = .ok (.invokevirtual 403, 3) := by decide +kernel
theorem d_mo_spreadSmoke_181 : decode q_mo_spreadSmoke.2.1 181 = .ok (.return_, 1) := by decide +kernel
theorem w_mo_spreadSmoke_L177 (l : Launch) (lo hi d : Nat) {h' : sm_H} (a0 : Nat) (h : sm_H) (e0 : sm_at lo hi (0, 10, 0) a0) (hf : f_mo_spreadSmoke_L177 a0 h = some h') : sm_W l lo hi (d + 4) q_mo_spreadSmoke 177 [(0, .ref a0)] [] h none h' := by
  unfold f_mo_spreadSmoke_L177 at hf
  refine sm_aload_n 0 rfl d_mo_spreadSmoke_177 ?_
  obtain ⟨g54, c55, hf⟩ := sm_bindE hf
  refine sm_callV (As := []) (rv := none) (h1 := g54) (c := 10) cvv_mo_403 rfl rfl e0 (m_mo_leakSmoke l lo hi _ e0 c55) rfl rfl d_mo_spreadSmoke_178 ?_
  obtain rfl := sm_ret1 hf
  exact sm_vret d_mo_spreadSmoke_181 rfl
theorem w_mo_spreadSmoke_L139 (l : Launch) (lo hi d : Nat) {h' : sm_H} : ∀ (n : Nat) (a0 : Nat) (a1 : Int32) (h : sm_H) (e0 : sm_at lo hi (0, 10, 0) a0) (hf : f_mo_spreadSmoke_L139 n a0 a1 h = some h'), sm_W l lo hi (d + 4) q_mo_spreadSmoke 139 [(0, .ref a0), (1, .int a1)] [] h none h' := by
  intro n
  induction n with
  | zero =>
    intro a0 a1 h e0 hf
    have z : (none : Option sm_H) = some _ := hf
    cases z
  | succ n ih =>
    intro a0 a1 h e0 hf
    unfold f_mo_spreadSmoke_L139 at hf
    refine sm_iload_n 1 rfl d_mo_spreadSmoke_139 ?_
    refine sm_aload_n 0 rfl d_mo_spreadSmoke_140 ?_
    refine sm_getR (n := 1) fl_mo_7 e0 rfl d_mo_spreadSmoke_141 ?_
    refine sm_iconst (v := 0) (by decide) d_mo_spreadSmoke_144 ?_
    obtain ⟨c41, hf⟩ := sm_gdE hf
    refine sm_iald (sm_at_arr (sm_inner e0 0 rfl rfl rfl)) c41 d_mo_spreadSmoke_145 ?_
    refine sm_icmp_ge 177 d_mo_spreadSmoke_146 rfl (fun c42 => ?_) (fun c42 => ?_)
    · have hf := sm_ifT c42 hf
      refine sm_sub [0] rfl ?_
      exact w_mo_spreadSmoke_L177 l lo hi d _ _ e0 hf
    · have hf := sm_ifF c42 hf
      refine sm_aload_n 0 rfl d_mo_spreadSmoke_149 ?_
      refine sm_iload_n 1 rfl d_mo_spreadSmoke_150 ?_
      refine sm_iconst (v := 0) (by decide) d_mo_spreadSmoke_151 ?_
      refine sm_iconst (v := 0) (by decide) d_mo_spreadSmoke_152 ?_
      refine sm_sipush (v := 1000) (by decide) d_mo_spreadSmoke_153 ?_
      refine sm_aload_n 0 rfl d_mo_spreadSmoke_156 ?_
      refine sm_getR (n := 16) fl_mo_60 e0 rfl d_mo_spreadSmoke_157 ?_
      refine sm_iload_n 1 rfl d_mo_spreadSmoke_160 ?_
      obtain ⟨c43, hf⟩ := sm_gdE hf
      refine sm_iald (sm_at_arr (sm_inner e0 33 rfl rfl rfl)) c43 d_mo_spreadSmoke_161 ?_
      obtain ⟨r44, g45, c46, hf⟩ := sm_b2E hf
      refine sm_callS (As := [.int 1000, .int (h (a0 + 16) (a1 : Int32).toNatClampNeg)]) (rv := some (.int r44)) (h1 := g45) cvs_mo_361 (m_mo_lesser l lo hi _ c46) rfl rfl d_mo_spreadSmoke_162 ?_
      obtain ⟨r47, g48, c49, hf⟩ := sm_b2E hf
      refine sm_callS (As := [.int 0, .int r44]) (rv := some (.int r47)) (h1 := g48) cvs_mo_370 (m_mo_greater l lo hi _ c49) rfl rfl d_mo_spreadSmoke_165 ?_
      obtain ⟨g50, c51, hf⟩ := sm_bindE hf
      refine sm_callV (As := [.int a1, .int 0, .int r47]) (rv := none) (h1 := g50) (c := 10) cvv_mo_400 rfl rfl e0 (m_mo_putZone l lo hi _ e0 c51) rfl rfl d_mo_spreadSmoke_168 ?_
      obtain ⟨x52, w53⟩ : ∃ v : Int32, v = a1 + 1 := ⟨_, rfl⟩
      have hf := sm_letV w53 hf
      refine sm_iinc (v := x52) (lv' := [(1, .int x52), (0, .ref a0)]) 1 rfl (by rw [w53]; rfl) d_mo_spreadSmoke_171 rfl rfl ?_
      refine sm_goto 139 d_mo_spreadSmoke_174 rfl ?_
      refine sm_sub [1, 0] rfl ?_
      exact ih _ _ _ e0 hf
theorem w_mo_spreadSmoke_L137 (l : Launch) (lo hi d : Nat) {h' : sm_H} (a0 : Nat) (h : sm_H) (e0 : sm_at lo hi (0, 10, 0) a0) (hf : f_mo_spreadSmoke_L137 a0 h = some h') : sm_W l lo hi (d + 4) q_mo_spreadSmoke 137 [(0, .ref a0)] [] h none h' := by
  unfold f_mo_spreadSmoke_L137 at hf
  refine sm_iconst (v := 0) (by decide) d_mo_spreadSmoke_137 ?_
  refine sm_istore_n (lv' := [(1, .int 0), (0, .ref a0)]) d_mo_spreadSmoke_138 rfl rfl ?_
  refine sm_sub [1, 0] rfl ?_
  exact w_mo_spreadSmoke_L139 l lo hi d sm_N _ _ _ e0 hf
theorem w_mo_spreadSmoke_L103 (l : Launch) (lo hi d : Nat) {h' : sm_H} : ∀ (n : Nat) (a0 : Nat) (a1 : Int32) (h : sm_H) (e0 : sm_at lo hi (0, 10, 0) a0) (hf : f_mo_spreadSmoke_L103 n a0 a1 h = some h'), sm_W l lo hi (d + 4) q_mo_spreadSmoke 103 [(0, .ref a0), (1, .int a1)] [] h none h' := by
  intro n
  induction n with
  | zero =>
    intro a0 a1 h e0 hf
    have z : (none : Option sm_H) = some _ := hf
    cases z
  | succ n ih =>
    intro a0 a1 h e0 hf
    unfold f_mo_spreadSmoke_L103 at hf
    refine sm_iload_n 1 rfl d_mo_spreadSmoke_103 ?_
    refine sm_iconst (v := 1) (by decide) d_mo_spreadSmoke_104 ?_
    refine sm_iadd d_mo_spreadSmoke_105 ?_
    refine sm_aload_n 0 rfl d_mo_spreadSmoke_106 ?_
    refine sm_getR (n := 1) fl_mo_7 e0 rfl d_mo_spreadSmoke_107 ?_
    refine sm_iconst (v := 0) (by decide) d_mo_spreadSmoke_110 ?_
    obtain ⟨c33, hf⟩ := sm_gdE hf
    refine sm_iald (sm_at_arr (sm_inner e0 0 rfl rfl rfl)) c33 d_mo_spreadSmoke_111 ?_
    refine sm_icmp_ge 137 d_mo_spreadSmoke_112 rfl (fun c34 => ?_) (fun c34 => ?_)
    · have hf := sm_ifT c34 hf
      refine sm_sub [0] rfl ?_
      exact w_mo_spreadSmoke_L137 l lo hi d _ _ e0 hf
    · have hf := sm_ifF c34 hf
      refine sm_aload_n 0 rfl d_mo_spreadSmoke_115 ?_
      refine sm_iload_n 1 rfl d_mo_spreadSmoke_116 ?_
      refine sm_iload_n 1 rfl d_mo_spreadSmoke_117 ?_
      refine sm_iconst (v := 1) (by decide) d_mo_spreadSmoke_118 ?_
      refine sm_iadd d_mo_spreadSmoke_119 ?_
      obtain ⟨g35, c36, hf⟩ := sm_bindE hf
      refine sm_callV (As := [.int a1, .int (a1 + 1)]) (rv := none) (h1 := g35) (c := 10) cvv_mo_397 rfl rfl e0 (m_mo_drain l lo hi _ e0 c36) rfl rfl d_mo_spreadSmoke_120 ?_
      refine sm_aload_n 0 rfl d_mo_spreadSmoke_123 ?_
      refine sm_iload_n 1 rfl d_mo_spreadSmoke_124 ?_
      refine sm_iconst (v := 1) (by decide) d_mo_spreadSmoke_125 ?_
      refine sm_iadd d_mo_spreadSmoke_126 ?_
      refine sm_iload_n 1 rfl d_mo_spreadSmoke_127 ?_
      obtain ⟨g37, c38, hf⟩ := sm_bindE hf
      refine sm_callV (As := [.int (a1 + 1), .int a1]) (rv := none) (h1 := g37) (c := 10) cvv_mo_397 rfl rfl e0 (m_mo_drain l lo hi _ e0 c38) rfl rfl d_mo_spreadSmoke_128 ?_
      obtain ⟨x39, w40⟩ : ∃ v : Int32, v = a1 + 1 := ⟨_, rfl⟩
      have hf := sm_letV w40 hf
      refine sm_iinc (v := x39) (lv' := [(1, .int x39), (0, .ref a0)]) 1 rfl (by rw [w40]; rfl) d_mo_spreadSmoke_131 rfl rfl ?_
      refine sm_goto 103 d_mo_spreadSmoke_134 rfl ?_
      refine sm_sub [1, 0] rfl ?_
      exact ih _ _ _ e0 hf
theorem w_mo_spreadSmoke_L101 (l : Launch) (lo hi d : Nat) {h' : sm_H} (a0 : Nat) (h : sm_H) (e0 : sm_at lo hi (0, 10, 0) a0) (hf : f_mo_spreadSmoke_L101 a0 h = some h') : sm_W l lo hi (d + 4) q_mo_spreadSmoke 101 [(0, .ref a0)] [] h none h' := by
  unfold f_mo_spreadSmoke_L101 at hf
  refine sm_iconst (v := 0) (by decide) d_mo_spreadSmoke_101 ?_
  refine sm_istore_n (lv' := [(1, .int 0), (0, .ref a0)]) d_mo_spreadSmoke_102 rfl rfl ?_
  refine sm_sub [1, 0] rfl ?_
  exact w_mo_spreadSmoke_L103 l lo hi d sm_N _ _ _ e0 hf
theorem w_mo_spreadSmoke_L2 (l : Launch) (lo hi d : Nat) {h' : sm_H} : ∀ (n : Nat) (a0 : Nat) (a1 : Int32) (h : sm_H) (e0 : sm_at lo hi (0, 10, 0) a0) (hf : f_mo_spreadSmoke_L2 n a0 a1 h = some h'), sm_W l lo hi (d + 4) q_mo_spreadSmoke 2 [(0, .ref a0), (1, .int a1)] [] h none h' := by
  intro n
  induction n with
  | zero =>
    intro a0 a1 h e0 hf
    have z : (none : Option sm_H) = some _ := hf
    cases z
  | succ n ih =>
    intro a0 a1 h e0 hf
    unfold f_mo_spreadSmoke_L2 at hf
    refine sm_iload_n 1 rfl d_mo_spreadSmoke_2 ?_
    refine sm_aload_n 0 rfl d_mo_spreadSmoke_3 ?_
    refine sm_getR (n := 1) fl_mo_7 e0 rfl d_mo_spreadSmoke_4 ?_
    refine sm_iconst (v := 0) (by decide) d_mo_spreadSmoke_7 ?_
    obtain ⟨c1, hf⟩ := sm_gdE hf
    refine sm_iald (sm_at_arr (sm_inner e0 0 rfl rfl rfl)) c1 d_mo_spreadSmoke_8 ?_
    refine sm_icmp_ge 101 d_mo_spreadSmoke_9 rfl (fun c2 => ?_) (fun c2 => ?_)
    · have hf := sm_ifT c2 hf
      refine sm_sub [0] rfl ?_
      exact w_mo_spreadSmoke_L101 l lo hi d _ _ e0 hf
    · have hf := sm_ifF c2 hf
      refine sm_aload_n 0 rfl d_mo_spreadSmoke_12 ?_
      refine sm_iload_n 1 rfl d_mo_spreadSmoke_13 ?_
      refine sm_iconst (v := 0) (by decide) d_mo_spreadSmoke_14 ?_
      obtain ⟨r3, g4, c5, hf⟩ := sm_b2E hf
      refine sm_callV (As := [.int a1, .int 0]) (rv := some (.int r3)) (h1 := g4) (c := 10) cvv_mo_394 rfl rfl e0 (m_mo_airTo l lo hi _ e0 c5) rfl rfl d_mo_spreadSmoke_15 ?_
      refine sm_istore_n (lv' := [(2, .int r3), (0, .ref a0), (1, .int a1)]) d_mo_spreadSmoke_18 rfl rfl ?_
      refine sm_aload_n 1 rfl d_mo_spreadSmoke_19 ?_
      refine sm_iload_n 2 rfl d_mo_spreadSmoke_20 ?_
      refine sm_iconst (v := 1) (by decide) d_mo_spreadSmoke_21 ?_
      obtain ⟨r6, g7, c8, hf⟩ := sm_b2E hf
      refine sm_callV (As := [.int a1, .int 1]) (rv := some (.int r6)) (h1 := g7) (c := 10) cvv_mo_394 rfl rfl e0 (m_mo_airTo l lo hi _ e0 c8) rfl rfl d_mo_spreadSmoke_22 ?_
      refine sm_istore_n (lv' := [(3, .int r6), (2, .int r3), (0, .ref a0), (1, .int a1)]) d_mo_spreadSmoke_25 rfl rfl ?_
      refine sm_aload_n 2 rfl d_mo_spreadSmoke_26 ?_
      refine sm_getR (n := 17) fl_mo_63 e0 rfl d_mo_spreadSmoke_27 ?_
      refine sm_iload_n 3 rfl d_mo_spreadSmoke_30 ?_
      refine sm_iload_n 1 rfl d_mo_spreadSmoke_31 ?_
      refine sm_iload_n 0 rfl d_mo_spreadSmoke_32 ?_
      refine sm_isub d_mo_spreadSmoke_33 ?_
      obtain ⟨c9, hf⟩ := sm_gdE hf
      refine sm_iast (sm_at_arr (sm_inner e0 34 rfl rfl rfl)) c9 d_mo_spreadSmoke_34 ?_
      refine sm_nmH (fun g10 w11 => ?_)
      have hf := sm_letV w11 hf
      refine sm_sipush (v := 1000) (by decide) d_mo_spreadSmoke_35 ?_
      refine sm_aload_n 2 rfl d_mo_spreadSmoke_38 ?_
      refine sm_iload_n 3 rfl d_mo_spreadSmoke_39 ?_
      refine sm_iconst (v := 0) (by decide) d_mo_spreadSmoke_40 ?_
      obtain ⟨r12, g13, c14, hf⟩ := sm_b2E hf
      refine sm_callV (As := [.int a1, .int 0]) (rv := some (.int r12)) (h1 := g13) (c := 10) cvv_mo_314 rfl rfl e0 (m_mo_zoneIs l lo hi _ e0 c14) rfl rfl d_mo_spreadSmoke_41 ?_
      refine sm_aload_n 2 rfl d_mo_spreadSmoke_44 ?_
      refine sm_iload_n 3 rfl d_mo_spreadSmoke_45 ?_
      refine sm_iconst (v := 1) (by decide) d_mo_spreadSmoke_46 ?_
      obtain ⟨r15, g16, c17, hf⟩ := sm_b2E hf
      refine sm_callV (As := [.int a1, .int 1]) (rv := some (.int r15)) (h1 := g16) (c := 10) cvv_mo_314 rfl rfl e0 (m_mo_zoneIs l lo hi _ e0 c17) rfl rfl d_mo_spreadSmoke_47 ?_
      refine sm_iadd d_mo_spreadSmoke_50 ?_
      obtain ⟨r18, g19, c20, hf⟩ := sm_b2E hf
      refine sm_callS (As := [.int 1000, .int (r12 + r15)]) (rv := some (.int r18)) (h1 := g19) cvs_mo_361 (m_mo_lesser l lo hi _ c20) rfl rfl d_mo_spreadSmoke_51 ?_
      refine sm_istore (lv' := [(4, .int r18), (3, .int r6), (2, .int r3), (0, .ref a0), (1, .int a1)]) d_mo_spreadSmoke_54 rfl rfl ?_
      refine sm_aload_n 3 rfl d_mo_spreadSmoke_56 ?_
      refine sm_getR (n := 15) fl_mo_57 e0 rfl d_mo_spreadSmoke_57 ?_
      refine sm_iload_n 4 rfl d_mo_spreadSmoke_60 ?_
      refine sm_iload 0 rfl d_mo_spreadSmoke_61 ?_
      refine sm_iload 0 rfl d_mo_spreadSmoke_63 ?_
      refine sm_sipush (v := 1000) (by decide) d_mo_spreadSmoke_65 ?_
      refine sm_iload_n 1 rfl d_mo_spreadSmoke_68 ?_
      refine sm_iload_n 2 rfl d_mo_spreadSmoke_69 ?_
      refine sm_iconst (v := 2) (by decide) d_mo_spreadSmoke_70 ?_
      refine sm_idiv (by decide) d_mo_spreadSmoke_71 ?_
      refine sm_iadd d_mo_spreadSmoke_72 ?_
      obtain ⟨r21, g22, c23, hf⟩ := sm_b2E hf
      refine sm_callS (As := [.int 1000, .int (r6 + (r3 / 2))]) (rv := some (.int r21)) (h1 := g22) cvs_mo_361 (m_mo_lesser l lo hi _ c23) rfl rfl d_mo_spreadSmoke_73 ?_
      refine sm_imul d_mo_spreadSmoke_76 ?_
      refine sm_sipush (v := 2000) (by decide) d_mo_spreadSmoke_77 ?_
      refine sm_idiv (by decide) d_mo_spreadSmoke_80 ?_
      refine sm_isub d_mo_spreadSmoke_81 ?_
      obtain ⟨c24, hf⟩ := sm_gdE hf
      refine sm_iast (sm_at_arr (sm_inner e0 32 rfl rfl rfl)) c24 d_mo_spreadSmoke_82 ?_
      refine sm_nmH (fun g25 w26 => ?_)
      have hf := sm_letV w26 hf
      refine sm_aload_n 3 rfl d_mo_spreadSmoke_83 ?_
      refine sm_getR (n := 16) fl_mo_60 e0 rfl d_mo_spreadSmoke_84 ?_
      refine sm_iload_n 4 rfl d_mo_spreadSmoke_87 ?_
      refine sm_aload_n 3 rfl d_mo_spreadSmoke_88 ?_
      refine sm_getR (n := 15) fl_mo_57 e0 rfl d_mo_spreadSmoke_89 ?_
      refine sm_iload_n 4 rfl d_mo_spreadSmoke_92 ?_
      obtain ⟨c27, hf⟩ := sm_gdE hf
      refine sm_iald (sm_at_arr (sm_inner e0 32 rfl rfl rfl)) c27 d_mo_spreadSmoke_93 ?_
      obtain ⟨c28, hf⟩ := sm_gdE hf
      refine sm_iast (sm_at_arr (sm_inner e0 33 rfl rfl rfl)) c28 d_mo_spreadSmoke_94 ?_
      refine sm_nmH (fun g29 w30 => ?_)
      have hf := sm_letV w30 hf
      obtain ⟨x31, w32⟩ : ∃ v : Int32, v = a1 + 1 := ⟨_, rfl⟩
      have hf := sm_letV w32 hf
      refine sm_iinc (v := x31) (lv' := [(1, .int x31), (4, .int r18), (3, .int r6), (2, .int r3), (0, .ref a0)]) 4 rfl (by rw [w32]; rfl) d_mo_spreadSmoke_95 rfl rfl ?_
      refine sm_goto 2 d_mo_spreadSmoke_98 rfl ?_
      refine sm_sub [4, 0] rfl ?_
      exact ih _ _ _ e0 hf
theorem m_mo_spreadSmoke (l : Launch) (lo hi d : Nat) {a0 : Nat} {h h' : sm_H} (e0 : sm_at lo hi (0, 10, 0) a0) (hf : f_mo_spreadSmoke a0 h = some h') : sm_Met l lo hi (d + 4) q_mo_spreadSmoke [.ref a0] h none h' := by
  refine sm_Met.of (by decide +kernel) rfl ?_
  show sm_W l lo hi (d + 4) q_mo_spreadSmoke 0 [(0, .ref a0)] [] h none h'
  unfold f_mo_spreadSmoke at hf
  refine sm_iconst (v := 0) (by decide) d_mo_spreadSmoke_0 ?_
  refine sm_istore_n (lv' := [(1, .int 0), (0, .ref a0)]) d_mo_spreadSmoke_1 rfl rfl ?_
  refine sm_sub [1, 0] rfl ?_
  exact w_mo_spreadSmoke_L2 l lo hi d sm_N _ _ _ e0 hf
