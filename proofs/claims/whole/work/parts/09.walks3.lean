theorem d_en_changeLevel_0 : decode q_en_changeLevel.2.1 0 = .ok (.bipush 16, 2) := by decide +kernel
theorem d_en_changeLevel_2 : decode q_en_changeLevel.2.1 2 = .ok (.iload_n 1, 1) := by decide +kernel
theorem d_en_changeLevel_3 : decode q_en_changeLevel.2.1 3 = .ok (.iadd, 1) := by decide +kernel
theorem d_en_changeLevel_4 : decode q_en_changeLevel.2.1 4 = .ok (.istore_n 3, 1) := by decide +kernel
theorem d_en_changeLevel_5 : decode q_en_changeLevel.2.1 5 = .ok (.iload_n 2, 1) := by decide +kernel
theorem d_en_changeLevel_6 : decode q_en_changeLevel.2.1 6 = .ok (.ifCond .eq 15, 3) := by decide +kernel
theorem d_en_changeLevel_9 : decode q_en_changeLevel.2.1 9 = .ok (.aload_n 0, 1) := by decide +kernel
theorem d_en_changeLevel_10 : decode q_en_changeLevel.2.1 10 = .ok (.getfield 70, 3) := by decide +kernel
theorem d_en_changeLevel_13 : decode q_en_changeLevel.2.1 13 = .ok (.getfield 82, 3) := by decide +kernel
theorem d_en_changeLevel_16 : decode q_en_changeLevel.2.1 16 = .ok (.iload_n 3, 1) := by decide +kernel
theorem d_en_changeLevel_17 : decode q_en_changeLevel.2.1 17 = .ok (.iaload, 1) := by decide +kernel
theorem d_en_changeLevel_18 : decode q_en_changeLevel.2.1 18 = .ok (.goto 4, 3) := by decide +kernel
theorem d_en_changeLevel_21 : decode q_en_changeLevel.2.1 21 = .ok (.iconst 0, 1) := by decide +kernel
theorem d_en_changeLevel_22 : decode q_en_changeLevel.2.1 22 = .ok (.istore 4, 2) := by decide +kernel
theorem d_en_changeLevel_24 : decode q_en_changeLevel.2.1 24 = .ok (.aload_n 0, 1) := by decide +kernel
theorem d_en_changeLevel_25 : decode q_en_changeLevel.2.1 25 = .ok (.getfield 92, 3) := by decide +kernel
theorem d_en_changeLevel_28 : decode q_en_changeLevel.2.1 28 = .ok (.iload_n 3, 1) := by decide +kernel
theorem d_en_changeLevel_29 : decode q_en_changeLevel.2.1 29 = .ok (.iaload, 1) := by decide +kernel
theorem d_en_changeLevel_30 : decode q_en_changeLevel.2.1 30 = .ok (.iload 4, 2) := by decide +kernel
theorem d_en_changeLevel_32 : decode q_en_changeLevel.2.1 32 = .ok (.if_icmp .ne 4, 3) := by decide +kernel
theorem d_en_changeLevel_35 : decode q_en_changeLevel.2.1 35 = .ok (.return_, 1) := by decide +kernel
theorem d_en_changeLevel_36 : decode q_en_changeLevel.2.1 36 = .ok (.aload_n 0, 1) := by decide +kernel
theorem d_en_changeLevel_37 : decode q_en_changeLevel.2.1 37 = .ok (.getfield 92, 3) := by decide +kernel
theorem d_en_changeLevel_40 : decode q_en_changeLevel.2.1 40 = .ok (.iload_n 3, 1) := by decide +kernel
theorem d_en_changeLevel_41 : decode q_en_changeLevel.2.1 41 = .ok (.dup2, 1) := by decide +kernel
theorem d_en_changeLevel_42 : decode q_en_changeLevel.2.1 42 = .ok (.iaload, 1) := by decide +kernel
theorem d_en_changeLevel_43 : decode q_en_changeLevel.2.1 43 = .ok (.iload_n 2, 1) := by decide +kernel
theorem d_en_changeLevel_44 : decode q_en_changeLevel.2.1 44 = .ok (.ifCond .eq 7, 3) := by decide +kernel
theorem d_en_changeLevel_47 : decode q_en_changeLevel.2.1 47 = .ok (.iconst 1, 1) := by decide +kernel
theorem d_en_changeLevel_48 : decode q_en_changeLevel.2.1 48 = .ok (.goto 4, 3) := by decide +kernel
theorem d_en_changeLevel_51 : decode q_en_changeLevel.2.1 51 = .ok (.iconst (-1), 1) := by decide +kernel
theorem d_en_changeLevel_52 : decode q_en_changeLevel.2.1 52 = .ok (.iadd, 1) := by decide +kernel
theorem d_en_changeLevel_53 : decode q_en_changeLevel.2.1 53 = .ok (.iastore, 1) := by decide +kernel
theorem d_en_changeLevel_54 : decode q_en_changeLevel.2.1 54 = .ok (.aload_n 0, 1) := by decide +kernel
theorem d_en_changeLevel_55 : decode q_en_changeLevel.2.1 55 = .ok (.getfield 92, 3) := by decide +kernel
theorem d_en_changeLevel_58 : decode q_en_changeLevel.2.1 58 = .ok (.iload_n 3, 1) := by decide +kernel
theorem d_en_changeLevel_59 : decode q_en_changeLevel.2.1 59 = .ok (.iaload, 1) := by decide +kernel
theorem d_en_changeLevel_60 : decode q_en_changeLevel.2.1 60 = .ok (.iload 4, 2) := by decide +kernel
theorem d_en_changeLevel_62 : decode q_en_changeLevel.2.1 62 = .ok (.if_icmp .ne 24, 3) := by decide +kernel
theorem d_en_changeLevel_65 : decode q_en_changeLevel.2.1 65 = .ok (.aload_n 0, 1) := by decide +kernel
theorem d_en_changeLevel_66 : decode q_en_changeLevel.2.1 66 = .ok (.getfield 118, 3) := by decide +kernel
theorem d_en_changeLevel_69 : decode q_en_changeLevel.2.1 69 = .ok (.aload_n 0, 1) := by decide +kernel
theorem d_en_changeLevel_70 : decode q_en_changeLevel.2.1 70 = .ok (.getfield 28, 3) := by decide +kernel
theorem d_en_changeLevel_73 : decode q_en_changeLevel.2.1 73 = .ok (.iload_n 2, 1) := by decide +kernel
theorem d_en_changeLevel_74 : decode q_en_changeLevel.2.1 74 = .ok (.ifCond .eq 7, 3) := by decide +kernel
theorem d_en_changeLevel_77 : decode q_en_changeLevel.2.1 77 = .ok (.iconst 4, 1) := by decide +kernel
theorem d_en_changeLevel_78 : decode q_en_changeLevel.2.1 78 = .ok (.goto 4, 3) := by decide +kernel
theorem d_en_changeLevel_81 : decode q_en_changeLevel.2.1 81 = .ok (.iconst 5, 1) := by decide +kernel
theorem d_en_changeLevel_82 : decode q_en_changeLevel.2.1 82 = .ok (.iload_n 1, 1) := by decide +kernel
theorem d_en_changeLevel_83 : decode q_en_changeLevel.2.1 83 = .ok (.invokevirtual 122, 3) := by decide +kernel
theorem d_en_changeLevel_86 : decode q_en_changeLevel.2.1 86 = .ok (.return_, 1) := by decide +kernel
theorem w_en_changeLevel_L82 (l : Launch) (lo hi d : Nat) (hS : sm_has lo hi) {h' : sm_H} (a1 : Int32) (s0 : Int32) (s1 : Int32) (s2 : Nat) (h : sm_H) (t2 : sm_at lo hi (0, 3, 0) s2) (hf : f_en_changeLevel_L82 a1 s0 s1 s2 h = some h') : sm_W l lo hi (d + 2) q_en_changeLevel 82 [(1, .int a1)] [.int s0, .int s1, .ref s2] h none h' := by
  unfold f_en_changeLevel_L82 at hf
  refine sm_iload_n 0 rfl d_en_changeLevel_82 ?_
  obtain ⟨g20, c21, hf⟩ := sm_bindE hf
  refine sm_callV (As := [.int s1, .int s0, .int a1]) (rv := none) (h1 := g20) (c := 3) cvv_en_122 rfl rfl t2 (m_lo_add l lo hi _ t2 c21) rfl rfl d_en_changeLevel_83 ?_
  obtain rfl := sm_ret1 hf
  exact sm_vret d_en_changeLevel_86 rfl
theorem w_en_changeLevel_L52 (l : Launch) (lo hi d : Nat) (hS : sm_has lo hi) {h' : sm_H} (a0 : Nat) (a1 : Int32) (a2 : Int32) (a3 : Int32) (a4 : Int32) (s0 : Int32) (s1 : Int32) (s2 : Int32) (s3 : Nat) (h : sm_H) (e0 : sm_at lo hi (0, 7, 0) a0) (t3 : sm_arr lo hi 0 23 s3) (hf : f_en_changeLevel_L52 a0 a1 a2 a3 a4 s0 s1 s2 s3 h = some h') : sm_W l lo hi (d + 2) q_en_changeLevel 52 [(0, .ref a0), (1, .int a1), (2, .int a2), (3, .int a3), (4, .int a4)] [.int s0, .int s1, .int s2, .ref s3] h none h' := by
  unfold f_en_changeLevel_L52 at hf
  refine sm_iadd d_en_changeLevel_52 ?_
  obtain ⟨c14, hf⟩ := sm_gdE hf
  refine sm_iast t3 c14 d_en_changeLevel_53 ?_
  refine sm_nmH (fun g15 w16 => ?_)
  have hf := sm_letV w16 hf
  refine sm_aload_n 0 rfl d_en_changeLevel_54 ?_
  refine sm_getR (n := 3) fl_en_92 e0 rfl d_en_changeLevel_55 ?_
  refine sm_iload_n 3 rfl d_en_changeLevel_58 ?_
  obtain ⟨c17, hf⟩ := sm_gdE hf
  refine sm_iald (sm_at_arr (sm_inner e0 11 rfl rfl rfl)) c17 d_en_changeLevel_59 ?_
  refine sm_iload 4 rfl d_en_changeLevel_60 ?_
  refine sm_icmp_ne 86 d_en_changeLevel_62 rfl (fun c18 => ?_) (fun c18 => ?_)
  · have hf := sm_ifF c18 hf
    obtain rfl := sm_ret1 hf
    exact sm_vret d_en_changeLevel_86 rfl
  · have hf := sm_ifT c18 hf
    refine sm_aload_n 0 rfl d_en_changeLevel_65 ?_
    refine sm_getR (n := 9) fl_en_118 e0 rfl d_en_changeLevel_66 ?_
    refine sm_aload_n 0 rfl d_en_changeLevel_69 ?_
    refine sm_getI fl_en_28 e0 rfl d_en_changeLevel_70 ?_
    refine sm_iload_n 2 rfl d_en_changeLevel_73 ?_
    refine sm_if_eq 81 d_en_changeLevel_74 rfl (fun c19 => ?_) (fun c19 => ?_)
    · have hf := sm_ifT c19 hf
      refine sm_iconst (v := 5) (by decide) d_en_changeLevel_81 ?_
      refine sm_sub [1] rfl ?_
      exact w_en_changeLevel_L82 l lo hi d hS _ _ _ _ _ (sm_inner e0 17 rfl rfl rfl) hf
    · have hf := sm_ifF c19 hf
      refine sm_iconst (v := 4) (by decide) d_en_changeLevel_77 ?_
      refine sm_goto 82 d_en_changeLevel_78 rfl ?_
      refine sm_sub [1] rfl ?_
      exact w_en_changeLevel_L82 l lo hi d hS _ _ _ _ _ (sm_inner e0 17 rfl rfl rfl) hf
theorem w_en_changeLevel_L22 (l : Launch) (lo hi d : Nat) (hS : sm_has lo hi) {h' : sm_H} (a0 : Nat) (a1 : Int32) (a2 : Int32) (a3 : Int32) (s0 : Int32) (h : sm_H) (e0 : sm_at lo hi (0, 7, 0) a0) (hf : f_en_changeLevel_L22 a0 a1 a2 a3 s0 h = some h') : sm_W l lo hi (d + 2) q_en_changeLevel 22 [(0, .ref a0), (1, .int a1), (2, .int a2), (3, .int a3)] [.int s0] h none h' := by
  unfold f_en_changeLevel_L22 at hf
  refine sm_istore (lv' := [(4, .int s0), (0, .ref a0), (1, .int a1), (2, .int a2), (3, .int a3)]) d_en_changeLevel_22 rfl rfl ?_
  refine sm_aload_n 1 rfl d_en_changeLevel_24 ?_
  refine sm_getR (n := 3) fl_en_92 e0 rfl d_en_changeLevel_25 ?_
  refine sm_iload_n 4 rfl d_en_changeLevel_28 ?_
  obtain ⟨c10, hf⟩ := sm_gdE hf
  refine sm_iald (sm_at_arr (sm_inner e0 11 rfl rfl rfl)) c10 d_en_changeLevel_29 ?_
  refine sm_iload 0 rfl d_en_changeLevel_30 ?_
  refine sm_icmp_ne 36 d_en_changeLevel_32 rfl (fun c11 => ?_) (fun c11 => ?_)
  · have hf := sm_ifF c11 hf
    refine sm_aload_n 1 rfl d_en_changeLevel_36 ?_
    refine sm_getR (n := 3) fl_en_92 e0 rfl d_en_changeLevel_37 ?_
    refine sm_iload_n 4 rfl d_en_changeLevel_40 ?_
    refine sm_dup2 rfl rfl d_en_changeLevel_41 ?_
    obtain ⟨c12, hf⟩ := sm_gdE hf
    refine sm_iald (sm_at_arr (sm_inner e0 11 rfl rfl rfl)) c12 d_en_changeLevel_42 ?_
    refine sm_iload_n 3 rfl d_en_changeLevel_43 ?_
    refine sm_if_eq 51 d_en_changeLevel_44 rfl (fun c13 => ?_) (fun c13 => ?_)
    · have hf := sm_ifT c13 hf
      refine sm_iconst (v := (-1)) (by decide) d_en_changeLevel_51 ?_
      refine sm_sub [1, 2, 3, 4, 0] rfl ?_
      exact w_en_changeLevel_L52 l lo hi d hS _ _ _ _ _ _ _ _ _ _ e0 (sm_at_arr (sm_inner e0 11 rfl rfl rfl)) hf
    · have hf := sm_ifF c13 hf
      refine sm_iconst (v := 1) (by decide) d_en_changeLevel_47 ?_
      refine sm_goto 52 d_en_changeLevel_48 rfl ?_
      refine sm_sub [1, 2, 3, 4, 0] rfl ?_
      exact w_en_changeLevel_L52 l lo hi d hS _ _ _ _ _ _ _ _ _ _ e0 (sm_at_arr (sm_inner e0 11 rfl rfl rfl)) hf
  · have hf := sm_ifT c11 hf
    obtain rfl := sm_ret1 hf
    exact sm_vret d_en_changeLevel_35 rfl
theorem m_en_changeLevel (l : Launch) (lo hi d : Nat) (hS : sm_has lo hi) {a0 : Nat} {a1 : Int32} {a2 : Int32} {h h' : sm_H} (e0 : sm_at lo hi (0, 7, 0) a0) (hf : f_en_changeLevel a0 a1 a2 h = some h') : sm_Met l lo hi (d + 2) q_en_changeLevel [.ref a0, .int a1, .int a2] h none h' := by
  refine sm_Met.of (by decide +kernel) rfl ?_
  show sm_W l lo hi (d + 2) q_en_changeLevel 0 [(0, .ref a0), (1, .int a1), (2, .int a2)] [] h none h'
  unfold f_en_changeLevel at hf
  refine sm_bipush (v := 16) (by decide) d_en_changeLevel_0 ?_
  refine sm_iload_n 1 rfl d_en_changeLevel_2 ?_
  refine sm_iadd d_en_changeLevel_3 ?_
  refine sm_nmI (fun x1 w2 => ?_)
  have hf := sm_letV w2 hf
  refine sm_istore_n (lv' := [(3, .int x1), (0, .ref a0), (1, .int a1), (2, .int a2)]) d_en_changeLevel_4 rfl rfl ?_
  refine sm_iload_n 3 rfl d_en_changeLevel_5 ?_
  refine sm_if_eq 21 d_en_changeLevel_6 rfl (fun c3 => ?_) (fun c3 => ?_)
  · have hf := sm_ifT c3 hf
    refine sm_iconst (v := 0) (by decide) d_en_changeLevel_21 ?_
    refine sm_sub [1, 2, 3, 0] rfl ?_
    exact w_en_changeLevel_L22 l lo hi d hS _ _ _ _ _ _ e0 hf
  · have hf := sm_ifF c3 hf
    refine sm_aload_n 1 rfl d_en_changeLevel_9 ?_
    obtain ⟨c4, hf⟩ := sm_gdE hf
    obtain ⟨z5, v6⟩ := sm_isP_at hS c4
    refine sm_getD fl_en_70 e0 rfl z5 d_en_changeLevel_10 ?_
    refine sm_nmR (fun p7 w8 => ?_)
    have hf := sm_letV w8 hf
    have v6 := sm_ev w8 v6
    refine sm_getR (n := 2) fl_en_82 v6 rfl d_en_changeLevel_13 ?_
    refine sm_iload_n 0 rfl d_en_changeLevel_16 ?_
    obtain ⟨c9, hf⟩ := sm_gdE hf
    refine sm_iald (sm_at_arr (sm_inner v6 8 rfl rfl rfl)) c9 d_en_changeLevel_17 ?_
    refine sm_goto 22 d_en_changeLevel_18 rfl ?_
    refine sm_sub [1, 2, 3, 0] rfl ?_
    exact w_en_changeLevel_L22 l lo hi d hS _ _ _ _ _ _ e0 hf
theorem d_st_hasWay_0 : decode q_st_hasWay.2.1 0 = .ok (.aload_n 0, 1) := by decide +kernel
theorem d_st_hasWay_1 : decode q_st_hasWay.2.1 1 = .ok (.getfield 51, 3) := by decide +kernel
theorem d_st_hasWay_4 : decode q_st_hasWay.2.1 4 = .ok (.iload_n 1, 1) := by decide +kernel
theorem d_st_hasWay_5 : decode q_st_hasWay.2.1 5 = .ok (.invokevirtual 131, 3) := by decide +kernel
theorem d_st_hasWay_8 : decode q_st_hasWay.2.1 8 = .ok (.ifCond .ne 17, 3) := by decide +kernel
theorem d_st_hasWay_11 : decode q_st_hasWay.2.1 11 = .ok (.aload_n 0, 1) := by decide +kernel
theorem d_st_hasWay_12 : decode q_st_hasWay.2.1 12 = .ok (.getfield 51, 3) := by decide +kernel
theorem d_st_hasWay_15 : decode q_st_hasWay.2.1 15 = .ok (.getfield 135, 3) := by decide +kernel
theorem d_st_hasWay_18 : decode q_st_hasWay.2.1 18 = .ok (.iload_n 1, 1) := by decide +kernel
theorem d_st_hasWay_19 : decode q_st_hasWay.2.1 19 = .ok (.iaload, 1) := by decide +kernel
theorem d_st_hasWay_20 : decode q_st_hasWay.2.1 20 = .ok (.iload_n 2, 1) := by decide +kernel
theorem d_st_hasWay_21 : decode q_st_hasWay.2.1 21 = .ok (.iand, 1) := by decide +kernel
theorem d_st_hasWay_22 : decode q_st_hasWay.2.1 22 = .ok (.ifCond .eq 7, 3) := by decide +kernel
theorem d_st_hasWay_25 : decode q_st_hasWay.2.1 25 = .ok (.iconst 1, 1) := by decide +kernel
theorem d_st_hasWay_26 : decode q_st_hasWay.2.1 26 = .ok (.goto 4, 3) := by decide +kernel
theorem d_st_hasWay_29 : decode q_st_hasWay.2.1 29 = .ok (.iconst 0, 1) := by decide +kernel
theorem d_st_hasWay_30 : decode q_st_hasWay.2.1 30 = .ok (.ireturn, 1) := by decide +kernel
theorem w_st_hasWay_L30 (l : Launch) (lo hi d : Nat) (hS : sm_has lo hi) {h' : sm_H} {r0 : Int32} (s0 : Int32) (h : sm_H) (hf : f_st_hasWay_L30 s0 h = some (r0, h')) : sm_W l lo hi (d + 1) q_st_hasWay 30 [] [.int s0] h (some (.int r0)) h' := by
  unfold f_st_hasWay_L30 at hf
  obtain ⟨c17, hf⟩ := sm_gdE hf
  obtain ⟨rfl, rfl⟩ := sm_ret2 hf
  exact sm_bret c17 d_st_hasWay_30 rfl
theorem w_st_hasWay_L25 (l : Launch) (lo hi d : Nat) (hS : sm_has lo hi) {h' : sm_H} {r0 : Int32} (h : sm_H) (hf : f_st_hasWay_L25 h = some (r0, h')) : sm_W l lo hi (d + 1) q_st_hasWay 25 [] [] h (some (.int r0)) h' := by
  unfold f_st_hasWay_L25 at hf
  refine sm_iconst (v := 1) (by decide) d_st_hasWay_25 ?_
  refine sm_goto 30 d_st_hasWay_26 rfl ?_
  exact w_st_hasWay_L30 l lo hi d hS _ _ hf
theorem m_st_hasWay (l : Launch) (lo hi d : Nat) (hS : sm_has lo hi) {a0 : Nat} {a1 : Int32} {a2 : Int32} {r0 : Int32} {h h' : sm_H} (e0 : sm_at lo hi (0, 7, 0) a0) (hf : f_st_hasWay a0 a1 a2 h = some (r0, h')) : sm_Met l lo hi (d + 1) q_st_hasWay [.ref a0, .int a1, .int a2] h (some (.int r0)) h' := by
  refine sm_Met.of (by decide +kernel) rfl ?_
  show sm_W l lo hi (d + 1) q_st_hasWay 0 [(0, .ref a0), (1, .int a1), (2, .int a2)] [] h (some (.int r0)) h'
  unfold f_st_hasWay at hf
  refine sm_aload_n 0 rfl d_st_hasWay_0 ?_
  obtain ⟨c1, hf⟩ := sm_gdE hf
  obtain ⟨z2, v3⟩ := sm_isP_at hS c1
  refine sm_getD fl_st_51 e0 rfl z2 d_st_hasWay_1 ?_
  refine sm_nmR (fun p4 w5 => ?_)
  have hf := sm_letV w5 hf
  have v3 := sm_ev w5 v3
  refine sm_iload_n 1 rfl d_st_hasWay_4 ?_
  obtain ⟨r6, g7, c8, hf⟩ := sm_b2E hf
  refine sm_callV (As := [.int a1]) (rv := some (.int r6)) (h1 := g7) (c := 4) cvv_st_131 rfl rfl v3 (m_pl_isStairFan l lo hi _ v3 c8) rfl rfl d_st_hasWay_5 ?_
  refine sm_if_ne 25 d_st_hasWay_8 rfl (fun c9 => ?_) (fun c9 => ?_)
  · have hf := sm_ifF c9 hf
    refine sm_sub [] rfl ?_
    exact w_st_hasWay_L25 l lo hi d hS _ hf
  · have hf := sm_ifT c9 hf
    refine sm_aload_n 0 rfl d_st_hasWay_11 ?_
    obtain ⟨c10, hf⟩ := sm_gdE hf
    obtain ⟨z11, v12⟩ := sm_isP_at hS c10
    refine sm_getD fl_st_51 e0 rfl z11 d_st_hasWay_12 ?_
    refine sm_nmR (fun p13 w14 => ?_)
    have hf := sm_letV w14 hf
    have v12 := sm_ev w14 v12
    refine sm_getR (n := 5) fl_st_135 v12 rfl d_st_hasWay_15 ?_
    refine sm_iload_n 1 rfl d_st_hasWay_18 ?_
    obtain ⟨c15, hf⟩ := sm_gdE hf
    refine sm_iald (sm_at_arr (sm_inner v12 11 rfl rfl rfl)) c15 d_st_hasWay_19 ?_
    refine sm_iload_n 2 rfl d_st_hasWay_20 ?_
    refine sm_iand d_st_hasWay_21 ?_
    refine sm_if_eq 29 d_st_hasWay_22 rfl (fun c16 => ?_) (fun c16 => ?_)
    · have hf := sm_ifT c16 hf
      refine sm_iconst (v := 0) (by decide) d_st_hasWay_29 ?_
      refine sm_sub [] rfl ?_
      exact w_st_hasWay_L30 l lo hi d hS _ _ hf
    · have hf := sm_ifF c16 hf
      refine sm_sub [] rfl ?_
      exact w_st_hasWay_L25 l lo hi d hS _ hf
theorem d_en_runFans_0 : decode q_en_runFans.2.1 0 = .ok (.aload_n 1, 1) := by decide +kernel
theorem d_en_runFans_1 : decode q_en_runFans.2.1 1 = .ok (.getfield 70, 3) := by decide +kernel
theorem d_en_runFans_4 : decode q_en_runFans.2.1 4 = .ok (.astore_n 2, 1) := by decide +kernel
theorem d_en_runFans_5 : decode q_en_runFans.2.1 5 = .ok (.aload_n 1, 1) := by decide +kernel
theorem d_en_runFans_6 : decode q_en_runFans.2.1 6 = .ok (.invokevirtual 105, 3) := by decide +kernel
theorem d_en_runFans_9 : decode q_en_runFans.2.1 9 = .ok (.istore_n 3, 1) := by decide +kernel
theorem d_en_runFans_10 : decode q_en_runFans.2.1 10 = .ok (.iconst 0, 1) := by decide +kernel
theorem d_en_runFans_11 : decode q_en_runFans.2.1 11 = .ok (.istore 4, 2) := by decide +kernel
theorem d_en_runFans_13 : decode q_en_runFans.2.1 13 = .ok (.iload 4, 2) := by decide +kernel
theorem d_en_runFans_15 : decode q_en_runFans.2.1 15 = .ok (.aload_n 2, 1) := by decide +kernel
theorem d_en_runFans_16 : decode q_en_runFans.2.1 16 = .ok (.getfield 108, 3) := by decide +kernel
theorem d_en_runFans_19 : decode q_en_runFans.2.1 19 = .ok (.if_icmp .ge 127, 3) := by decide +kernel
theorem d_en_runFans_22 : decode q_en_runFans.2.1 22 = .ok (.bipush 16, 2) := by decide +kernel
theorem d_en_runFans_24 : decode q_en_runFans.2.1 24 = .ok (.iload 4, 2) := by decide +kernel
theorem d_en_runFans_26 : decode q_en_runFans.2.1 26 = .ok (.iadd, 1) := by decide +kernel
theorem d_en_runFans_27 : decode q_en_runFans.2.1 27 = .ok (.istore 5, 2) := by decide +kernel
theorem d_en_runFans_29 : decode q_en_runFans.2.1 29 = .ok (.aload_n 0, 1) := by decide +kernel
theorem d_en_runFans_30 : decode q_en_runFans.2.1 30 = .ok (.getfield 12, 3) := by decide +kernel
theorem d_en_runFans_33 : decode q_en_runFans.2.1 33 = .ok (.getfield 79, 3) := by decide +kernel
theorem d_en_runFans_36 : decode q_en_runFans.2.1 36 = .ok (.iload 5, 2) := by decide +kernel
theorem d_en_runFans_38 : decode q_en_runFans.2.1 38 = .ok (.iaload, 1) := by decide +kernel
theorem d_en_runFans_39 : decode q_en_runFans.2.1 39 = .ok (.iconst 1, 1) := by decide +kernel
theorem d_en_runFans_40 : decode q_en_runFans.2.1 40 = .ok (.if_icmp .ne 17, 3) := by decide +kernel
theorem d_en_runFans_43 : decode q_en_runFans.2.1 43 = .ok (.aload_n 1, 1) := by decide +kernel
theorem d_en_runFans_44 : decode q_en_runFans.2.1 44 = .ok (.iload 4, 2) := by decide +kernel
theorem d_en_runFans_46 : decode q_en_runFans.2.1 46 = .ok (.iload_n 3, 1) := by decide +kernel
theorem d_en_runFans_47 : decode q_en_runFans.2.1 47 = .ok (.invokevirtual 111, 3) := by decide +kernel
theorem d_en_runFans_50 : decode q_en_runFans.2.1 50 = .ok (.ifCond .eq 7, 3) := by decide +kernel
theorem d_en_runFans_53 : decode q_en_runFans.2.1 53 = .ok (.iconst 1, 1) := by decide +kernel
theorem d_en_runFans_54 : decode q_en_runFans.2.1 54 = .ok (.goto 4, 3) := by decide +kernel
theorem d_en_runFans_57 : decode q_en_runFans.2.1 57 = .ok (.iconst 0, 1) := by decide +kernel
theorem d_en_runFans_58 : decode q_en_runFans.2.1 58 = .ok (.istore 6, 2) := by decide +kernel
theorem d_en_runFans_60 : decode q_en_runFans.2.1 60 = .ok (.aload_n 1, 1) := by decide +kernel
theorem d_en_runFans_61 : decode q_en_runFans.2.1 61 = .ok (.iload 4, 2) := by decide +kernel
theorem d_en_runFans_63 : decode q_en_runFans.2.1 63 = .ok (.iload 6, 2) := by decide +kernel
theorem d_en_runFans_65 : decode q_en_runFans.2.1 65 = .ok (.ifCond .eq 19, 3) := by decide +kernel
theorem d_en_runFans_68 : decode q_en_runFans.2.1 68 = .ok (.aload_n 1, 1) := by decide +kernel
theorem d_en_runFans_69 : decode q_en_runFans.2.1 69 = .ok (.getfield 85, 3) := by decide +kernel
theorem d_en_runFans_72 : decode q_en_runFans.2.1 72 = .ok (.iload 5, 2) := by decide +kernel
theorem d_en_runFans_74 : decode q_en_runFans.2.1 74 = .ok (.invokestatic 88, 3) := by decide +kernel
theorem d_en_runFans_77 : decode q_en_runFans.2.1 77 = .ok (.ifCond .ne 7, 3) := by decide +kernel
theorem d_en_runFans_80 : decode q_en_runFans.2.1 80 = .ok (.iconst 1, 1) := by decide +kernel
theorem d_en_runFans_81 : decode q_en_runFans.2.1 81 = .ok (.goto 4, 3) := by decide +kernel
theorem d_en_runFans_84 : decode q_en_runFans.2.1 84 = .ok (.iconst 0, 1) := by decide +kernel
theorem d_en_runFans_85 : decode q_en_runFans.2.1 85 = .ok (.invokestatic 114, 3) := by decide +kernel
theorem d_en_runFans_88 : decode q_en_runFans.2.1 88 = .ok (.iload 6, 2) := by decide +kernel
theorem d_en_runFans_90 : decode q_en_runFans.2.1 90 = .ok (.ifCond .eq 24, 3) := by decide +kernel
theorem d_en_runFans_93 : decode q_en_runFans.2.1 93 = .ok (.aload_n 1, 1) := by decide +kernel
theorem d_en_runFans_94 : decode q_en_runFans.2.1 94 = .ok (.getfield 92, 3) := by decide +kernel
theorem d_en_runFans_97 : decode q_en_runFans.2.1 97 = .ok (.iload 5, 2) := by decide +kernel
theorem d_en_runFans_99 : decode q_en_runFans.2.1 99 = .ok (.iaload, 1) := by decide +kernel
theorem d_en_runFans_100 : decode q_en_runFans.2.1 100 = .ok (.aload_n 2, 1) := by decide +kernel
theorem d_en_runFans_101 : decode q_en_runFans.2.1 101 = .ok (.getfield 82, 3) := by decide +kernel
theorem d_en_runFans_104 : decode q_en_runFans.2.1 104 = .ok (.iload 5, 2) := by decide +kernel
theorem d_en_runFans_106 : decode q_en_runFans.2.1 106 = .ok (.iaload, 1) := by decide +kernel
theorem d_en_runFans_107 : decode q_en_runFans.2.1 107 = .ok (.if_icmp .ge 7, 3) := by decide +kernel
theorem d_en_runFans_110 : decode q_en_runFans.2.1 110 = .ok (.iconst 1, 1) := by decide +kernel
theorem d_en_runFans_111 : decode q_en_runFans.2.1 111 = .ok (.goto 4, 3) := by decide +kernel
theorem d_en_runFans_114 : decode q_en_runFans.2.1 114 = .ok (.iconst 0, 1) := by decide +kernel
theorem d_en_runFans_115 : decode q_en_runFans.2.1 115 = .ok (.istore 7, 2) := by decide +kernel
theorem d_en_runFans_117 : decode q_en_runFans.2.1 117 = .ok (.aload_n 1, 1) := by decide +kernel
theorem d_en_runFans_118 : decode q_en_runFans.2.1 118 = .ok (.iload 5, 2) := by decide +kernel
theorem d_en_runFans_120 : decode q_en_runFans.2.1 120 = .ok (.iload 7, 2) := by decide +kernel
theorem d_en_runFans_122 : decode q_en_runFans.2.1 122 = .ok (.aload_n 2, 1) := by decide +kernel
theorem d_en_runFans_123 : decode q_en_runFans.2.1 123 = .ok (.getfield 82, 3) := by decide +kernel
theorem d_en_runFans_126 : decode q_en_runFans.2.1 126 = .ok (.iload 5, 2) := by decide +kernel
theorem d_en_runFans_128 : decode q_en_runFans.2.1 128 = .ok (.iaload, 1) := by decide +kernel
theorem d_en_runFans_129 : decode q_en_runFans.2.1 129 = .ok (.aload_n 2, 1) := by decide +kernel
theorem d_en_runFans_130 : decode q_en_runFans.2.1 130 = .ok (.getfield 98, 3) := by decide +kernel
theorem d_en_runFans_133 : decode q_en_runFans.2.1 133 = .ok (.iadd, 1) := by decide +kernel
theorem d_en_runFans_134 : decode q_en_runFans.2.1 134 = .ok (.iconst 2, 1) := by decide +kernel
theorem d_en_runFans_135 : decode q_en_runFans.2.1 135 = .ok (.iload 4, 2) := by decide +kernel
theorem d_en_runFans_137 : decode q_en_runFans.2.1 137 = .ok (.invokevirtual 101, 3) := by decide +kernel
theorem d_en_runFans_140 : decode q_en_runFans.2.1 140 = .ok (.iinc 4 1, 3) := by decide +kernel
theorem d_en_runFans_143 : decode q_en_runFans.2.1 143 = .ok (.goto (-130), 3) := by decide +kernel
theorem d_en_runFans_146 : decode q_en_runFans.2.1 146 = .ok (.return_, 1) := by decide +kernel
theorem w_en_runFans_L115 (l : Launch) (lo hi d : Nat) (hS : sm_has lo hi) {k13 : Nat → Nat → Nat → Int32 → Int32 → sm_H → Option sm_H} {h' : sm_H} (hk13 : ∀ (a0 : Nat) (a1 : Nat) (a2 : Nat) (a3 : Int32) (a4 : Int32) (h : sm_H) (_ : sm_at lo hi (0, 2, 0) a0) (_ : sm_at lo hi (0, 7, 0) a1) (_ : sm_at lo hi (0, 4, 0) a2) , k13 a0 a1 a2 a3 a4 h = some h' → sm_W l lo hi (d + 3) q_en_runFans 13 [(0, .ref a0), (1, .ref a1), (2, .ref a2), (3, .int a3), (4, .int a4)] [] h none h') (a0 : Nat) (a1 : Nat) (a2 : Nat) (a3 : Int32) (a4 : Int32) (a5 : Int32) (s0 : Int32) (h : sm_H) (e0 : sm_at lo hi (0, 2, 0) a0) (e1 : sm_at lo hi (0, 7, 0) a1) (e2 : sm_at lo hi (0, 4, 0) a2) (hf : f_en_runFans_L115 k13 a0 a1 a2 a3 a4 a5 s0 h = some h') : sm_W l lo hi (d + 3) q_en_runFans 115 [(0, .ref a0), (1, .ref a1), (2, .ref a2), (3, .int a3), (4, .int a4), (5, .int a5)] [.int s0] h none h' := by
  unfold f_en_runFans_L115 at hf
  refine sm_istore (lv' := [(7, .int s0), (0, .ref a0), (1, .ref a1), (2, .ref a2), (3, .int a3), (4, .int a4), (5, .int a5)]) d_en_runFans_115 rfl rfl ?_
  refine sm_aload_n 2 rfl d_en_runFans_117 ?_
  refine sm_iload 6 rfl d_en_runFans_118 ?_
  refine sm_iload 0 rfl d_en_runFans_120 ?_
  refine sm_aload_n 3 rfl d_en_runFans_122 ?_
  refine sm_getR (n := 2) fl_en_82 e2 rfl d_en_runFans_123 ?_
  refine sm_iload 6 rfl d_en_runFans_126 ?_
  obtain ⟨c29, hf⟩ := sm_gdE hf
  refine sm_iald (sm_at_arr (sm_inner e2 8 rfl rfl rfl)) c29 d_en_runFans_128 ?_
  refine sm_aload_n 3 rfl d_en_runFans_129 ?_
  refine sm_getI fl_en_98 e2 rfl d_en_runFans_130 ?_
  refine sm_iadd d_en_runFans_133 ?_
  refine sm_iconst (v := 2) (by decide) d_en_runFans_134 ?_
  refine sm_iload 5 rfl d_en_runFans_135 ?_
  obtain ⟨g30, c31, hf⟩ := sm_bindE hf
  refine sm_callV (As := [.int a5, .int s0, .int ((h (a2 + 2) (a5 : Int32).toNatClampNeg) + (h a2 5)), .int 2, .int a4]) (rv := none) (h1 := g30) (c := 7) cvv_en_101 rfl rfl e1 (m_st_supervise l lo hi _ e1 c31) rfl rfl d_en_runFans_137 ?_
  obtain ⟨x32, w33⟩ : ∃ v : Int32, v = a4 + 1 := ⟨_, rfl⟩
  have hf := sm_letV w33 hf
  refine sm_iinc (v := x32) (lv' := [(4, .int x32), (7, .int s0), (0, .ref a0), (1, .ref a1), (2, .ref a2), (3, .int a3), (5, .int a5)]) 5 rfl (by rw [w33]; rfl) d_en_runFans_140 rfl rfl ?_
  refine sm_goto 13 d_en_runFans_143 rfl ?_
  refine sm_sub [2, 3, 4, 5, 0] rfl ?_
  exact hk13 _ _ _ _ _ _ e0 e1 e2 hf
theorem w_en_runFans_L114 (l : Launch) (lo hi d : Nat) (hS : sm_has lo hi) {k13 : Nat → Nat → Nat → Int32 → Int32 → sm_H → Option sm_H} {h' : sm_H} (hk13 : ∀ (a0 : Nat) (a1 : Nat) (a2 : Nat) (a3 : Int32) (a4 : Int32) (h : sm_H) (_ : sm_at lo hi (0, 2, 0) a0) (_ : sm_at lo hi (0, 7, 0) a1) (_ : sm_at lo hi (0, 4, 0) a2) , k13 a0 a1 a2 a3 a4 h = some h' → sm_W l lo hi (d + 3) q_en_runFans 13 [(0, .ref a0), (1, .ref a1), (2, .ref a2), (3, .int a3), (4, .int a4)] [] h none h') (a0 : Nat) (a1 : Nat) (a2 : Nat) (a3 : Int32) (a4 : Int32) (a5 : Int32) (h : sm_H) (e0 : sm_at lo hi (0, 2, 0) a0) (e1 : sm_at lo hi (0, 7, 0) a1) (e2 : sm_at lo hi (0, 4, 0) a2) (hf : f_en_runFans_L114 k13 a0 a1 a2 a3 a4 a5 h = some h') : sm_W l lo hi (d + 3) q_en_runFans 114 [(0, .ref a0), (1, .ref a1), (2, .ref a2), (3, .int a3), (4, .int a4), (5, .int a5)] [] h none h' := by
  unfold f_en_runFans_L114 at hf
  refine sm_iconst (v := 0) (by decide) d_en_runFans_114 ?_
  exact w_en_runFans_L115 l lo hi d hS hk13 _ _ _ _ _ _ _ _ e0 e1 e2 hf
theorem w_en_runFans_L85 (l : Launch) (lo hi d : Nat) (hS : sm_has lo hi) {k13 : Nat → Nat → Nat → Int32 → Int32 → sm_H → Option sm_H} {h' : sm_H} (hk13 : ∀ (a0 : Nat) (a1 : Nat) (a2 : Nat) (a3 : Int32) (a4 : Int32) (h : sm_H) (_ : sm_at lo hi (0, 2, 0) a0) (_ : sm_at lo hi (0, 7, 0) a1) (_ : sm_at lo hi (0, 4, 0) a2) , k13 a0 a1 a2 a3 a4 h = some h' → sm_W l lo hi (d + 3) q_en_runFans 13 [(0, .ref a0), (1, .ref a1), (2, .ref a2), (3, .int a3), (4, .int a4)] [] h none h') (a0 : Nat) (a1 : Nat) (a2 : Nat) (a3 : Int32) (a4 : Int32) (a5 : Int32) (a6 : Int32) (s0 : Int32) (s1 : Int32) (s2 : Nat) (h : sm_H) (e0 : sm_at lo hi (0, 2, 0) a0) (e1 : sm_at lo hi (0, 7, 0) a1) (e2 : sm_at lo hi (0, 4, 0) a2) (t2 : sm_at lo hi (0, 7, 0) s2) (hf : f_en_runFans_L85 k13 a0 a1 a2 a3 a4 a5 a6 s0 s1 s2 h = some h') : sm_W l lo hi (d + 3) q_en_runFans 85 [(0, .ref a0), (1, .ref a1), (2, .ref a2), (3, .int a3), (4, .int a4), (5, .int a5), (6, .int a6)] [.int s0, .int s1, .ref s2] h none h' := by
  unfold f_en_runFans_L85 at hf
  obtain ⟨g23, c24, hf⟩ := sm_bindE hf
  refine sm_callS (As := [.ref s2, .int s1, .int s0]) (rv := none) (h1 := g23) cvs_en_114 (m_en_changeLevel l lo hi _ hS t2 c24) rfl rfl d_en_runFans_85 ?_
  refine sm_iload 6 rfl d_en_runFans_88 ?_
  refine sm_if_eq 114 d_en_runFans_90 rfl (fun c25 => ?_) (fun c25 => ?_)
  · have hf := sm_ifT c25 hf
    refine sm_sub [0, 1, 2, 3, 4, 5] rfl ?_
    exact w_en_runFans_L114 l lo hi d hS hk13 _ _ _ _ _ _ _ e0 e1 e2 hf
  · have hf := sm_ifF c25 hf
    refine sm_aload_n 1 rfl d_en_runFans_93 ?_
    refine sm_getR (n := 3) fl_en_92 e1 rfl d_en_runFans_94 ?_
    refine sm_iload 5 rfl d_en_runFans_97 ?_
    obtain ⟨c26, hf⟩ := sm_gdE hf
    refine sm_iald (sm_at_arr (sm_inner e1 11 rfl rfl rfl)) c26 d_en_runFans_99 ?_
    refine sm_aload_n 2 rfl d_en_runFans_100 ?_
    refine sm_getR (n := 2) fl_en_82 e2 rfl d_en_runFans_101 ?_
    refine sm_iload 5 rfl d_en_runFans_104 ?_
    obtain ⟨c27, hf⟩ := sm_gdE hf
    refine sm_iald (sm_at_arr (sm_inner e2 8 rfl rfl rfl)) c27 d_en_runFans_106 ?_
    refine sm_icmp_ge 114 d_en_runFans_107 rfl (fun c28 => ?_) (fun c28 => ?_)
    · have hf := sm_ifT c28 hf
      refine sm_sub [0, 1, 2, 3, 4, 5] rfl ?_
      exact w_en_runFans_L114 l lo hi d hS hk13 _ _ _ _ _ _ _ e0 e1 e2 hf
    · have hf := sm_ifF c28 hf
      refine sm_iconst (v := 1) (by decide) d_en_runFans_110 ?_
      refine sm_goto 115 d_en_runFans_111 rfl ?_
      refine sm_sub [0, 1, 2, 3, 4, 5] rfl ?_
      exact w_en_runFans_L115 l lo hi d hS hk13 _ _ _ _ _ _ _ _ e0 e1 e2 hf
theorem w_en_runFans_L84 (l : Launch) (lo hi d : Nat) (hS : sm_has lo hi) {k13 : Nat → Nat → Nat → Int32 → Int32 → sm_H → Option sm_H} {h' : sm_H} (hk13 : ∀ (a0 : Nat) (a1 : Nat) (a2 : Nat) (a3 : Int32) (a4 : Int32) (h : sm_H) (_ : sm_at lo hi (0, 2, 0) a0) (_ : sm_at lo hi (0, 7, 0) a1) (_ : sm_at lo hi (0, 4, 0) a2) , k13 a0 a1 a2 a3 a4 h = some h' → sm_W l lo hi (d + 3) q_en_runFans 13 [(0, .ref a0), (1, .ref a1), (2, .ref a2), (3, .int a3), (4, .int a4)] [] h none h') (a0 : Nat) (a1 : Nat) (a2 : Nat) (a3 : Int32) (a4 : Int32) (a5 : Int32) (a6 : Int32) (s0 : Int32) (s1 : Nat) (h : sm_H) (e0 : sm_at lo hi (0, 2, 0) a0) (e1 : sm_at lo hi (0, 7, 0) a1) (e2 : sm_at lo hi (0, 4, 0) a2) (t1 : sm_at lo hi (0, 7, 0) s1) (hf : f_en_runFans_L84 k13 a0 a1 a2 a3 a4 a5 a6 s0 s1 h = some h') : sm_W l lo hi (d + 3) q_en_runFans 84 [(0, .ref a0), (1, .ref a1), (2, .ref a2), (3, .int a3), (4, .int a4), (5, .int a5), (6, .int a6)] [.int s0, .ref s1] h none h' := by
  unfold f_en_runFans_L84 at hf
  refine sm_iconst (v := 0) (by decide) d_en_runFans_84 ?_
  exact w_en_runFans_L85 l lo hi d hS hk13 _ _ _ _ _ _ _ _ _ _ _ e0 e1 e2 t1 hf
theorem w_en_runFans_L58 (l : Launch) (lo hi d : Nat) (hS : sm_has lo hi) {k13 : Nat → Nat → Nat → Int32 → Int32 → sm_H → Option sm_H} {h' : sm_H} (hk13 : ∀ (a0 : Nat) (a1 : Nat) (a2 : Nat) (a3 : Int32) (a4 : Int32) (h : sm_H) (_ : sm_at lo hi (0, 2, 0) a0) (_ : sm_at lo hi (0, 7, 0) a1) (_ : sm_at lo hi (0, 4, 0) a2) , k13 a0 a1 a2 a3 a4 h = some h' → sm_W l lo hi (d + 3) q_en_runFans 13 [(0, .ref a0), (1, .ref a1), (2, .ref a2), (3, .int a3), (4, .int a4)] [] h none h') (a0 : Nat) (a1 : Nat) (a2 : Nat) (a3 : Int32) (a4 : Int32) (a5 : Int32) (s0 : Int32) (h : sm_H) (e0 : sm_at lo hi (0, 2, 0) a0) (e1 : sm_at lo hi (0, 7, 0) a1) (e2 : sm_at lo hi (0, 4, 0) a2) (hf : f_en_runFans_L58 k13 a0 a1 a2 a3 a4 a5 s0 h = some h') : sm_W l lo hi (d + 3) q_en_runFans 58 [(0, .ref a0), (1, .ref a1), (2, .ref a2), (3, .int a3), (4, .int a4), (5, .int a5)] [.int s0] h none h' := by
  unfold f_en_runFans_L58 at hf
  refine sm_istore (lv' := [(6, .int s0), (0, .ref a0), (1, .ref a1), (2, .ref a2), (3, .int a3), (4, .int a4), (5, .int a5)]) d_en_runFans_58 rfl rfl ?_
  refine sm_aload_n 2 rfl d_en_runFans_60 ?_
  refine sm_iload 5 rfl d_en_runFans_61 ?_
  refine sm_iload 0 rfl d_en_runFans_63 ?_
  refine sm_if_eq 84 d_en_runFans_65 rfl (fun c18 => ?_) (fun c18 => ?_)
  · have hf := sm_ifT c18 hf
    refine sm_sub [1, 2, 3, 4, 5, 6, 0] rfl ?_
    exact w_en_runFans_L84 l lo hi d hS hk13 _ _ _ _ _ _ _ _ _ _ e0 e1 e2 e1 hf
  · have hf := sm_ifF c18 hf
    refine sm_aload_n 2 rfl d_en_runFans_68 ?_
    refine sm_getI fl_en_85 e1 rfl d_en_runFans_69 ?_
    refine sm_iload 6 rfl d_en_runFans_72 ?_
    obtain ⟨r19, g20, c21, hf⟩ := sm_b2E hf
    refine sm_callN (As := [.int (h a1 7), .int a5]) (rv := some (.int r19)) (h1 := g20) cvn_en_88 (m_sc_has l lo hi _ c21) rfl rfl d_en_runFans_74 ?_
    refine sm_if_ne 84 d_en_runFans_77 rfl (fun c22 => ?_) (fun c22 => ?_)
    · have hf := sm_ifF c22 hf
      refine sm_sub [1, 2, 3, 4, 5, 6, 0] rfl ?_
      exact w_en_runFans_L84 l lo hi d hS hk13 _ _ _ _ _ _ _ _ _ _ e0 e1 e2 e1 hf
    · have hf := sm_ifT c22 hf
      refine sm_iconst (v := 1) (by decide) d_en_runFans_80 ?_
      refine sm_goto 85 d_en_runFans_81 rfl ?_
      refine sm_sub [1, 2, 3, 4, 5, 6, 0] rfl ?_
      exact w_en_runFans_L85 l lo hi d hS hk13 _ _ _ _ _ _ _ _ _ _ _ e0 e1 e2 e1 hf
theorem w_en_runFans_L57 (l : Launch) (lo hi d : Nat) (hS : sm_has lo hi) {k13 : Nat → Nat → Nat → Int32 → Int32 → sm_H → Option sm_H} {h' : sm_H} (hk13 : ∀ (a0 : Nat) (a1 : Nat) (a2 : Nat) (a3 : Int32) (a4 : Int32) (h : sm_H) (_ : sm_at lo hi (0, 2, 0) a0) (_ : sm_at lo hi (0, 7, 0) a1) (_ : sm_at lo hi (0, 4, 0) a2) , k13 a0 a1 a2 a3 a4 h = some h' → sm_W l lo hi (d + 3) q_en_runFans 13 [(0, .ref a0), (1, .ref a1), (2, .ref a2), (3, .int a3), (4, .int a4)] [] h none h') (a0 : Nat) (a1 : Nat) (a2 : Nat) (a3 : Int32) (a4 : Int32) (a5 : Int32) (h : sm_H) (e0 : sm_at lo hi (0, 2, 0) a0) (e1 : sm_at lo hi (0, 7, 0) a1) (e2 : sm_at lo hi (0, 4, 0) a2) (hf : f_en_runFans_L57 k13 a0 a1 a2 a3 a4 a5 h = some h') : sm_W l lo hi (d + 3) q_en_runFans 57 [(0, .ref a0), (1, .ref a1), (2, .ref a2), (3, .int a3), (4, .int a4), (5, .int a5)] [] h none h' := by
  unfold f_en_runFans_L57 at hf
  refine sm_iconst (v := 0) (by decide) d_en_runFans_57 ?_
  exact w_en_runFans_L58 l lo hi d hS hk13 _ _ _ _ _ _ _ _ e0 e1 e2 hf
theorem w_en_runFans_L13 (l : Launch) (lo hi d : Nat) (hS : sm_has lo hi) {h' : sm_H} : ∀ (n : Nat) (a0 : Nat) (a1 : Nat) (a2 : Nat) (a3 : Int32) (a4 : Int32) (h : sm_H) (e0 : sm_at lo hi (0, 2, 0) a0) (e1 : sm_at lo hi (0, 7, 0) a1) (e2 : sm_at lo hi (0, 4, 0) a2) (hf : f_en_runFans_L13 n a0 a1 a2 a3 a4 h = some h'), sm_W l lo hi (d + 3) q_en_runFans 13 [(0, .ref a0), (1, .ref a1), (2, .ref a2), (3, .int a3), (4, .int a4)] [] h none h' := by
  intro n
  induction n with
  | zero =>
    intro a0 a1 a2 a3 a4 h e0 e1 e2 hf
    have z : (none : Option sm_H) = some _ := hf
    cases z
  | succ n ih =>
    intro a0 a1 a2 a3 a4 h e0 e1 e2 hf
    unfold f_en_runFans_L13 at hf
    refine sm_iload 4 rfl d_en_runFans_13 ?_
    refine sm_aload_n 2 rfl d_en_runFans_15 ?_
    refine sm_getI fl_en_108 e2 rfl d_en_runFans_16 ?_
    refine sm_icmp_ge 146 d_en_runFans_19 rfl (fun c9 => ?_) (fun c9 => ?_)
    · have hf := sm_ifT c9 hf
      obtain rfl := sm_ret1 hf
      exact sm_vret d_en_runFans_146 rfl
    · have hf := sm_ifF c9 hf
      refine sm_bipush (v := 16) (by decide) d_en_runFans_22 ?_
      refine sm_iload 4 rfl d_en_runFans_24 ?_
      refine sm_iadd d_en_runFans_26 ?_
      refine sm_nmI (fun x10 w11 => ?_)
      have hf := sm_letV w11 hf
      refine sm_istore (lv' := [(5, .int x10), (0, .ref a0), (1, .ref a1), (2, .ref a2), (3, .int a3), (4, .int a4)]) d_en_runFans_27 rfl rfl ?_
      refine sm_aload_n 1 rfl d_en_runFans_29 ?_
      refine sm_getR (n := 1) fl_en_12 e0 rfl d_en_runFans_30 ?_
      refine sm_getR (n := 2) fl_en_79 (sm_inner e0 0 rfl rfl rfl) rfl d_en_runFans_33 ?_
      refine sm_iload 0 rfl d_en_runFans_36 ?_
      obtain ⟨c12, hf⟩ := sm_gdE hf
      refine sm_iald (sm_at_arr (sm_inner (sm_inner e0 0 rfl rfl rfl) 1 rfl rfl rfl)) c12 d_en_runFans_38 ?_
      refine sm_iconst (v := 1) (by decide) d_en_runFans_39 ?_
      refine sm_icmp_ne 57 d_en_runFans_40 rfl (fun c13 => ?_) (fun c13 => ?_)
      · have hf := sm_ifF c13 hf
        refine sm_sub [1, 2, 3, 4, 5, 0] rfl ?_
        exact w_en_runFans_L57 l lo hi d hS ih _ _ _ _ _ _ _ e0 e1 e2 hf
      · have hf := sm_ifT c13 hf
        refine sm_aload_n 2 rfl d_en_runFans_43 ?_
        refine sm_iload 5 rfl d_en_runFans_44 ?_
        refine sm_iload_n 4 rfl d_en_runFans_46 ?_
        obtain ⟨r14, g15, c16, hf⟩ := sm_b2E hf
        refine sm_callV (As := [.int a4, .int a3]) (rv := some (.int r14)) (h1 := g15) (c := 7) cvv_en_111 rfl rfl e1 (m_st_hasWay l lo hi _ hS e1 c16) rfl rfl d_en_runFans_47 ?_
        refine sm_if_eq 57 d_en_runFans_50 rfl (fun c17 => ?_) (fun c17 => ?_)
        · have hf := sm_ifT c17 hf
          refine sm_sub [1, 2, 3, 4, 5, 0] rfl ?_
          exact w_en_runFans_L57 l lo hi d hS ih _ _ _ _ _ _ _ e0 e1 e2 hf
        · have hf := sm_ifF c17 hf
          refine sm_iconst (v := 1) (by decide) d_en_runFans_53 ?_
          refine sm_goto 58 d_en_runFans_54 rfl ?_
          refine sm_sub [1, 2, 3, 4, 5, 0] rfl ?_
          exact w_en_runFans_L58 l lo hi d hS ih _ _ _ _ _ _ _ _ e0 e1 e2 hf
theorem m_en_runFans (l : Launch) (lo hi d : Nat) (hS : sm_has lo hi) {a0 : Nat} {a1 : Nat} {h h' : sm_H} (e0 : sm_at lo hi (0, 2, 0) a0) (e1 : sm_at lo hi (0, 7, 0) a1) (hf : f_en_runFans a0 a1 h = some h') : sm_Met l lo hi (d + 3) q_en_runFans [.ref a0, .ref a1] h none h' := by
  refine sm_Met.of (by decide +kernel) rfl ?_
  show sm_W l lo hi (d + 3) q_en_runFans 0 [(0, .ref a0), (1, .ref a1)] [] h none h'
  unfold f_en_runFans at hf
  refine sm_aload_n 1 rfl d_en_runFans_0 ?_
  obtain ⟨c1, hf⟩ := sm_gdE hf
  obtain ⟨z2, v3⟩ := sm_isP_at hS c1
  refine sm_getD fl_en_70 e1 rfl z2 d_en_runFans_1 ?_
  refine sm_nmR (fun p4 w5 => ?_)
  have hf := sm_letV w5 hf
  have v3 := sm_ev w5 v3
  refine sm_astore_n (lv' := [(2, .ref p4), (0, .ref a0), (1, .ref a1)]) d_en_runFans_4 rfl rfl ?_
  refine sm_aload_n 2 rfl d_en_runFans_5 ?_
  obtain ⟨r6, g7, c8, hf⟩ := sm_b2E hf
  refine sm_callV (As := []) (rv := some (.int r6)) (h1 := g7) (c := 7) cvv_en_105 rfl rfl e1 (m_st_provenOpen l lo hi _ hS e1 c8) rfl rfl d_en_runFans_6 ?_
  refine sm_istore_n (lv' := [(3, .int r6), (2, .ref p4), (0, .ref a0), (1, .ref a1)]) d_en_runFans_9 rfl rfl ?_
  refine sm_iconst (v := 0) (by decide) d_en_runFans_10 ?_
  refine sm_istore (lv' := [(4, .int 0), (3, .int r6), (2, .ref p4), (0, .ref a0), (1, .ref a1)]) d_en_runFans_11 rfl rfl ?_
  refine sm_sub [3, 4, 2, 1, 0] rfl ?_
  exact w_en_runFans_L13 l lo hi d hS sm_N _ _ _ _ _ _ e0 e1 v3 hf
theorem d_st_stairAir_0 : decode q_st_stairAir.2.1 0 = .ok (.iconst 0, 1) := by decide +kernel
theorem d_st_stairAir_1 : decode q_st_stairAir.2.1 1 = .ok (.istore_n 1, 1) := by decide +kernel
theorem d_st_stairAir_2 : decode q_st_stairAir.2.1 2 = .ok (.iconst 0, 1) := by decide +kernel
theorem d_st_stairAir_3 : decode q_st_stairAir.2.1 3 = .ok (.istore_n 2, 1) := by decide +kernel
theorem d_st_stairAir_4 : decode q_st_stairAir.2.1 4 = .ok (.iload_n 2, 1) := by decide +kernel
theorem d_st_stairAir_5 : decode q_st_stairAir.2.1 5 = .ok (.aload_n 0, 1) := by decide +kernel
theorem d_st_stairAir_6 : decode q_st_stairAir.2.1 6 = .ok (.getfield 51, 3) := by decide +kernel
theorem d_st_stairAir_9 : decode q_st_stairAir.2.1 9 = .ok (.getfield 141, 3) := by decide +kernel
theorem d_st_stairAir_12 : decode q_st_stairAir.2.1 12 = .ok (.if_icmp .ge 32, 3) := by decide +kernel
theorem d_st_stairAir_15 : decode q_st_stairAir.2.1 15 = .ok (.iload_n 1, 1) := by decide +kernel
theorem d_st_stairAir_16 : decode q_st_stairAir.2.1 16 = .ok (.aload_n 0, 1) := by decide +kernel
theorem d_st_stairAir_17 : decode q_st_stairAir.2.1 17 = .ok (.getfield 51, 3) := by decide +kernel
theorem d_st_stairAir_20 : decode q_st_stairAir.2.1 20 = .ok (.iload_n 2, 1) := by decide +kernel
theorem d_st_stairAir_21 : decode q_st_stairAir.2.1 21 = .ok (.invokevirtual 131, 3) := by decide +kernel
theorem d_st_stairAir_24 : decode q_st_stairAir.2.1 24 = .ok (.ifCond .eq 11, 3) := by decide +kernel
theorem d_st_stairAir_27 : decode q_st_stairAir.2.1 27 = .ok (.aload_n 0, 1) := by decide +kernel
theorem d_st_stairAir_28 : decode q_st_stairAir.2.1 28 = .ok (.iload_n 2, 1) := by decide +kernel
theorem d_st_stairAir_29 : decode q_st_stairAir.2.1 29 = .ok (.invokevirtual 144, 3) := by decide +kernel
theorem d_st_stairAir_32 : decode q_st_stairAir.2.1 32 = .ok (.goto 4, 3) := by decide +kernel
theorem d_st_stairAir_35 : decode q_st_stairAir.2.1 35 = .ok (.iconst 0, 1) := by decide +kernel
theorem d_st_stairAir_36 : decode q_st_stairAir.2.1 36 = .ok (.iadd, 1) := by decide +kernel
theorem d_st_stairAir_37 : decode q_st_stairAir.2.1 37 = .ok (.istore_n 1, 1) := by decide +kernel
theorem d_st_stairAir_38 : decode q_st_stairAir.2.1 38 = .ok (.iinc 2 1, 3) := by decide +kernel
theorem d_st_stairAir_41 : decode q_st_stairAir.2.1 41 = .ok (.goto (-37), 3) := by decide +kernel
theorem d_st_stairAir_44 : decode q_st_stairAir.2.1 44 = .ok (.iload_n 1, 1) := by decide +kernel
theorem d_st_stairAir_45 : decode q_st_stairAir.2.1 45 = .ok (.ireturn, 1) := by decide +kernel
theorem w_st_stairAir_L44 (l : Launch) (lo hi d : Nat) (hS : sm_has lo hi) {h' : sm_H} {r0 : Int32} (a1 : Int32) (h : sm_H) (hf : f_st_stairAir_L44 a1 h = some (r0, h')) : sm_W l lo hi (d + 1) q_st_stairAir 44 [(1, .int a1)] [] h (some (.int r0)) h' := by
  unfold f_st_stairAir_L44 at hf
  refine sm_iload_n 0 rfl d_st_stairAir_44 ?_
  obtain ⟨rfl, rfl⟩ := sm_ret2 hf
  exact sm_iret d_st_stairAir_45 rfl
theorem w_st_stairAir_L36 (l : Launch) (lo hi d : Nat) (hS : sm_has lo hi) {k4 : Nat → Int32 → Int32 → sm_H → Option (Int32 × sm_H)} {h' : sm_H} {r0 : Int32} (hk4 : ∀ (a0 : Nat) (a1 : Int32) (a2 : Int32) (h : sm_H) (_ : sm_at lo hi (0, 7, 0) a0) , k4 a0 a1 a2 h = some (r0, h') → sm_W l lo hi (d + 1) q_st_stairAir 4 [(0, .ref a0), (1, .int a1), (2, .int a2)] [] h (some (.int r0)) h') (a0 : Nat) (a2 : Int32) (s0 : Int32) (s1 : Int32) (h : sm_H) (e0 : sm_at lo hi (0, 7, 0) a0) (hf : f_st_stairAir_L36 k4 a0 a2 s0 s1 h = some (r0, h')) : sm_W l lo hi (d + 1) q_st_stairAir 36 [(0, .ref a0), (2, .int a2)] [.int s0, .int s1] h (some (.int r0)) h' := by
  unfold f_st_stairAir_L36 at hf
  refine sm_iadd d_st_stairAir_36 ?_
  refine sm_nmI (fun x19 w20 => ?_)
  have hf := sm_letV w20 hf
  refine sm_istore_n (lv' := [(1, .int x19), (0, .ref a0), (2, .int a2)]) d_st_stairAir_37 rfl rfl ?_
  obtain ⟨x21, w22⟩ : ∃ v : Int32, v = a2 + 1 := ⟨_, rfl⟩
  have hf := sm_letV w22 hf
  refine sm_iinc (v := x21) (lv' := [(2, .int x21), (1, .int x19), (0, .ref a0)]) 2 rfl (by rw [w22]; rfl) d_st_stairAir_38 rfl rfl ?_
  refine sm_goto 4 d_st_stairAir_41 rfl ?_
  refine sm_sub [2, 1, 0] rfl ?_
  exact hk4 _ _ _ _ e0 hf
theorem w_st_stairAir_L4 (l : Launch) (lo hi d : Nat) (hS : sm_has lo hi) {h' : sm_H} {r0 : Int32} : ∀ (n : Nat) (a0 : Nat) (a1 : Int32) (a2 : Int32) (h : sm_H) (e0 : sm_at lo hi (0, 7, 0) a0) (hf : f_st_stairAir_L4 n a0 a1 a2 h = some (r0, h')), sm_W l lo hi (d + 1) q_st_stairAir 4 [(0, .ref a0), (1, .int a1), (2, .int a2)] [] h (some (.int r0)) h' := by
  intro n
  induction n with
  | zero =>
    intro a0 a1 a2 h e0 hf
    have z : (none : Option (Int32 × sm_H)) = some _ := hf
    cases z
  | succ n ih =>
    intro a0 a1 a2 h e0 hf
    unfold f_st_stairAir_L4 at hf
    refine sm_iload_n 2 rfl d_st_stairAir_4 ?_
    refine sm_aload_n 0 rfl d_st_stairAir_5 ?_
    obtain ⟨c1, hf⟩ := sm_gdE hf
    obtain ⟨z2, v3⟩ := sm_isP_at hS c1
    refine sm_getD fl_st_51 e0 rfl z2 d_st_stairAir_6 ?_
    refine sm_nmR (fun p4 w5 => ?_)
    have hf := sm_letV w5 hf
    have v3 := sm_ev w5 v3
    refine sm_getI fl_st_141 v3 rfl d_st_stairAir_9 ?_
    refine sm_icmp_ge 44 d_st_stairAir_12 rfl (fun c6 => ?_) (fun c6 => ?_)
    · have hf := sm_ifT c6 hf
      refine sm_sub [1] rfl ?_
      exact w_st_stairAir_L44 l lo hi d hS _ _ hf
    · have hf := sm_ifF c6 hf
      refine sm_iload_n 1 rfl d_st_stairAir_15 ?_
      refine sm_aload_n 0 rfl d_st_stairAir_16 ?_
      obtain ⟨c7, hf⟩ := sm_gdE hf
      obtain ⟨z8, v9⟩ := sm_isP_at hS c7
      refine sm_getD fl_st_51 e0 rfl z8 d_st_stairAir_17 ?_
      refine sm_nmR (fun p10 w11 => ?_)
      have hf := sm_letV w11 hf
      have v9 := sm_ev w11 v9
      refine sm_iload_n 2 rfl d_st_stairAir_20 ?_
      obtain ⟨r12, g13, c14, hf⟩ := sm_b2E hf
      refine sm_callV (As := [.int a2]) (rv := some (.int r12)) (h1 := g13) (c := 4) cvv_st_131 rfl rfl v9 (m_pl_isStairFan l lo hi _ v9 c14) rfl rfl d_st_stairAir_21 ?_
      refine sm_if_eq 35 d_st_stairAir_24 rfl (fun c15 => ?_) (fun c15 => ?_)
      · have hf := sm_ifT c15 hf
        refine sm_iconst (v := 0) (by decide) d_st_stairAir_35 ?_
        refine sm_sub [0, 2] rfl ?_
        exact w_st_stairAir_L36 l lo hi d hS ih _ _ _ _ _ e0 hf
      · have hf := sm_ifF c15 hf
        refine sm_aload_n 0 rfl d_st_stairAir_27 ?_
        refine sm_iload_n 2 rfl d_st_stairAir_28 ?_
        obtain ⟨r16, g17, c18, hf⟩ := sm_b2E hf
        refine sm_callV (As := [.int a2]) (rv := some (.int r16)) (h1 := g17) (c := 7) cvv_st_144 rfl rfl e0 (m_st_fanAir l lo hi _ hS e0 c18) rfl rfl d_st_stairAir_29 ?_
        refine sm_goto 36 d_st_stairAir_32 rfl ?_
        refine sm_sub [0, 2] rfl ?_
        exact w_st_stairAir_L36 l lo hi d hS ih _ _ _ _ _ e0 hf
theorem m_st_stairAir (l : Launch) (lo hi d : Nat) (hS : sm_has lo hi) {a0 : Nat} {r0 : Int32} {h h' : sm_H} (e0 : sm_at lo hi (0, 7, 0) a0) (hf : f_st_stairAir a0 h = some (r0, h')) : sm_Met l lo hi (d + 1) q_st_stairAir [.ref a0] h (some (.int r0)) h' := by
  refine sm_Met.of (by decide +kernel) rfl ?_
  show sm_W l lo hi (d + 1) q_st_stairAir 0 [(0, .ref a0)] [] h (some (.int r0)) h'
  unfold f_st_stairAir at hf
  refine sm_iconst (v := 0) (by decide) d_st_stairAir_0 ?_
  refine sm_istore_n (lv' := [(1, .int 0), (0, .ref a0)]) d_st_stairAir_1 rfl rfl ?_
  refine sm_iconst (v := 0) (by decide) d_st_stairAir_2 ?_
  refine sm_istore_n (lv' := [(2, .int 0), (1, .int 0), (0, .ref a0)]) d_st_stairAir_3 rfl rfl ?_
  refine sm_sub [2, 1, 0] rfl ?_
  exact w_st_stairAir_L4 l lo hi d hS sm_N _ _ _ _ e0 hf
theorem d_en_pass_0 : decode q_en_pass.2.1 0 = .ok (.iconst 0, 1) := by decide +kernel
theorem d_en_pass_1 : decode q_en_pass.2.1 1 = .ok (.istore_n 3, 1) := by decide +kernel
theorem d_en_pass_2 : decode q_en_pass.2.1 2 = .ok (.iload_n 3, 1) := by decide +kernel
theorem d_en_pass_3 : decode q_en_pass.2.1 3 = .ok (.iload_n 2, 1) := by decide +kernel
theorem d_en_pass_4 : decode q_en_pass.2.1 4 = .ok (.if_icmp .ge 88, 3) := by decide +kernel
theorem d_en_pass_7 : decode q_en_pass.2.1 7 = .ok (.aload_n 1, 1) := by decide +kernel
theorem d_en_pass_8 : decode q_en_pass.2.1 8 = .ok (.getfield 28, 3) := by decide +kernel
theorem d_en_pass_11 : decode q_en_pass.2.1 11 = .ok (.sipush 9999, 3) := by decide +kernel
theorem d_en_pass_14 : decode q_en_pass.2.1 14 = .ok (.if_icmp .ge 78, 3) := by decide +kernel
theorem d_en_pass_17 : decode q_en_pass.2.1 17 = .ok (.aload_n 0, 1) := by decide +kernel
theorem d_en_pass_18 : decode q_en_pass.2.1 18 = .ok (.getfield 12, 3) := by decide +kernel
theorem d_en_pass_21 : decode q_en_pass.2.1 21 = .ok (.aload_n 1, 1) := by decide +kernel
theorem d_en_pass_22 : decode q_en_pass.2.1 22 = .ok (.invokevirtual 34, 3) := by decide +kernel
theorem d_en_pass_25 : decode q_en_pass.2.1 25 = .ok (.aload_n 1, 1) := by decide +kernel
theorem d_en_pass_26 : decode q_en_pass.2.1 26 = .ok (.dup, 1) := by decide +kernel
theorem d_en_pass_27 : decode q_en_pass.2.1 27 = .ok (.getfield 28, 3) := by decide +kernel
theorem d_en_pass_30 : decode q_en_pass.2.1 30 = .ok (.iconst 1, 1) := by decide +kernel
theorem d_en_pass_31 : decode q_en_pass.2.1 31 = .ok (.iadd, 1) := by decide +kernel
theorem d_en_pass_32 : decode q_en_pass.2.1 32 = .ok (.putfield 28, 3) := by decide +kernel
theorem d_en_pass_35 : decode q_en_pass.2.1 35 = .ok (.aload_n 0, 1) := by decide +kernel
theorem d_en_pass_36 : decode q_en_pass.2.1 36 = .ok (.aload_n 1, 1) := by decide +kernel
theorem d_en_pass_37 : decode q_en_pass.2.1 37 = .ok (.invokevirtual 38, 3) := by decide +kernel
theorem d_en_pass_40 : decode q_en_pass.2.1 40 = .ok (.aload_n 0, 1) := by decide +kernel
theorem d_en_pass_41 : decode q_en_pass.2.1 41 = .ok (.aload_n 1, 1) := by decide +kernel
theorem d_en_pass_42 : decode q_en_pass.2.1 42 = .ok (.invokevirtual 41, 3) := by decide +kernel
theorem d_en_pass_45 : decode q_en_pass.2.1 45 = .ok (.aload_n 1, 1) := by decide +kernel
theorem d_en_pass_46 : decode q_en_pass.2.1 46 = .ok (.invokevirtual 44, 3) := by decide +kernel
theorem d_en_pass_49 : decode q_en_pass.2.1 49 = .ok (.aload_n 1, 1) := by decide +kernel
theorem d_en_pass_50 : decode q_en_pass.2.1 50 = .ok (.getfield 48, 3) := by decide +kernel
theorem d_en_pass_53 : decode q_en_pass.2.1 53 = .ok (.imul, 1) := by decide +kernel
theorem d_en_pass_54 : decode q_en_pass.2.1 54 = .ok (.bipush 100, 2) := by decide +kernel
theorem d_en_pass_56 : decode q_en_pass.2.1 56 = .ok (.idiv, 1) := by decide +kernel
theorem d_en_pass_57 : decode q_en_pass.2.1 57 = .ok (.istore 4, 2) := by decide +kernel
theorem d_en_pass_59 : decode q_en_pass.2.1 59 = .ok (.aload_n 0, 1) := by decide +kernel
theorem d_en_pass_60 : decode q_en_pass.2.1 60 = .ok (.aload_n 1, 1) := by decide +kernel
theorem d_en_pass_61 : decode q_en_pass.2.1 61 = .ok (.iload 4, 2) := by decide +kernel
theorem d_en_pass_63 : decode q_en_pass.2.1 63 = .ok (.invokevirtual 51, 3) := by decide +kernel
theorem d_en_pass_66 : decode q_en_pass.2.1 66 = .ok (.aload_n 0, 1) := by decide +kernel
theorem d_en_pass_67 : decode q_en_pass.2.1 67 = .ok (.aload_n 1, 1) := by decide +kernel
theorem d_en_pass_68 : decode q_en_pass.2.1 68 = .ok (.invokevirtual 55, 3) := by decide +kernel
theorem d_en_pass_71 : decode q_en_pass.2.1 71 = .ok (.aload_n 0, 1) := by decide +kernel
theorem d_en_pass_72 : decode q_en_pass.2.1 72 = .ok (.aload_n 1, 1) := by decide +kernel
theorem d_en_pass_73 : decode q_en_pass.2.1 73 = .ok (.iload 4, 2) := by decide +kernel
theorem d_en_pass_75 : decode q_en_pass.2.1 75 = .ok (.invokevirtual 58, 3) := by decide +kernel
theorem d_en_pass_78 : decode q_en_pass.2.1 78 = .ok (.aload_n 1, 1) := by decide +kernel
theorem d_en_pass_79 : decode q_en_pass.2.1 79 = .ok (.getfield 61, 3) := by decide +kernel
theorem d_en_pass_82 : decode q_en_pass.2.1 82 = .ok (.aload_n 1, 1) := by decide +kernel
theorem d_en_pass_83 : decode q_en_pass.2.1 83 = .ok (.invokevirtual 65, 3) := by decide +kernel
theorem d_en_pass_86 : decode q_en_pass.2.1 86 = .ok (.iinc 3 1, 3) := by decide +kernel
theorem d_en_pass_89 : decode q_en_pass.2.1 89 = .ok (.goto (-87), 3) := by decide +kernel
theorem d_en_pass_92 : decode q_en_pass.2.1 92 = .ok (.iload_n 3, 1) := by decide +kernel
theorem d_en_pass_93 : decode q_en_pass.2.1 93 = .ok (.ireturn, 1) := by decide +kernel
theorem w_en_pass_L92 (l : Launch) (lo hi d : Nat) (hS : sm_has lo hi) {h' : sm_H} {r0 : Int32} (a3 : Int32) (h : sm_H) (hf : f_en_pass_L92 a3 h = some (r0, h')) : sm_W l lo hi (d + 5) q_en_pass 92 [(3, .int a3)] [] h (some (.int r0)) h' := by
  unfold f_en_pass_L92 at hf
  refine sm_iload_n 0 rfl d_en_pass_92 ?_
  obtain ⟨rfl, rfl⟩ := sm_ret2 hf
  exact sm_iret d_en_pass_93 rfl
theorem w_en_pass_L2 (l : Launch) (lo hi d : Nat) (hS : sm_has lo hi) {h' : sm_H} {r0 : Int32} : ∀ (n : Nat) (a0 : Nat) (a1 : Nat) (a2 : Int32) (a3 : Int32) (h : sm_H) (e0 : sm_at lo hi (0, 2, 0) a0) (e1 : sm_at lo hi (0, 7, 0) a1) (hf : f_en_pass_L2 n a0 a1 a2 a3 h = some (r0, h')), sm_W l lo hi (d + 5) q_en_pass 2 [(0, .ref a0), (1, .ref a1), (2, .int a2), (3, .int a3)] [] h (some (.int r0)) h' := by
  intro n
  induction n with
  | zero =>
    intro a0 a1 a2 a3 h e0 e1 hf
    have z : (none : Option (Int32 × sm_H)) = some _ := hf
    cases z
  | succ n ih =>
    intro a0 a1 a2 a3 h e0 e1 hf
    unfold f_en_pass_L2 at hf
    refine sm_iload_n 3 rfl d_en_pass_2 ?_
    refine sm_iload_n 2 rfl d_en_pass_3 ?_
    refine sm_icmp_ge 92 d_en_pass_4 rfl (fun c1 => ?_) (fun c1 => ?_)
    · have hf := sm_ifT c1 hf
      refine sm_sub [3] rfl ?_
      exact w_en_pass_L92 l lo hi d hS _ _ hf
    · have hf := sm_ifF c1 hf
      refine sm_aload_n 1 rfl d_en_pass_7 ?_
      refine sm_getI fl_en_28 e1 rfl d_en_pass_8 ?_
      refine sm_sipush (v := 9999) (by decide) d_en_pass_11 ?_
      refine sm_icmp_ge 92 d_en_pass_14 rfl (fun c2 => ?_) (fun c2 => ?_)
      · have hf := sm_ifT c2 hf
        refine sm_sub [3] rfl ?_
        exact w_en_pass_L92 l lo hi d hS _ _ hf
      · have hf := sm_ifF c2 hf
        refine sm_aload_n 0 rfl d_en_pass_17 ?_
        refine sm_getR (n := 1) fl_en_12 e0 rfl d_en_pass_18 ?_
        refine sm_aload_n 1 rfl d_en_pass_21 ?_
        obtain ⟨g3, c4, hf⟩ := sm_bindE hf
        refine sm_callV (As := [.ref a1]) (rv := none) (h1 := g3) (c := 1) cvv_en_34 rfl rfl (sm_inner e0 0 rfl rfl rfl) (m_co_determine l lo hi _ hS (sm_inner e0 0 rfl rfl rfl) e1 c4) rfl rfl d_en_pass_22 ?_
        refine sm_aload_n 1 rfl d_en_pass_25 ?_
        refine sm_dup rfl d_en_pass_26 ?_
        refine sm_getI fl_en_28 e1 rfl d_en_pass_27 ?_
        refine sm_iconst (v := 1) (by decide) d_en_pass_30 ?_
        refine sm_iadd d_en_pass_31 ?_
        refine sm_putI fp_en_28 e1 rfl rfl d_en_pass_32 ?_
        refine sm_nmH (fun g5 w6 => ?_)
        have hf := sm_letV w6 hf
        refine sm_aload_n 0 rfl d_en_pass_35 ?_
        refine sm_aload_n 1 rfl d_en_pass_36 ?_
        obtain ⟨g7, c8, hf⟩ := sm_bindE hf
        refine sm_callV (As := [.ref a1]) (rv := none) (h1 := g7) (c := 2) cvv_en_38 rfl rfl e0 (m_en_moveDampers l lo hi _ hS e0 e1 c8) rfl rfl d_en_pass_37 ?_
        refine sm_aload_n 0 rfl d_en_pass_40 ?_
        refine sm_aload_n 1 rfl d_en_pass_41 ?_
        obtain ⟨g9, c10, hf⟩ := sm_bindE hf
        refine sm_callV (As := [.ref a1]) (rv := none) (h1 := g9) (c := 2) cvv_en_41 rfl rfl e0 (m_en_runFans l lo hi _ hS e0 e1 c10) rfl rfl d_en_pass_42 ?_
        refine sm_aload_n 1 rfl d_en_pass_45 ?_
        obtain ⟨r11, g12, c13, hf⟩ := sm_b2E hf
        refine sm_callV (As := []) (rv := some (.int r11)) (h1 := g12) (c := 7) cvv_en_44 rfl rfl e1 (m_st_stairAir l lo hi _ hS e1 c13) rfl rfl d_en_pass_46 ?_
        refine sm_aload_n 1 rfl d_en_pass_49 ?_
        refine sm_getI fl_en_48 e1 rfl d_en_pass_50 ?_
        refine sm_imul d_en_pass_53 ?_
        refine sm_bipush (v := 100) (by decide) d_en_pass_54 ?_
        refine sm_idiv (by decide) d_en_pass_56 ?_
        refine sm_nmI (fun x14 w15 => ?_)
        have hf := sm_letV w15 hf
        refine sm_istore (lv' := [(4, .int x14), (0, .ref a0), (1, .ref a1), (2, .int a2), (3, .int a3)]) d_en_pass_57 rfl rfl ?_
        refine sm_aload_n 1 rfl d_en_pass_59 ?_
        refine sm_aload_n 2 rfl d_en_pass_60 ?_
        refine sm_iload 0 rfl d_en_pass_61 ?_
        obtain ⟨g16, c17, hf⟩ := sm_bindE hf
        refine sm_callV (As := [.ref a1, .int x14]) (rv := none) (h1 := g16) (c := 2) cvv_en_51 rfl rfl e0 (m_en_controlPressure l lo hi _ hS e0 e1 c17) rfl rfl d_en_pass_63 ?_
        refine sm_aload_n 1 rfl d_en_pass_66 ?_
        refine sm_aload_n 2 rfl d_en_pass_67 ?_
        obtain ⟨g18, c19, hf⟩ := sm_bindE hf
        refine sm_callV (As := [.ref a1]) (rv := none) (h1 := g18) (c := 2) cvv_en_55 rfl rfl e0 (m_en_divideAir l lo hi _ hS e0 e1 c19) rfl rfl d_en_pass_68 ?_
        refine sm_aload_n 1 rfl d_en_pass_71 ?_
        refine sm_aload_n 2 rfl d_en_pass_72 ?_
        refine sm_iload 0 rfl d_en_pass_73 ?_
        obtain ⟨g20, c21, hf⟩ := sm_bindE hf
        refine sm_callV (As := [.ref a1, .int x14]) (rv := none) (h1 := g20) (c := 2) cvv_en_58 rfl rfl e0 (m_en_moveSmoke l lo hi _ hS e0 e1 c21) rfl rfl d_en_pass_75 ?_
        refine sm_aload_n 2 rfl d_en_pass_78 ?_
        refine sm_getR (n := 8) fl_en_61 e1 rfl d_en_pass_79 ?_
        refine sm_aload_n 2 rfl d_en_pass_82 ?_
        obtain ⟨g22, c23, hf⟩ := sm_bindE hf
        refine sm_callV (As := [.ref a1]) (rv := none) (h1 := g22) (c := 0) cvv_en_65 rfl rfl (sm_inner e1 16 rfl rfl rfl) (m_al_raise l lo hi _ hS (sm_inner e1 16 rfl rfl rfl) e1 c23) rfl rfl d_en_pass_83 ?_
        obtain ⟨x24, w25⟩ : ∃ v : Int32, v = a3 + 1 := ⟨_, rfl⟩
        have hf := sm_letV w25 hf
        refine sm_iinc (v := x24) (lv' := [(3, .int x24), (4, .int x14), (0, .ref a0), (1, .ref a1), (2, .int a2)]) 4 rfl (by rw [w25]; rfl) d_en_pass_86 rfl rfl ?_
        refine sm_goto 2 d_en_pass_89 rfl ?_
        refine sm_sub [2, 3, 4, 0] rfl ?_
        exact ih _ _ _ _ _ e0 e1 hf
theorem m_en_pass (l : Launch) (lo hi d : Nat) (hS : sm_has lo hi) {a0 : Nat} {a1 : Nat} {a2 : Int32} {r0 : Int32} {h h' : sm_H} (e0 : sm_at lo hi (0, 2, 0) a0) (e1 : sm_at lo hi (0, 7, 0) a1) (hf : f_en_pass a0 a1 a2 h = some (r0, h')) : sm_Met l lo hi (d + 5) q_en_pass [.ref a0, .ref a1, .int a2] h (some (.int r0)) h' := by
  refine sm_Met.of (by decide +kernel) rfl ?_
  show sm_W l lo hi (d + 5) q_en_pass 0 [(0, .ref a0), (1, .ref a1), (2, .int a2)] [] h (some (.int r0)) h'
  unfold f_en_pass at hf
  refine sm_iconst (v := 0) (by decide) d_en_pass_0 ?_
  refine sm_istore_n (lv' := [(3, .int 0), (0, .ref a0), (1, .ref a1), (2, .int a2)]) d_en_pass_1 rfl rfl ?_
  refine sm_sub [1, 2, 3, 0] rfl ?_
  exact w_en_pass_L2 l lo hi d hS sm_N _ _ _ _ _ e0 e1 hf
theorem d_sc_tick_0 : decode q_sc_tick.2.1 0 = .ok (.iload_n 1, 1) := by decide +kernel
theorem d_sc_tick_1 : decode q_sc_tick.2.1 1 = .ok (.iconst 1, 1) := by decide +kernel
theorem d_sc_tick_2 : decode q_sc_tick.2.1 2 = .ok (.if_icmp .lt 10, 3) := by decide +kernel
theorem d_sc_tick_5 : decode q_sc_tick.2.1 5 = .ok (.iload_n 1, 1) := by decide +kernel
theorem d_sc_tick_6 : decode q_sc_tick.2.1 6 = .ok (.sipush 200, 3) := by decide +kernel
theorem d_sc_tick_9 : decode q_sc_tick.2.1 9 = .ok (.if_icmp .le 6, 3) := by decide +kernel
theorem d_sc_tick_12 : decode q_sc_tick.2.1 12 = .ok (.bipush (-2), 2) := by decide +kernel
theorem d_sc_tick_14 : decode q_sc_tick.2.1 14 = .ok (.ireturn, 1) := by decide +kernel
theorem d_sc_tick_15 : decode q_sc_tick.2.1 15 = .ok (.aload_n 0, 1) := by decide +kernel
theorem d_sc_tick_16 : decode q_sc_tick.2.1 16 = .ok (.getfield 38, 3) := by decide +kernel
theorem d_sc_tick_19 : decode q_sc_tick.2.1 19 = .ok (.aload_n 0, 1) := by decide +kernel
theorem d_sc_tick_20 : decode q_sc_tick.2.1 20 = .ok (.getfield 24, 3) := by decide +kernel
theorem d_sc_tick_23 : decode q_sc_tick.2.1 23 = .ok (.iload_n 1, 1) := by decide +kernel
theorem d_sc_tick_24 : decode q_sc_tick.2.1 24 = .ok (.invokevirtual 179, 3) := by decide +kernel
theorem d_sc_tick_27 : decode q_sc_tick.2.1 27 = .ok (.ireturn, 1) := by decide +kernel
theorem w_sc_tick_L12 (l : Launch) (lo hi d : Nat) (hS : sm_has lo hi) {h' : sm_H} {r0 : Int32} (h : sm_H) (hf : f_sc_tick_L12 h = some (r0, h')) : sm_W l lo hi (d + 6) q_sc_tick 12 [] [] h (some (.int r0)) h' := by
  unfold f_sc_tick_L12 at hf
  refine sm_bipush (v := (-2)) (by decide) d_sc_tick_12 ?_
  obtain ⟨rfl, rfl⟩ := sm_ret2 hf
  exact sm_iret d_sc_tick_14 rfl
theorem m_sc_tick (l : Launch) (lo hi d : Nat) (hS : sm_has lo hi) {a0 : Nat} {a1 : Int32} {r0 : Int32} {h h' : sm_H} (e0 : sm_at lo hi (0, 9, 0) a0) (hf : f_sc_tick a0 a1 h = some (r0, h')) : sm_Met l lo hi (d + 6) q_sc_tick [.ref a0, .int a1] h (some (.int r0)) h' := by
  refine sm_Met.of (by decide +kernel) rfl ?_
  show sm_W l lo hi (d + 6) q_sc_tick 0 [(0, .ref a0), (1, .int a1)] [] h (some (.int r0)) h'
  unfold f_sc_tick at hf
  refine sm_iload_n 1 rfl d_sc_tick_0 ?_
  refine sm_iconst (v := 1) (by decide) d_sc_tick_1 ?_
  refine sm_icmp_lt 12 d_sc_tick_2 rfl (fun c1 => ?_) (fun c1 => ?_)
  · have hf := sm_ifT c1 hf
    refine sm_sub [] rfl ?_
    exact w_sc_tick_L12 l lo hi d hS _ hf
  · have hf := sm_ifF c1 hf
    refine sm_iload_n 1 rfl d_sc_tick_5 ?_
    refine sm_sipush (v := 200) (by decide) d_sc_tick_6 ?_
    refine sm_icmp_le 15 d_sc_tick_9 rfl (fun c2 => ?_) (fun c2 => ?_)
    · have hf := sm_ifT c2 hf
      refine sm_aload_n 0 rfl d_sc_tick_15 ?_
      refine sm_getR (n := 106) fl_sc_38 e0 rfl d_sc_tick_16 ?_
      refine sm_aload_n 0 rfl d_sc_tick_19 ?_
      refine sm_getR (n := 40) fl_sc_24 e0 rfl d_sc_tick_20 ?_
      refine sm_iload_n 1 rfl d_sc_tick_23 ?_
      obtain ⟨r3, g4, c5, hf⟩ := sm_b2E hf
      refine sm_callV (As := [.ref (a0 + 40), .int a1]) (rv := some (.int r3)) (h1 := g4) (c := 2) cvv_sc_179 rfl rfl (sm_inner e0 5 rfl rfl rfl) (m_en_pass l lo hi _ hS (sm_inner e0 5 rfl rfl rfl) (sm_inner e0 1 rfl rfl rfl) c5) rfl rfl d_sc_tick_24 ?_
      obtain ⟨rfl, rfl⟩ := sm_ret2 hf
      exact sm_iret d_sc_tick_27 rfl
    · have hf := sm_ifF c2 hf
      refine sm_sub [] rfl ?_
      exact w_sc_tick_L12 l lo hi d hS _ hf
theorem d_al_lowest_0 : decode q_al_lowest.2.1 0 = .ok (.iconst 0, 1) := by decide +kernel
theorem d_al_lowest_1 : decode q_al_lowest.2.1 1 = .ok (.istore_n 2, 1) := by decide +kernel
theorem d_al_lowest_2 : decode q_al_lowest.2.1 2 = .ok (.iload_n 2, 1) := by decide +kernel
theorem d_al_lowest_3 : decode q_al_lowest.2.1 3 = .ok (.iload_n 1, 1) := by decide +kernel
theorem d_al_lowest_4 : decode q_al_lowest.2.1 4 = .ok (.if_icmp .ge 22, 3) := by decide +kernel
theorem d_al_lowest_7 : decode q_al_lowest.2.1 7 = .ok (.aload_n 0, 1) := by decide +kernel
theorem d_al_lowest_8 : decode q_al_lowest.2.1 8 = .ok (.getfield 9, 3) := by decide +kernel
theorem d_al_lowest_11 : decode q_al_lowest.2.1 11 = .ok (.iload_n 2, 1) := by decide +kernel
theorem d_al_lowest_12 : decode q_al_lowest.2.1 12 = .ok (.invokestatic 39, 3) := by decide +kernel
theorem d_al_lowest_15 : decode q_al_lowest.2.1 15 = .ok (.ifCond .eq 5, 3) := by decide +kernel
theorem d_al_lowest_18 : decode q_al_lowest.2.1 18 = .ok (.iload_n 2, 1) := by decide +kernel
theorem d_al_lowest_19 : decode q_al_lowest.2.1 19 = .ok (.ireturn, 1) := by decide +kernel
theorem d_al_lowest_20 : decode q_al_lowest.2.1 20 = .ok (.iinc 2 1, 3) := by decide +kernel
theorem d_al_lowest_23 : decode q_al_lowest.2.1 23 = .ok (.goto (-21), 3) := by decide +kernel
theorem d_al_lowest_26 : decode q_al_lowest.2.1 26 = .ok (.iconst (-1), 1) := by decide +kernel
theorem d_al_lowest_27 : decode q_al_lowest.2.1 27 = .ok (.ireturn, 1) := by decide +kernel
theorem w_al_lowest_L18 (l : Launch) (lo hi d : Nat) {h' : sm_H} {r0 : Int32} (a2 : Int32) (h : sm_H) (hf : f_al_lowest_L18 a2 h = some (r0, h')) : sm_W l lo hi (d + 1) q_al_lowest 18 [(2, .int a2)] [] h (some (.int r0)) h' := by
  unfold f_al_lowest_L18 at hf
  refine sm_iload_n 0 rfl d_al_lowest_18 ?_
  obtain ⟨rfl, rfl⟩ := sm_ret2 hf
  exact sm_iret d_al_lowest_19 rfl
theorem w_al_lowest_L2 (l : Launch) (lo hi d : Nat) {h' : sm_H} {r0 : Int32} : ∀ (n : Nat) (a0 : Nat) (a1 : Int32) (a2 : Int32) (h : sm_H) (e0 : sm_at lo hi (0, 0, 0) a0) (hf : f_al_lowest_L2 n a0 a1 a2 h = some (r0, h')), sm_W l lo hi (d + 1) q_al_lowest 2 [(0, .ref a0), (1, .int a1), (2, .int a2)] [] h (some (.int r0)) h' := by
  intro n
  induction n with
  | zero =>
    intro a0 a1 a2 h e0 hf
    have z : (none : Option (Int32 × sm_H)) = some _ := hf
    cases z
  | succ n ih =>
    intro a0 a1 a2 h e0 hf
    unfold f_al_lowest_L2 at hf
    refine sm_iload_n 2 rfl d_al_lowest_2 ?_
    refine sm_iload_n 1 rfl d_al_lowest_3 ?_
    refine sm_icmp_ge 26 d_al_lowest_4 rfl (fun c1 => ?_) (fun c1 => ?_)
    · have hf := sm_ifT c1 hf
      refine sm_iconst (v := (-1)) (by decide) d_al_lowest_26 ?_
      obtain ⟨rfl, rfl⟩ := sm_ret2 hf
      exact sm_iret d_al_lowest_27 rfl
    · have hf := sm_ifF c1 hf
      refine sm_aload_n 0 rfl d_al_lowest_7 ?_
      refine sm_getI fl_al_9 e0 rfl d_al_lowest_8 ?_
      refine sm_iload_n 2 rfl d_al_lowest_11 ?_
      obtain ⟨r2, g3, c4, hf⟩ := sm_b2E hf
      refine sm_callN (As := [.int (h a0 0), .int a2]) (rv := some (.int r2)) (h1 := g3) cvn_al_39 (m_sc_has l lo hi _ c4) rfl rfl d_al_lowest_12 ?_
      refine sm_if_eq 20 d_al_lowest_15 rfl (fun c5 => ?_) (fun c5 => ?_)
      · have hf := sm_ifT c5 hf
        obtain ⟨x6, w7⟩ : ∃ v : Int32, v = a2 + 1 := ⟨_, rfl⟩
        have hf := sm_letV w7 hf
        refine sm_iinc (v := x6) (lv' := [(2, .int x6), (0, .ref a0), (1, .int a1)]) 2 rfl (by rw [w7]; rfl) d_al_lowest_20 rfl rfl ?_
        refine sm_goto 2 d_al_lowest_23 rfl ?_
        refine sm_sub [1, 2, 0] rfl ?_
        exact ih _ _ _ _ e0 hf
      · have hf := sm_ifF c5 hf
        refine sm_sub [2] rfl ?_
        exact w_al_lowest_L18 l lo hi d _ _ hf
theorem m_al_lowest (l : Launch) (lo hi d : Nat) {a0 : Nat} {a1 : Int32} {r0 : Int32} {h h' : sm_H} (e0 : sm_at lo hi (0, 0, 0) a0) (hf : f_al_lowest a0 a1 h = some (r0, h')) : sm_Met l lo hi (d + 1) q_al_lowest [.ref a0, .int a1] h (some (.int r0)) h' := by
  refine sm_Met.of (by decide +kernel) rfl ?_
  show sm_W l lo hi (d + 1) q_al_lowest 0 [(0, .ref a0), (1, .int a1)] [] h (some (.int r0)) h'
  unfold f_al_lowest at hf
  refine sm_iconst (v := 0) (by decide) d_al_lowest_0 ?_
  refine sm_istore_n (lv' := [(2, .int 0), (0, .ref a0), (1, .int a1)]) d_al_lowest_1 rfl rfl ?_
  refine sm_sub [1, 2, 0] rfl ?_
  exact w_al_lowest_L2 l lo hi d sm_N _ _ _ _ e0 hf
theorem d_al_silence_0 : decode q_al_silence.2.1 0 = .ok (.iconst 0, 1) := by decide +kernel
theorem d_al_silence_1 : decode q_al_silence.2.1 1 = .ok (.istore_n 2, 1) := by decide +kernel
theorem d_al_silence_2 : decode q_al_silence.2.1 2 = .ok (.iload_n 2, 1) := by decide +kernel
theorem d_al_silence_3 : decode q_al_silence.2.1 3 = .ok (.aload_n 1, 1) := by decide +kernel
theorem d_al_silence_4 : decode q_al_silence.2.1 4 = .ok (.getfield 24, 3) := by decide +kernel
theorem d_al_silence_7 : decode q_al_silence.2.1 7 = .ok (.getfield 30, 3) := by decide +kernel
theorem d_al_silence_10 : decode q_al_silence.2.1 10 = .ok (.if_icmp .ge 33, 3) := by decide +kernel
theorem d_al_silence_13 : decode q_al_silence.2.1 13 = .ok (.aload_n 1, 1) := by decide +kernel
theorem d_al_silence_14 : decode q_al_silence.2.1 14 = .ok (.getfield 35, 3) := by decide +kernel
theorem d_al_silence_17 : decode q_al_silence.2.1 17 = .ok (.iload_n 2, 1) := by decide +kernel
theorem d_al_silence_18 : decode q_al_silence.2.1 18 = .ok (.iaload, 1) := by decide +kernel
theorem d_al_silence_19 : decode q_al_silence.2.1 19 = .ok (.bipush 100, 2) := by decide +kernel
theorem d_al_silence_21 : decode q_al_silence.2.1 21 = .ok (.if_icmp .ge 16, 3) := by decide +kernel
theorem d_al_silence_24 : decode q_al_silence.2.1 24 = .ok (.aload_n 0, 1) := by decide +kernel
theorem d_al_silence_25 : decode q_al_silence.2.1 25 = .ok (.aload_n 0, 1) := by decide +kernel
theorem d_al_silence_26 : decode q_al_silence.2.1 26 = .ok (.getfield 9, 3) := by decide +kernel
theorem d_al_silence_29 : decode q_al_silence.2.1 29 = .ok (.iload_n 2, 1) := by decide +kernel
theorem d_al_silence_30 : decode q_al_silence.2.1 30 = .ok (.iconst 0, 1) := by decide +kernel
theorem d_al_silence_31 : decode q_al_silence.2.1 31 = .ok (.invokestatic 43, 3) := by decide +kernel
theorem d_al_silence_34 : decode q_al_silence.2.1 34 = .ok (.putfield 9, 3) := by decide +kernel
theorem d_al_silence_37 : decode q_al_silence.2.1 37 = .ok (.iinc 2 1, 3) := by decide +kernel
theorem d_al_silence_40 : decode q_al_silence.2.1 40 = .ok (.goto (-38), 3) := by decide +kernel
theorem d_al_silence_43 : decode q_al_silence.2.1 43 = .ok (.aload_n 0, 1) := by decide +kernel
theorem d_al_silence_44 : decode q_al_silence.2.1 44 = .ok (.getfield 18, 3) := by decide +kernel
theorem d_al_silence_47 : decode q_al_silence.2.1 47 = .ok (.ifCond .lt 40, 3) := by decide +kernel
theorem d_al_silence_50 : decode q_al_silence.2.1 50 = .ok (.aload_n 0, 1) := by decide +kernel
theorem d_al_silence_51 : decode q_al_silence.2.1 51 = .ok (.getfield 9, 3) := by decide +kernel
theorem d_al_silence_54 : decode q_al_silence.2.1 54 = .ok (.aload_n 0, 1) := by decide +kernel
theorem d_al_silence_55 : decode q_al_silence.2.1 55 = .ok (.getfield 18, 3) := by decide +kernel
theorem d_al_silence_58 : decode q_al_silence.2.1 58 = .ok (.invokestatic 39, 3) := by decide +kernel
theorem d_al_silence_61 : decode q_al_silence.2.1 61 = .ok (.ifCond .ne 26, 3) := by decide +kernel
theorem d_al_silence_64 : decode q_al_silence.2.1 64 = .ok (.aload_n 0, 1) := by decide +kernel
theorem d_al_silence_65 : decode q_al_silence.2.1 65 = .ok (.aload_n 0, 1) := by decide +kernel
theorem d_al_silence_66 : decode q_al_silence.2.1 66 = .ok (.aload_n 1, 1) := by decide +kernel
theorem d_al_silence_67 : decode q_al_silence.2.1 67 = .ok (.getfield 24, 3) := by decide +kernel
theorem d_al_silence_70 : decode q_al_silence.2.1 70 = .ok (.getfield 30, 3) := by decide +kernel
theorem d_al_silence_73 : decode q_al_silence.2.1 73 = .ok (.invokevirtual 60, 3) := by decide +kernel
theorem d_al_silence_76 : decode q_al_silence.2.1 76 = .ok (.putfield 18, 3) := by decide +kernel
theorem d_al_silence_79 : decode q_al_silence.2.1 79 = .ok (.aload_n 0, 1) := by decide +kernel
theorem d_al_silence_80 : decode q_al_silence.2.1 80 = .ok (.aload_n 1, 1) := by decide +kernel
theorem d_al_silence_81 : decode q_al_silence.2.1 81 = .ok (.getfield 51, 3) := by decide +kernel
theorem d_al_silence_84 : decode q_al_silence.2.1 84 = .ok (.putfield 21, 3) := by decide +kernel
theorem d_al_silence_87 : decode q_al_silence.2.1 87 = .ok (.return_, 1) := by decide +kernel
theorem w_al_silence_L43 (l : Launch) (lo hi d : Nat) (hS : sm_has lo hi) {h' : sm_H} (a0 : Nat) (a1 : Nat) (h : sm_H) (e0 : sm_at lo hi (0, 0, 0) a0) (e1 : sm_at lo hi (0, 7, 0) a1) (hf : f_al_silence_L43 a0 a1 h = some h') : sm_W l lo hi (d + 2) q_al_silence 43 [(0, .ref a0), (1, .ref a1)] [] h none h' := by
  unfold f_al_silence_L43 at hf
  refine sm_aload_n 0 rfl d_al_silence_43 ?_
  refine sm_getI fl_al_18 e0 rfl d_al_silence_44 ?_
  refine sm_if_lt 87 d_al_silence_47 rfl (fun c16 => ?_) (fun c16 => ?_)
  · have hf := sm_ifT c16 hf
    obtain rfl := sm_ret1 hf
    exact sm_vret d_al_silence_87 rfl
  · have hf := sm_ifF c16 hf
    refine sm_aload_n 0 rfl d_al_silence_50 ?_
    refine sm_getI fl_al_9 e0 rfl d_al_silence_51 ?_
    refine sm_aload_n 0 rfl d_al_silence_54 ?_
    refine sm_getI fl_al_18 e0 rfl d_al_silence_55 ?_
    obtain ⟨r17, g18, c19, hf⟩ := sm_b2E hf
    refine sm_callN (As := [.int (h a0 0), .int (h a0 2)]) (rv := some (.int r17)) (h1 := g18) cvn_al_39 (m_sc_has l lo hi _ c19) rfl rfl d_al_silence_58 ?_
    refine sm_if_ne 87 d_al_silence_61 rfl (fun c20 => ?_) (fun c20 => ?_)
    · have hf := sm_ifF c20 hf
      obtain rfl := sm_ret1 hf
      exact sm_vret d_al_silence_87 rfl
    · have hf := sm_ifT c20 hf
      refine sm_aload_n 0 rfl d_al_silence_64 ?_
      refine sm_aload_n 0 rfl d_al_silence_65 ?_
      refine sm_aload_n 1 rfl d_al_silence_66 ?_
      obtain ⟨c21, hf⟩ := sm_gdE hf
      obtain ⟨z22, v23⟩ := sm_isP_at hS c21
      refine sm_getD fl_al_24 e1 rfl z22 d_al_silence_67 ?_
      refine sm_nmR (fun p24 w25 => ?_)
      have hf := sm_letV w25 hf
      have v23 := sm_ev w25 v23
      refine sm_getI fl_al_30 v23 rfl d_al_silence_70 ?_
      obtain ⟨r26, g27, c28, hf⟩ := sm_b2E hf
      refine sm_callV (As := [.int (g18 p24 0)]) (rv := some (.int r26)) (h1 := g27) (c := 0) cvv_al_60 rfl rfl e0 (m_al_lowest l lo hi _ e0 c28) rfl rfl d_al_silence_73 ?_
      refine sm_putI fp_al_18 e0 rfl rfl d_al_silence_76 ?_
      refine sm_nmH (fun g29 w30 => ?_)
      have hf := sm_letV w30 hf
      refine sm_aload_n 0 rfl d_al_silence_79 ?_
      refine sm_aload_n 1 rfl d_al_silence_80 ?_
      refine sm_getI fl_al_51 e1 rfl d_al_silence_81 ?_
      refine sm_putI fp_al_21 e0 rfl rfl d_al_silence_84 ?_
      refine sm_nmH (fun g31 w32 => ?_)
      have hf := sm_letV w32 hf
      obtain rfl := sm_ret1 hf
      exact sm_vret d_al_silence_87 rfl
theorem w_al_silence_L37 (l : Launch) (lo hi d : Nat) (hS : sm_has lo hi) {k2 : Nat → Nat → Int32 → sm_H → Option sm_H} {h' : sm_H} (hk2 : ∀ (a0 : Nat) (a1 : Nat) (a2 : Int32) (h : sm_H) (_ : sm_at lo hi (0, 0, 0) a0) (_ : sm_at lo hi (0, 7, 0) a1) , k2 a0 a1 a2 h = some h' → sm_W l lo hi (d + 2) q_al_silence 2 [(0, .ref a0), (1, .ref a1), (2, .int a2)] [] h none h') (a0 : Nat) (a1 : Nat) (a2 : Int32) (h : sm_H) (e0 : sm_at lo hi (0, 0, 0) a0) (e1 : sm_at lo hi (0, 7, 0) a1) (hf : f_al_silence_L37 k2 a0 a1 a2 h = some h') : sm_W l lo hi (d + 2) q_al_silence 37 [(0, .ref a0), (1, .ref a1), (2, .int a2)] [] h none h' := by
  unfold f_al_silence_L37 at hf
  obtain ⟨x14, w15⟩ : ∃ v : Int32, v = a2 + 1 := ⟨_, rfl⟩
  have hf := sm_letV w15 hf
  refine sm_iinc (v := x14) (lv' := [(2, .int x14), (0, .ref a0), (1, .ref a1)]) 2 rfl (by rw [w15]; rfl) d_al_silence_37 rfl rfl ?_
  refine sm_goto 2 d_al_silence_40 rfl ?_
  refine sm_sub [1, 2, 0] rfl ?_
  exact hk2 _ _ _ _ e0 e1 hf
theorem w_al_silence_L2 (l : Launch) (lo hi d : Nat) (hS : sm_has lo hi) {h' : sm_H} : ∀ (n : Nat) (a0 : Nat) (a1 : Nat) (a2 : Int32) (h : sm_H) (e0 : sm_at lo hi (0, 0, 0) a0) (e1 : sm_at lo hi (0, 7, 0) a1) (hf : f_al_silence_L2 n a0 a1 a2 h = some h'), sm_W l lo hi (d + 2) q_al_silence 2 [(0, .ref a0), (1, .ref a1), (2, .int a2)] [] h none h' := by
  intro n
  induction n with
  | zero =>
    intro a0 a1 a2 h e0 e1 hf
    have z : (none : Option sm_H) = some _ := hf
    cases z
  | succ n ih =>
    intro a0 a1 a2 h e0 e1 hf
    unfold f_al_silence_L2 at hf
    refine sm_iload_n 2 rfl d_al_silence_2 ?_
    refine sm_aload_n 1 rfl d_al_silence_3 ?_
    obtain ⟨c1, hf⟩ := sm_gdE hf
    obtain ⟨z2, v3⟩ := sm_isP_at hS c1
    refine sm_getD fl_al_24 e1 rfl z2 d_al_silence_4 ?_
    refine sm_nmR (fun p4 w5 => ?_)
    have hf := sm_letV w5 hf
    have v3 := sm_ev w5 v3
    refine sm_getI fl_al_30 v3 rfl d_al_silence_7 ?_
    refine sm_icmp_ge 43 d_al_silence_10 rfl (fun c6 => ?_) (fun c6 => ?_)
    · have hf := sm_ifT c6 hf
      refine sm_sub [0, 1] rfl ?_
      exact w_al_silence_L43 l lo hi d hS _ _ _ e0 e1 hf
    · have hf := sm_ifF c6 hf
      refine sm_aload_n 1 rfl d_al_silence_13 ?_
      refine sm_getR (n := 1) fl_al_35 e1 rfl d_al_silence_14 ?_
      refine sm_iload_n 2 rfl d_al_silence_17 ?_
      obtain ⟨c7, hf⟩ := sm_gdE hf
      refine sm_iald (sm_at_arr (sm_inner e1 9 rfl rfl rfl)) c7 d_al_silence_18 ?_
      refine sm_bipush (v := 100) (by decide) d_al_silence_19 ?_
      refine sm_icmp_ge 37 d_al_silence_21 rfl (fun c8 => ?_) (fun c8 => ?_)
      · have hf := sm_ifT c8 hf
        exact w_al_silence_L37 l lo hi d hS ih _ _ _ _ e0 e1 hf
      · have hf := sm_ifF c8 hf
        refine sm_aload_n 0 rfl d_al_silence_24 ?_
        refine sm_aload_n 0 rfl d_al_silence_25 ?_
        refine sm_getI fl_al_9 e0 rfl d_al_silence_26 ?_
        refine sm_iload_n 2 rfl d_al_silence_29 ?_
        refine sm_iconst (v := 0) (by decide) d_al_silence_30 ?_
        obtain ⟨r9, g10, c11, hf⟩ := sm_b2E hf
        refine sm_callN (As := [.int (h a0 0), .int a2, .int 0]) (rv := some (.int r9)) (h1 := g10) cvn_al_43 (m_sc_with l lo hi _ c11) rfl rfl d_al_silence_31 ?_
        refine sm_putI fp_al_9 e0 rfl rfl d_al_silence_34 ?_
        refine sm_nmH (fun g12 w13 => ?_)
        have hf := sm_letV w13 hf
        exact w_al_silence_L37 l lo hi d hS ih _ _ _ _ e0 e1 hf
theorem m_al_silence (l : Launch) (lo hi d : Nat) (hS : sm_has lo hi) {a0 : Nat} {a1 : Nat} {h h' : sm_H} (e0 : sm_at lo hi (0, 0, 0) a0) (e1 : sm_at lo hi (0, 7, 0) a1) (hf : f_al_silence a0 a1 h = some h') : sm_Met l lo hi (d + 2) q_al_silence [.ref a0, .ref a1] h none h' := by
  refine sm_Met.of (by decide +kernel) rfl ?_
  show sm_W l lo hi (d + 2) q_al_silence 0 [(0, .ref a0), (1, .ref a1)] [] h none h'
  unfold f_al_silence at hf
  refine sm_iconst (v := 0) (by decide) d_al_silence_0 ?_
  refine sm_istore_n (lv' := [(2, .int 0), (0, .ref a0), (1, .ref a1)]) d_al_silence_1 rfl rfl ?_
  refine sm_sub [1, 2, 0] rfl ?_
  exact w_al_silence_L2 l lo hi d hS sm_N _ _ _ _ e0 e1 hf
theorem d_sc_reset_0 : decode q_sc_reset.2.1 0 = .ok (.aload_n 0, 1) := by decide +kernel
theorem d_sc_reset_1 : decode q_sc_reset.2.1 1 = .ok (.getfield 24, 3) := by decide +kernel
theorem d_sc_reset_4 : decode q_sc_reset.2.1 4 = .ok (.iconst 0, 1) := by decide +kernel
theorem d_sc_reset_5 : decode q_sc_reset.2.1 5 = .ok (.putfield 183, 3) := by decide +kernel
theorem d_sc_reset_8 : decode q_sc_reset.2.1 8 = .ok (.aload_n 0, 1) := by decide +kernel
theorem d_sc_reset_9 : decode q_sc_reset.2.1 9 = .ok (.getfield 24, 3) := by decide +kernel
theorem d_sc_reset_12 : decode q_sc_reset.2.1 12 = .ok (.getfield 186, 3) := by decide +kernel
theorem d_sc_reset_15 : decode q_sc_reset.2.1 15 = .ok (.iconst 0, 1) := by decide +kernel
theorem d_sc_reset_16 : decode q_sc_reset.2.1 16 = .ok (.invokestatic 189, 3) := by decide +kernel
theorem d_sc_reset_19 : decode q_sc_reset.2.1 19 = .ok (.aload_n 0, 1) := by decide +kernel
theorem d_sc_reset_20 : decode q_sc_reset.2.1 20 = .ok (.getfield 24, 3) := by decide +kernel
theorem d_sc_reset_23 : decode q_sc_reset.2.1 23 = .ok (.getfield 124, 3) := by decide +kernel
theorem d_sc_reset_26 : decode q_sc_reset.2.1 26 = .ok (.aload_n 0, 1) := by decide +kernel
theorem d_sc_reset_27 : decode q_sc_reset.2.1 27 = .ok (.getfield 24, 3) := by decide +kernel
theorem d_sc_reset_30 : decode q_sc_reset.2.1 30 = .ok (.invokevirtual 195, 3) := by decide +kernel
theorem d_sc_reset_33 : decode q_sc_reset.2.1 33 = .ok (.aload_n 0, 1) := by decide +kernel
theorem d_sc_reset_34 : decode q_sc_reset.2.1 34 = .ok (.getfield 24, 3) := by decide +kernel
theorem d_sc_reset_37 : decode q_sc_reset.2.1 37 = .ok (.getfield 124, 3) := by decide +kernel
theorem d_sc_reset_40 : decode q_sc_reset.2.1 40 = .ok (.getfield 199, 3) := by decide +kernel
theorem d_sc_reset_43 : decode q_sc_reset.2.1 43 = .ok (.invokestatic 202, 3) := by decide +kernel
theorem d_sc_reset_46 : decode q_sc_reset.2.1 46 = .ok (.ireturn, 1) := by decide +kernel
theorem m_sc_reset (l : Launch) (lo hi d : Nat) (hS : sm_has lo hi) {a0 : Nat} {r0 : Int32} {h h' : sm_H} (e0 : sm_at lo hi (0, 9, 0) a0) (hf : f_sc_reset a0 h = some (r0, h')) : sm_Met l lo hi (d + 3) q_sc_reset [.ref a0] h (some (.int r0)) h' := by
  refine sm_Met.of (by decide +kernel) rfl ?_
  show sm_W l lo hi (d + 3) q_sc_reset 0 [(0, .ref a0)] [] h (some (.int r0)) h'
  unfold f_sc_reset at hf
  refine sm_aload_n 0 rfl d_sc_reset_0 ?_
  refine sm_getR (n := 40) fl_sc_24 e0 rfl d_sc_reset_1 ?_
  refine sm_iconst (v := 0) (by decide) d_sc_reset_4 ?_
  refine sm_putI fp_sc_183 (sm_inner e0 1 rfl rfl rfl) rfl rfl d_sc_reset_5 ?_
  refine sm_nmH (fun g1 w2 => ?_)
  have hf := sm_letV w2 hf
  refine sm_aload_n 0 rfl d_sc_reset_8 ?_
  refine sm_getR (n := 40) fl_sc_24 e0 rfl d_sc_reset_9 ?_
  refine sm_getR (n := 7) fl_sc_186 (sm_inner e0 1 rfl rfl rfl) rfl d_sc_reset_12 ?_
  refine sm_iconst (v := 0) (by decide) d_sc_reset_15 ?_
  obtain ⟨g3, c4, hf⟩ := sm_bindE hf
  refine sm_callS (As := [.ref (a0 + 40 + 7), .int 0]) (rv := none) (h1 := g3) cvs_sc_189 (m_ja_fill l lo hi _ (sm_arr_self (sm_at_arr (sm_inner (sm_inner e0 1 rfl rfl rfl) 15 rfl rfl rfl))) c4) rfl rfl d_sc_reset_16 ?_
  refine sm_aload_n 0 rfl d_sc_reset_19 ?_
  refine sm_getR (n := 40) fl_sc_24 e0 rfl d_sc_reset_20 ?_
  refine sm_getR (n := 8) fl_sc_124 (sm_inner e0 1 rfl rfl rfl) rfl d_sc_reset_23 ?_
  refine sm_aload_n 0 rfl d_sc_reset_26 ?_
  refine sm_getR (n := 40) fl_sc_24 e0 rfl d_sc_reset_27 ?_
  obtain ⟨g5, c6, hf⟩ := sm_bindE hf
  refine sm_callV (As := [.ref (a0 + 40)]) (rv := none) (h1 := g5) (c := 0) cvv_sc_195 rfl rfl (sm_inner (sm_inner e0 1 rfl rfl rfl) 16 rfl rfl rfl) (m_al_silence l lo hi _ hS (sm_inner (sm_inner e0 1 rfl rfl rfl) 16 rfl rfl rfl) (sm_inner e0 1 rfl rfl rfl) c6) rfl rfl d_sc_reset_30 ?_
  refine sm_aload_n 0 rfl d_sc_reset_33 ?_
  refine sm_getR (n := 40) fl_sc_24 e0 rfl d_sc_reset_34 ?_
  refine sm_getR (n := 8) fl_sc_124 (sm_inner e0 1 rfl rfl rfl) rfl d_sc_reset_37 ?_
  refine sm_getI fl_sc_199 (sm_inner (sm_inner e0 1 rfl rfl rfl) 16 rfl rfl rfl) rfl d_sc_reset_40 ?_
  obtain ⟨r7, g8, c9, hf⟩ := sm_b2E hf
  refine sm_callS (As := [.int (g5 (a0 + 40 + 8) 0)]) (rv := some (.int r7)) (h1 := g8) cvs_sc_202 (m_ji_bitCount l lo hi _ c9) rfl rfl d_sc_reset_43 ?_
  obtain ⟨rfl, rfl⟩ := sm_ret2 hf
  exact sm_iret d_sc_reset_46 rfl
theorem d_sc_time_0 : decode q_sc_time.2.1 0 = .ok (.aload_n 0, 1) := by decide +kernel
theorem d_sc_time_1 : decode q_sc_time.2.1 1 = .ok (.getfield 24, 3) := by decide +kernel
theorem d_sc_time_4 : decode q_sc_time.2.1 4 = .ok (.getfield 161, 3) := by decide +kernel
theorem d_sc_time_7 : decode q_sc_time.2.1 7 = .ok (.ireturn, 1) := by decide +kernel
theorem m_sc_time (l : Launch) (lo hi d : Nat) {a0 : Nat} {r0 : Int32} {h h' : sm_H} (e0 : sm_at lo hi (0, 9, 0) a0) (hf : f_sc_time a0 h = some (r0, h')) : sm_Met l lo hi (d) q_sc_time [.ref a0] h (some (.int r0)) h' := by
  refine sm_Met.of (by decide +kernel) rfl ?_
  show sm_W l lo hi (d) q_sc_time 0 [(0, .ref a0)] [] h (some (.int r0)) h'
  unfold f_sc_time at hf
  refine sm_aload_n 0 rfl d_sc_time_0 ?_
  refine sm_getR (n := 40) fl_sc_24 e0 rfl d_sc_time_1 ?_
  refine sm_getI fl_sc_161 (sm_inner e0 1 rfl rfl rfl) rfl d_sc_time_4 ?_
  obtain ⟨rfl, rfl⟩ := sm_ret2 hf
  exact sm_iret d_sc_time_7 rfl
theorem d_sc_smoke_0 : decode q_sc_smoke.2.1 0 = .ok (.aload_n 0, 1) := by decide +kernel
theorem d_sc_smoke_1 : decode q_sc_smoke.2.1 1 = .ok (.iload_n 1, 1) := by decide +kernel
theorem d_sc_smoke_2 : decode q_sc_smoke.2.1 2 = .ok (.invokevirtual 112, 3) := by decide +kernel
theorem d_sc_smoke_5 : decode q_sc_smoke.2.1 5 = .ok (.ifCond .eq 7, 3) := by decide +kernel
theorem d_sc_smoke_8 : decode q_sc_smoke.2.1 8 = .ok (.iconst (-1), 1) := by decide +kernel
theorem d_sc_smoke_9 : decode q_sc_smoke.2.1 9 = .ok (.goto 12, 3) := by decide +kernel
theorem d_sc_smoke_12 : decode q_sc_smoke.2.1 12 = .ok (.aload_n 0, 1) := by decide +kernel
theorem d_sc_smoke_13 : decode q_sc_smoke.2.1 13 = .ok (.getfield 24, 3) := by decide +kernel
theorem d_sc_smoke_16 : decode q_sc_smoke.2.1 16 = .ok (.getfield 208, 3) := by decide +kernel
theorem d_sc_smoke_19 : decode q_sc_smoke.2.1 19 = .ok (.iload_n 1, 1) := by decide +kernel
theorem d_sc_smoke_20 : decode q_sc_smoke.2.1 20 = .ok (.iaload, 1) := by decide +kernel
theorem d_sc_smoke_21 : decode q_sc_smoke.2.1 21 = .ok (.ireturn, 1) := by decide +kernel
theorem w_sc_smoke_L21 (l : Launch) (lo hi d : Nat) (hS : sm_has lo hi) {h' : sm_H} {r0 : Int32} (s0 : Int32) (h : sm_H) (hf : f_sc_smoke_L21 s0 h = some (r0, h')) : sm_W l lo hi (d + 1) q_sc_smoke 21 [] [.int s0] h (some (.int r0)) h' := by
  unfold f_sc_smoke_L21 at hf
  obtain ⟨rfl, rfl⟩ := sm_ret2 hf
  exact sm_iret d_sc_smoke_21 rfl
theorem m_sc_smoke (l : Launch) (lo hi d : Nat) (hS : sm_has lo hi) {a0 : Nat} {a1 : Int32} {r0 : Int32} {h h' : sm_H} (e0 : sm_at lo hi (0, 9, 0) a0) (hf : f_sc_smoke a0 a1 h = some (r0, h')) : sm_Met l lo hi (d + 1) q_sc_smoke [.ref a0, .int a1] h (some (.int r0)) h' := by
  refine sm_Met.of (by decide +kernel) rfl ?_
  show sm_W l lo hi (d + 1) q_sc_smoke 0 [(0, .ref a0), (1, .int a1)] [] h (some (.int r0)) h'
  unfold f_sc_smoke at hf
  refine sm_aload_n 0 rfl d_sc_smoke_0 ?_
  refine sm_iload_n 1 rfl d_sc_smoke_1 ?_
  obtain ⟨r1, g2, c3, hf⟩ := sm_b2E hf
  refine sm_callV (As := [.int a1]) (rv := some (.int r1)) (h1 := g2) (c := 9) cvv_sc_112 rfl rfl e0 (m_sc_lacksZone l lo hi _ hS e0 c3) rfl rfl d_sc_smoke_2 ?_
  refine sm_if_eq 12 d_sc_smoke_5 rfl (fun c4 => ?_) (fun c4 => ?_)
  · have hf := sm_ifT c4 hf
    refine sm_aload_n 0 rfl d_sc_smoke_12 ?_
    refine sm_getR (n := 40) fl_sc_24 e0 rfl d_sc_smoke_13 ?_
    refine sm_getR (n := 1) fl_sc_208 (sm_inner e0 1 rfl rfl rfl) rfl d_sc_smoke_16 ?_
    refine sm_iload_n 1 rfl d_sc_smoke_19 ?_
    obtain ⟨c5, hf⟩ := sm_gdE hf
    refine sm_iald (sm_at_arr (sm_inner (sm_inner e0 1 rfl rfl rfl) 9 rfl rfl rfl)) c5 d_sc_smoke_20 ?_
    refine sm_sub [] rfl ?_
    exact w_sc_smoke_L21 l lo hi d hS _ _ hf
  · have hf := sm_ifF c4 hf
    refine sm_iconst (v := (-1)) (by decide) d_sc_smoke_8 ?_
    refine sm_goto 21 d_sc_smoke_9 rfl ?_
    refine sm_sub [] rfl ?_
    exact w_sc_smoke_L21 l lo hi d hS _ _ hf
theorem d_sc_stair_0 : decode q_sc_stair.2.1 0 = .ok (.iload_n 1, 1) := by decide +kernel
theorem d_sc_stair_1 : decode q_sc_stair.2.1 1 = .ok (.tableswitch 110 0 5 #[39, 47, 55, 63, 81, 89], 39) := by decide +kernel
theorem d_sc_stair_40 : decode q_sc_stair.2.1 40 = .ok (.aload_n 0, 1) := by decide +kernel
theorem d_sc_stair_41 : decode q_sc_stair.2.1 41 = .ok (.getfield 24, 3) := by decide +kernel
theorem d_sc_stair_44 : decode q_sc_stair.2.1 44 = .ok (.getfield 211, 3) := by decide +kernel
theorem d_sc_stair_47 : decode q_sc_stair.2.1 47 = .ok (.ireturn, 1) := by decide +kernel
theorem d_sc_stair_48 : decode q_sc_stair.2.1 48 = .ok (.aload_n 0, 1) := by decide +kernel
theorem d_sc_stair_49 : decode q_sc_stair.2.1 49 = .ok (.getfield 24, 3) := by decide +kernel
theorem d_sc_stair_52 : decode q_sc_stair.2.1 52 = .ok (.getfield 214, 3) := by decide +kernel
theorem d_sc_stair_55 : decode q_sc_stair.2.1 55 = .ok (.ireturn, 1) := by decide +kernel
theorem d_sc_stair_56 : decode q_sc_stair.2.1 56 = .ok (.aload_n 0, 1) := by decide +kernel
theorem d_sc_stair_57 : decode q_sc_stair.2.1 57 = .ok (.getfield 24, 3) := by decide +kernel
theorem d_sc_stair_60 : decode q_sc_stair.2.1 60 = .ok (.getfield 217, 3) := by decide +kernel
theorem d_sc_stair_63 : decode q_sc_stair.2.1 63 = .ok (.ireturn, 1) := by decide +kernel
theorem d_sc_stair_64 : decode q_sc_stair.2.1 64 = .ok (.aload_n 0, 1) := by decide +kernel
theorem d_sc_stair_65 : decode q_sc_stair.2.1 65 = .ok (.getfield 24, 3) := by decide +kernel
theorem d_sc_stair_68 : decode q_sc_stair.2.1 68 = .ok (.getfield 70, 3) := by decide +kernel
theorem d_sc_stair_71 : decode q_sc_stair.2.1 71 = .ok (.aload_n 0, 1) := by decide +kernel
theorem d_sc_stair_72 : decode q_sc_stair.2.1 72 = .ok (.getfield 24, 3) := by decide +kernel
theorem d_sc_stair_75 : decode q_sc_stair.2.1 75 = .ok (.getfield 137, 3) := by decide +kernel
theorem d_sc_stair_78 : decode q_sc_stair.2.1 78 = .ok (.invokevirtual 220, 3) := by decide +kernel
theorem d_sc_stair_81 : decode q_sc_stair.2.1 81 = .ok (.ireturn, 1) := by decide +kernel
theorem d_sc_stair_82 : decode q_sc_stair.2.1 82 = .ok (.aload_n 0, 1) := by decide +kernel
theorem d_sc_stair_83 : decode q_sc_stair.2.1 83 = .ok (.getfield 24, 3) := by decide +kernel
theorem d_sc_stair_86 : decode q_sc_stair.2.1 86 = .ok (.invokevirtual 223, 3) := by decide +kernel
theorem d_sc_stair_89 : decode q_sc_stair.2.1 89 = .ok (.ireturn, 1) := by decide +kernel
theorem d_sc_stair_90 : decode q_sc_stair.2.1 90 = .ok (.aload_n 0, 1) := by decide +kernel
theorem d_sc_stair_91 : decode q_sc_stair.2.1 91 = .ok (.getfield 24, 3) := by decide +kernel
theorem d_sc_stair_94 : decode q_sc_stair.2.1 94 = .ok (.getfield 183, 3) := by decide +kernel
theorem d_sc_stair_97 : decode q_sc_stair.2.1 97 = .ok (.bipush 22, 2) := by decide +kernel
theorem d_sc_stair_99 : decode q_sc_stair.2.1 99 = .ok (.invokestatic 227, 3) := by decide +kernel
theorem d_sc_stair_102 : decode q_sc_stair.2.1 102 = .ok (.ifCond .eq 7, 3) := by decide +kernel
theorem d_sc_stair_105 : decode q_sc_stair.2.1 105 = .ok (.iconst 1, 1) := by decide +kernel
theorem d_sc_stair_106 : decode q_sc_stair.2.1 106 = .ok (.goto 4, 3) := by decide +kernel
theorem d_sc_stair_109 : decode q_sc_stair.2.1 109 = .ok (.iconst 0, 1) := by decide +kernel
theorem d_sc_stair_110 : decode q_sc_stair.2.1 110 = .ok (.ireturn, 1) := by decide +kernel
theorem d_sc_stair_111 : decode q_sc_stair.2.1 111 = .ok (.bipush (-2), 2) := by decide +kernel
theorem d_sc_stair_113 : decode q_sc_stair.2.1 113 = .ok (.ireturn, 1) := by decide +kernel
theorem w_sc_stair_L110 (l : Launch) (lo hi d : Nat) (hS : sm_has lo hi) {h' : sm_H} {r0 : Int32} (s0 : Int32) (h : sm_H) (hf : f_sc_stair_L110 s0 h = some (r0, h')) : sm_W l lo hi (d + 2) q_sc_stair 110 [] [.int s0] h (some (.int r0)) h' := by
  unfold f_sc_stair_L110 at hf
  obtain ⟨rfl, rfl⟩ := sm_ret2 hf
  exact sm_iret d_sc_stair_110 rfl
theorem m_sc_stair (l : Launch) (lo hi d : Nat) (hS : sm_has lo hi) {a0 : Nat} {a1 : Int32} {r0 : Int32} {h h' : sm_H} (e0 : sm_at lo hi (0, 9, 0) a0) (hf : f_sc_stair a0 a1 h = some (r0, h')) : sm_Met l lo hi (d + 2) q_sc_stair [.ref a0, .int a1] h (some (.int r0)) h' := by
  refine sm_Met.of (by decide +kernel) rfl ?_
  show sm_W l lo hi (d + 2) q_sc_stair 0 [(0, .ref a0), (1, .int a1)] [] h (some (.int r0)) h'
  unfold f_sc_stair at hf
  refine sm_iload_n 1 rfl d_sc_stair_0 ?_
  by_cases c1 : a1 = 0
  · have hf := sm_ifT c1 hf
    refine sm_tableIn 40 d_sc_stair_1 (by rw [c1]; decide) (by rw [c1]; decide) (by rw [c1]; rfl) rfl ?_
    refine sm_aload_n 0 rfl d_sc_stair_40 ?_
    refine sm_getR (n := 40) fl_sc_24 e0 rfl d_sc_stair_41 ?_
    refine sm_getI fl_sc_211 (sm_inner e0 1 rfl rfl rfl) rfl d_sc_stair_44 ?_
    obtain ⟨rfl, rfl⟩ := sm_ret2 hf
    exact sm_iret d_sc_stair_47 rfl
  have hf := sm_ifF c1 hf
  by_cases c2 : a1 = 1
  · have hf := sm_ifT c2 hf
    refine sm_tableIn 48 d_sc_stair_1 (by rw [c2]; decide) (by rw [c2]; decide) (by rw [c2]; rfl) rfl ?_
    refine sm_aload_n 0 rfl d_sc_stair_48 ?_
    refine sm_getR (n := 40) fl_sc_24 e0 rfl d_sc_stair_49 ?_
    refine sm_getI fl_sc_214 (sm_inner e0 1 rfl rfl rfl) rfl d_sc_stair_52 ?_
    obtain ⟨rfl, rfl⟩ := sm_ret2 hf
    exact sm_iret d_sc_stair_55 rfl
  have hf := sm_ifF c2 hf
  by_cases c3 : a1 = 2
  · have hf := sm_ifT c3 hf
    refine sm_tableIn 56 d_sc_stair_1 (by rw [c3]; decide) (by rw [c3]; decide) (by rw [c3]; rfl) rfl ?_
    refine sm_aload_n 0 rfl d_sc_stair_56 ?_
    refine sm_getR (n := 40) fl_sc_24 e0 rfl d_sc_stair_57 ?_
    refine sm_getI fl_sc_217 (sm_inner e0 1 rfl rfl rfl) rfl d_sc_stair_60 ?_
    obtain ⟨rfl, rfl⟩ := sm_ret2 hf
    exact sm_iret d_sc_stair_63 rfl
  have hf := sm_ifF c3 hf
  by_cases c4 : a1 = 3
  · have hf := sm_ifT c4 hf
    refine sm_tableIn 64 d_sc_stair_1 (by rw [c4]; decide) (by rw [c4]; decide) (by rw [c4]; rfl) rfl ?_
    refine sm_aload_n 0 rfl d_sc_stair_64 ?_
    refine sm_getR (n := 40) fl_sc_24 e0 rfl d_sc_stair_65 ?_
    obtain ⟨c5, hf⟩ := sm_gdE hf
    obtain ⟨z6, v7⟩ := sm_isP_at hS c5
    refine sm_getD fl_sc_70 (sm_inner e0 1 rfl rfl rfl) rfl z6 d_sc_stair_68 ?_
    refine sm_nmR (fun p8 w9 => ?_)
    have hf := sm_letV w9 hf
    have v7 := sm_ev w9 v7
    refine sm_aload_n 0 rfl d_sc_stair_71 ?_
    refine sm_getR (n := 40) fl_sc_24 e0 rfl d_sc_stair_72 ?_
    refine sm_getI fl_sc_137 (sm_inner e0 1 rfl rfl rfl) rfl d_sc_stair_75 ?_
    obtain ⟨r10, g11, c12, hf⟩ := sm_b2E hf
    refine sm_callV (As := [.int (h (a0 + 40) 6)]) (rv := some (.int r10)) (h1 := g11) (c := 4) cvv_sc_220 rfl rfl v7 (m_pl_area l lo hi _ v7 c12) rfl rfl d_sc_stair_78 ?_
    obtain ⟨rfl, rfl⟩ := sm_ret2 hf
    exact sm_iret d_sc_stair_81 rfl
  have hf := sm_ifF c4 hf
  by_cases c13 : a1 = 4
  · have hf := sm_ifT c13 hf
    refine sm_tableIn 82 d_sc_stair_1 (by rw [c13]; decide) (by rw [c13]; decide) (by rw [c13]; rfl) rfl ?_
    refine sm_aload_n 0 rfl d_sc_stair_82 ?_
    refine sm_getR (n := 40) fl_sc_24 e0 rfl d_sc_stair_83 ?_
    obtain ⟨r14, g15, c16, hf⟩ := sm_b2E hf
    refine sm_callV (As := []) (rv := some (.int r14)) (h1 := g15) (c := 7) cvv_sc_223 rfl rfl (sm_inner e0 1 rfl rfl rfl) (m_st_stairAir l lo hi _ hS (sm_inner e0 1 rfl rfl rfl) c16) rfl rfl d_sc_stair_86 ?_
    obtain ⟨rfl, rfl⟩ := sm_ret2 hf
    exact sm_iret d_sc_stair_89 rfl
  have hf := sm_ifF c13 hf
  by_cases c17 : a1 = 5
  · have hf := sm_ifT c17 hf
    refine sm_tableIn 90 d_sc_stair_1 (by rw [c17]; decide) (by rw [c17]; decide) (by rw [c17]; rfl) rfl ?_
    refine sm_aload_n 0 rfl d_sc_stair_90 ?_
    refine sm_getR (n := 40) fl_sc_24 e0 rfl d_sc_stair_91 ?_
    refine sm_getI fl_sc_183 (sm_inner e0 1 rfl rfl rfl) rfl d_sc_stair_94 ?_
    refine sm_bipush (v := 22) (by decide) d_sc_stair_97 ?_
    obtain ⟨r18, g19, c20, hf⟩ := sm_b2E hf
    refine sm_callS (As := [.int (h (a0 + 40) 8), .int 22]) (rv := some (.int r18)) (h1 := g19) cvs_sc_227 (m_sc_has l lo hi _ c20) rfl rfl d_sc_stair_99 ?_
    refine sm_if_eq 109 d_sc_stair_102 rfl (fun c21 => ?_) (fun c21 => ?_)
    · have hf := sm_ifT c21 hf
      refine sm_iconst (v := 0) (by decide) d_sc_stair_109 ?_
      refine sm_sub [] rfl ?_
      exact w_sc_stair_L110 l lo hi d hS _ _ hf
    · have hf := sm_ifF c21 hf
      refine sm_iconst (v := 1) (by decide) d_sc_stair_105 ?_
      refine sm_goto 110 d_sc_stair_106 rfl ?_
      refine sm_sub [] rfl ?_
      exact w_sc_stair_L110 l lo hi d hS _ _ hf
  have hf := sm_ifF c17 hf
  refine sm_tableOut 111 d_sc_stair_1 (sm_swOut 0 6 (by decide) (by decide) (fun j hj => by match j, hj with | 0, _ => exact c1 | 1, _ => exact c2 | 2, _ => exact c3 | 3, _ => exact c4 | 4, _ => exact c13 | 5, _ => exact c17 | j + 6, hj => exact absurd hj (by omega))) rfl ?_
  refine sm_bipush (v := (-2)) (by decide) d_sc_stair_111 ?_
  obtain ⟨rfl, rfl⟩ := sm_ret2 hf
  exact sm_iret d_sc_stair_113 rfl
theorem d_sc_alarm_0 : decode q_sc_alarm.2.1 0 = .ok (.aload_n 0, 1) := by decide +kernel
theorem d_sc_alarm_1 : decode q_sc_alarm.2.1 1 = .ok (.iload_n 1, 1) := by decide +kernel
theorem d_sc_alarm_2 : decode q_sc_alarm.2.1 2 = .ok (.invokevirtual 112, 3) := by decide +kernel
theorem d_sc_alarm_5 : decode q_sc_alarm.2.1 5 = .ok (.ifCond .eq 5, 3) := by decide +kernel
theorem d_sc_alarm_8 : decode q_sc_alarm.2.1 8 = .ok (.iconst (-1), 1) := by decide +kernel
theorem d_sc_alarm_9 : decode q_sc_alarm.2.1 9 = .ok (.ireturn, 1) := by decide +kernel
theorem d_sc_alarm_10 : decode q_sc_alarm.2.1 10 = .ok (.aload_n 0, 1) := by decide +kernel
theorem d_sc_alarm_11 : decode q_sc_alarm.2.1 11 = .ok (.getfield 24, 3) := by decide +kernel
theorem d_sc_alarm_14 : decode q_sc_alarm.2.1 14 = .ok (.getfield 124, 3) := by decide +kernel
theorem d_sc_alarm_17 : decode q_sc_alarm.2.1 17 = .ok (.getfield 199, 3) := by decide +kernel
theorem d_sc_alarm_20 : decode q_sc_alarm.2.1 20 = .ok (.iload_n 1, 1) := by decide +kernel
theorem d_sc_alarm_21 : decode q_sc_alarm.2.1 21 = .ok (.invokestatic 227, 3) := by decide +kernel
theorem d_sc_alarm_24 : decode q_sc_alarm.2.1 24 = .ok (.ifCond .eq 7, 3) := by decide +kernel
theorem d_sc_alarm_27 : decode q_sc_alarm.2.1 27 = .ok (.iconst 1, 1) := by decide +kernel
theorem d_sc_alarm_28 : decode q_sc_alarm.2.1 28 = .ok (.goto 4, 3) := by decide +kernel
theorem d_sc_alarm_31 : decode q_sc_alarm.2.1 31 = .ok (.iconst 0, 1) := by decide +kernel
theorem d_sc_alarm_32 : decode q_sc_alarm.2.1 32 = .ok (.ireturn, 1) := by decide +kernel
theorem w_sc_alarm_L32 (l : Launch) (lo hi d : Nat) (hS : sm_has lo hi) {h' : sm_H} {r0 : Int32} (s0 : Int32) (h : sm_H) (hf : f_sc_alarm_L32 s0 h = some (r0, h')) : sm_W l lo hi (d + 1) q_sc_alarm 32 [] [.int s0] h (some (.int r0)) h' := by
  unfold f_sc_alarm_L32 at hf
  obtain ⟨rfl, rfl⟩ := sm_ret2 hf
  exact sm_iret d_sc_alarm_32 rfl
theorem m_sc_alarm (l : Launch) (lo hi d : Nat) (hS : sm_has lo hi) {a0 : Nat} {a1 : Int32} {r0 : Int32} {h h' : sm_H} (e0 : sm_at lo hi (0, 9, 0) a0) (hf : f_sc_alarm a0 a1 h = some (r0, h')) : sm_Met l lo hi (d + 1) q_sc_alarm [.ref a0, .int a1] h (some (.int r0)) h' := by
  refine sm_Met.of (by decide +kernel) rfl ?_
  show sm_W l lo hi (d + 1) q_sc_alarm 0 [(0, .ref a0), (1, .int a1)] [] h (some (.int r0)) h'
  unfold f_sc_alarm at hf
  refine sm_aload_n 0 rfl d_sc_alarm_0 ?_
  refine sm_iload_n 1 rfl d_sc_alarm_1 ?_
  obtain ⟨r1, g2, c3, hf⟩ := sm_b2E hf
  refine sm_callV (As := [.int a1]) (rv := some (.int r1)) (h1 := g2) (c := 9) cvv_sc_112 rfl rfl e0 (m_sc_lacksZone l lo hi _ hS e0 c3) rfl rfl d_sc_alarm_2 ?_
  refine sm_if_eq 10 d_sc_alarm_5 rfl (fun c4 => ?_) (fun c4 => ?_)
  · have hf := sm_ifT c4 hf
    refine sm_aload_n 0 rfl d_sc_alarm_10 ?_
    refine sm_getR (n := 40) fl_sc_24 e0 rfl d_sc_alarm_11 ?_
    refine sm_getR (n := 8) fl_sc_124 (sm_inner e0 1 rfl rfl rfl) rfl d_sc_alarm_14 ?_
    refine sm_getI fl_sc_199 (sm_inner (sm_inner e0 1 rfl rfl rfl) 16 rfl rfl rfl) rfl d_sc_alarm_17 ?_
    refine sm_iload_n 1 rfl d_sc_alarm_20 ?_
    obtain ⟨r5, g6, c7, hf⟩ := sm_b2E hf
    refine sm_callS (As := [.int (g2 (a0 + 40 + 8) 0), .int a1]) (rv := some (.int r5)) (h1 := g6) cvs_sc_227 (m_sc_has l lo hi _ c7) rfl rfl d_sc_alarm_21 ?_
    refine sm_if_eq 31 d_sc_alarm_24 rfl (fun c8 => ?_) (fun c8 => ?_)
    · have hf := sm_ifT c8 hf
      refine sm_iconst (v := 0) (by decide) d_sc_alarm_31 ?_
      refine sm_sub [] rfl ?_
      exact w_sc_alarm_L32 l lo hi d hS _ _ hf
    · have hf := sm_ifF c8 hf
      refine sm_iconst (v := 1) (by decide) d_sc_alarm_27 ?_
      refine sm_goto 32 d_sc_alarm_28 rfl ?_
      refine sm_sub [] rfl ?_
      exact w_sc_alarm_L32 l lo hi d hS _ _ hf
  · have hf := sm_ifF c4 hf
    refine sm_iconst (v := (-1)) (by decide) d_sc_alarm_8 ?_
    obtain ⟨rfl, rfl⟩ := sm_ret2 hf
    exact sm_iret d_sc_alarm_9 rfl
theorem d_sc_firstAlarm_0 : decode q_sc_firstAlarm.2.1 0 = .ok (.aload_n 0, 1) := by decide +kernel
theorem d_sc_firstAlarm_1 : decode q_sc_firstAlarm.2.1 1 = .ok (.getfield 24, 3) := by decide +kernel
theorem d_sc_firstAlarm_4 : decode q_sc_firstAlarm.2.1 4 = .ok (.getfield 124, 3) := by decide +kernel
theorem d_sc_firstAlarm_7 : decode q_sc_firstAlarm.2.1 7 = .ok (.getfield 231, 3) := by decide +kernel
theorem d_sc_firstAlarm_10 : decode q_sc_firstAlarm.2.1 10 = .ok (.ifCond .ge 8, 3) := by decide +kernel
theorem d_sc_firstAlarm_13 : decode q_sc_firstAlarm.2.1 13 = .ok (.bipush (-4), 2) := by decide +kernel
theorem d_sc_firstAlarm_15 : decode q_sc_firstAlarm.2.1 15 = .ok (.goto 13, 3) := by decide +kernel
theorem d_sc_firstAlarm_18 : decode q_sc_firstAlarm.2.1 18 = .ok (.aload_n 0, 1) := by decide +kernel
theorem d_sc_firstAlarm_19 : decode q_sc_firstAlarm.2.1 19 = .ok (.getfield 24, 3) := by decide +kernel
theorem d_sc_firstAlarm_22 : decode q_sc_firstAlarm.2.1 22 = .ok (.getfield 124, 3) := by decide +kernel
theorem d_sc_firstAlarm_25 : decode q_sc_firstAlarm.2.1 25 = .ok (.getfield 231, 3) := by decide +kernel
theorem d_sc_firstAlarm_28 : decode q_sc_firstAlarm.2.1 28 = .ok (.ireturn, 1) := by decide +kernel
theorem w_sc_firstAlarm_L28 (l : Launch) (lo hi d : Nat) {h' : sm_H} {r0 : Int32} (s0 : Int32) (h : sm_H) (hf : f_sc_firstAlarm_L28 s0 h = some (r0, h')) : sm_W l lo hi (d) q_sc_firstAlarm 28 [] [.int s0] h (some (.int r0)) h' := by
  unfold f_sc_firstAlarm_L28 at hf
  obtain ⟨rfl, rfl⟩ := sm_ret2 hf
  exact sm_iret d_sc_firstAlarm_28 rfl
theorem m_sc_firstAlarm (l : Launch) (lo hi d : Nat) {a0 : Nat} {r0 : Int32} {h h' : sm_H} (e0 : sm_at lo hi (0, 9, 0) a0) (hf : f_sc_firstAlarm a0 h = some (r0, h')) : sm_Met l lo hi (d) q_sc_firstAlarm [.ref a0] h (some (.int r0)) h' := by
  refine sm_Met.of (by decide +kernel) rfl ?_
  show sm_W l lo hi (d) q_sc_firstAlarm 0 [(0, .ref a0)] [] h (some (.int r0)) h'
  unfold f_sc_firstAlarm at hf
  refine sm_aload_n 0 rfl d_sc_firstAlarm_0 ?_
  refine sm_getR (n := 40) fl_sc_24 e0 rfl d_sc_firstAlarm_1 ?_
  refine sm_getR (n := 8) fl_sc_124 (sm_inner e0 1 rfl rfl rfl) rfl d_sc_firstAlarm_4 ?_
  refine sm_getI fl_sc_231 (sm_inner (sm_inner e0 1 rfl rfl rfl) 16 rfl rfl rfl) rfl d_sc_firstAlarm_7 ?_
  refine sm_if_ge 18 d_sc_firstAlarm_10 rfl (fun c1 => ?_) (fun c1 => ?_)
  · have hf := sm_ifT c1 hf
    refine sm_aload_n 0 rfl d_sc_firstAlarm_18 ?_
    refine sm_getR (n := 40) fl_sc_24 e0 rfl d_sc_firstAlarm_19 ?_
    refine sm_getR (n := 8) fl_sc_124 (sm_inner e0 1 rfl rfl rfl) rfl d_sc_firstAlarm_22 ?_
    refine sm_getI fl_sc_231 (sm_inner (sm_inner e0 1 rfl rfl rfl) 16 rfl rfl rfl) rfl d_sc_firstAlarm_25 ?_
    refine sm_sub [] rfl ?_
    exact w_sc_firstAlarm_L28 l lo hi d _ _ hf
  · have hf := sm_ifF c1 hf
    refine sm_bipush (v := (-4)) (by decide) d_sc_firstAlarm_13 ?_
    refine sm_goto 28 d_sc_firstAlarm_15 rfl ?_
    refine sm_sub [] rfl ?_
    exact w_sc_firstAlarm_L28 l lo hi d _ _ hf
theorem d_sc_supply_0 : decode q_sc_supply.2.1 0 = .ok (.aload_n 0, 1) := by decide +kernel
theorem d_sc_supply_1 : decode q_sc_supply.2.1 1 = .ok (.iload_n 1, 1) := by decide +kernel
theorem d_sc_supply_2 : decode q_sc_supply.2.1 2 = .ok (.invokevirtual 112, 3) := by decide +kernel
theorem d_sc_supply_5 : decode q_sc_supply.2.1 5 = .ok (.ifCond .eq 5, 3) := by decide +kernel
theorem d_sc_supply_8 : decode q_sc_supply.2.1 8 = .ok (.iconst (-1), 1) := by decide +kernel
theorem d_sc_supply_9 : decode q_sc_supply.2.1 9 = .ok (.ireturn, 1) := by decide +kernel
theorem d_sc_supply_10 : decode q_sc_supply.2.1 10 = .ok (.aload_n 0, 1) := by decide +kernel
theorem d_sc_supply_11 : decode q_sc_supply.2.1 11 = .ok (.getfield 38, 3) := by decide +kernel
theorem d_sc_supply_14 : decode q_sc_supply.2.1 14 = .ok (.aload_n 0, 1) := by decide +kernel
theorem d_sc_supply_15 : decode q_sc_supply.2.1 15 = .ok (.getfield 24, 3) := by decide +kernel
theorem d_sc_supply_18 : decode q_sc_supply.2.1 18 = .ok (.invokevirtual 234, 3) := by decide +kernel
theorem d_sc_supply_21 : decode q_sc_supply.2.1 21 = .ok (.aload_n 0, 1) := by decide +kernel
theorem d_sc_supply_22 : decode q_sc_supply.2.1 22 = .ok (.getfield 38, 3) := by decide +kernel
theorem d_sc_supply_25 : decode q_sc_supply.2.1 25 = .ok (.getfield 237, 3) := by decide +kernel
theorem d_sc_supply_28 : decode q_sc_supply.2.1 28 = .ok (.iload_n 1, 1) := by decide +kernel
theorem d_sc_supply_29 : decode q_sc_supply.2.1 29 = .ok (.iaload, 1) := by decide +kernel
theorem d_sc_supply_30 : decode q_sc_supply.2.1 30 = .ok (.ireturn, 1) := by decide +kernel
theorem m_sc_supply (l : Launch) (lo hi d : Nat) (hS : sm_has lo hi) {a0 : Nat} {a1 : Int32} {r0 : Int32} {h h' : sm_H} (e0 : sm_at lo hi (0, 9, 0) a0) (hf : f_sc_supply a0 a1 h = some (r0, h')) : sm_Met l lo hi (d + 3) q_sc_supply [.ref a0, .int a1] h (some (.int r0)) h' := by
  refine sm_Met.of (by decide +kernel) rfl ?_
  show sm_W l lo hi (d + 3) q_sc_supply 0 [(0, .ref a0), (1, .int a1)] [] h (some (.int r0)) h'
  unfold f_sc_supply at hf
  refine sm_aload_n 0 rfl d_sc_supply_0 ?_
  refine sm_iload_n 1 rfl d_sc_supply_1 ?_
  obtain ⟨r1, g2, c3, hf⟩ := sm_b2E hf
  refine sm_callV (As := [.int a1]) (rv := some (.int r1)) (h1 := g2) (c := 9) cvv_sc_112 rfl rfl e0 (m_sc_lacksZone l lo hi _ hS e0 c3) rfl rfl d_sc_supply_2 ?_
  refine sm_if_eq 10 d_sc_supply_5 rfl (fun c4 => ?_) (fun c4 => ?_)
  · have hf := sm_ifT c4 hf
    refine sm_aload_n 0 rfl d_sc_supply_10 ?_
    refine sm_getR (n := 106) fl_sc_38 e0 rfl d_sc_supply_11 ?_
    refine sm_aload_n 0 rfl d_sc_supply_14 ?_
    refine sm_getR (n := 40) fl_sc_24 e0 rfl d_sc_supply_15 ?_
    obtain ⟨g5, c6, hf⟩ := sm_bindE hf
    refine sm_callV (As := [.ref (a0 + 40)]) (rv := none) (h1 := g5) (c := 2) cvv_sc_234 rfl rfl (sm_inner e0 5 rfl rfl rfl) (m_en_divideAir l lo hi _ hS (sm_inner e0 5 rfl rfl rfl) (sm_inner e0 1 rfl rfl rfl) c6) rfl rfl d_sc_supply_18 ?_
    refine sm_aload_n 0 rfl d_sc_supply_21 ?_
    refine sm_getR (n := 106) fl_sc_38 e0 rfl d_sc_supply_22 ?_
    refine sm_getR (n := 5) fl_sc_237 (sm_inner e0 5 rfl rfl rfl) rfl d_sc_supply_25 ?_
    refine sm_iload_n 1 rfl d_sc_supply_28 ?_
    obtain ⟨c7, hf⟩ := sm_gdE hf
    refine sm_iald (sm_at_arr (sm_inner (sm_inner e0 5 rfl rfl rfl) 1 rfl rfl rfl)) c7 d_sc_supply_29 ?_
    obtain ⟨rfl, rfl⟩ := sm_ret2 hf
    exact sm_iret d_sc_supply_30 rfl
  · have hf := sm_ifF c4 hf
    refine sm_iconst (v := (-1)) (by decide) d_sc_supply_8 ?_
    obtain ⟨rfl, rfl⟩ := sm_ret2 hf
    exact sm_iret d_sc_supply_9 rfl
theorem d_sc_exhaust_0 : decode q_sc_exhaust.2.1 0 = .ok (.aload_n 0, 1) := by decide +kernel
theorem d_sc_exhaust_1 : decode q_sc_exhaust.2.1 1 = .ok (.iload_n 1, 1) := by decide +kernel
theorem d_sc_exhaust_2 : decode q_sc_exhaust.2.1 2 = .ok (.invokevirtual 112, 3) := by decide +kernel
theorem d_sc_exhaust_5 : decode q_sc_exhaust.2.1 5 = .ok (.ifCond .eq 5, 3) := by decide +kernel
theorem d_sc_exhaust_8 : decode q_sc_exhaust.2.1 8 = .ok (.iconst (-1), 1) := by decide +kernel
theorem d_sc_exhaust_9 : decode q_sc_exhaust.2.1 9 = .ok (.ireturn, 1) := by decide +kernel
theorem d_sc_exhaust_10 : decode q_sc_exhaust.2.1 10 = .ok (.aload_n 0, 1) := by decide +kernel
theorem d_sc_exhaust_11 : decode q_sc_exhaust.2.1 11 = .ok (.getfield 38, 3) := by decide +kernel
theorem d_sc_exhaust_14 : decode q_sc_exhaust.2.1 14 = .ok (.aload_n 0, 1) := by decide +kernel
theorem d_sc_exhaust_15 : decode q_sc_exhaust.2.1 15 = .ok (.getfield 24, 3) := by decide +kernel
theorem d_sc_exhaust_18 : decode q_sc_exhaust.2.1 18 = .ok (.invokevirtual 234, 3) := by decide +kernel
theorem d_sc_exhaust_21 : decode q_sc_exhaust.2.1 21 = .ok (.aload_n 0, 1) := by decide +kernel
theorem d_sc_exhaust_22 : decode q_sc_exhaust.2.1 22 = .ok (.getfield 38, 3) := by decide +kernel
theorem d_sc_exhaust_25 : decode q_sc_exhaust.2.1 25 = .ok (.getfield 240, 3) := by decide +kernel
theorem d_sc_exhaust_28 : decode q_sc_exhaust.2.1 28 = .ok (.iload_n 1, 1) := by decide +kernel
theorem d_sc_exhaust_29 : decode q_sc_exhaust.2.1 29 = .ok (.iaload, 1) := by decide +kernel
theorem d_sc_exhaust_30 : decode q_sc_exhaust.2.1 30 = .ok (.ireturn, 1) := by decide +kernel
theorem m_sc_exhaust (l : Launch) (lo hi d : Nat) (hS : sm_has lo hi) {a0 : Nat} {a1 : Int32} {r0 : Int32} {h h' : sm_H} (e0 : sm_at lo hi (0, 9, 0) a0) (hf : f_sc_exhaust a0 a1 h = some (r0, h')) : sm_Met l lo hi (d + 3) q_sc_exhaust [.ref a0, .int a1] h (some (.int r0)) h' := by
  refine sm_Met.of (by decide +kernel) rfl ?_
  show sm_W l lo hi (d + 3) q_sc_exhaust 0 [(0, .ref a0), (1, .int a1)] [] h (some (.int r0)) h'
  unfold f_sc_exhaust at hf
  refine sm_aload_n 0 rfl d_sc_exhaust_0 ?_
  refine sm_iload_n 1 rfl d_sc_exhaust_1 ?_
  obtain ⟨r1, g2, c3, hf⟩ := sm_b2E hf
  refine sm_callV (As := [.int a1]) (rv := some (.int r1)) (h1 := g2) (c := 9) cvv_sc_112 rfl rfl e0 (m_sc_lacksZone l lo hi _ hS e0 c3) rfl rfl d_sc_exhaust_2 ?_
  refine sm_if_eq 10 d_sc_exhaust_5 rfl (fun c4 => ?_) (fun c4 => ?_)
  · have hf := sm_ifT c4 hf
    refine sm_aload_n 0 rfl d_sc_exhaust_10 ?_
    refine sm_getR (n := 106) fl_sc_38 e0 rfl d_sc_exhaust_11 ?_
    refine sm_aload_n 0 rfl d_sc_exhaust_14 ?_
    refine sm_getR (n := 40) fl_sc_24 e0 rfl d_sc_exhaust_15 ?_
    obtain ⟨g5, c6, hf⟩ := sm_bindE hf
    refine sm_callV (As := [.ref (a0 + 40)]) (rv := none) (h1 := g5) (c := 2) cvv_sc_234 rfl rfl (sm_inner e0 5 rfl rfl rfl) (m_en_divideAir l lo hi _ hS (sm_inner e0 5 rfl rfl rfl) (sm_inner e0 1 rfl rfl rfl) c6) rfl rfl d_sc_exhaust_18 ?_
    refine sm_aload_n 0 rfl d_sc_exhaust_21 ?_
    refine sm_getR (n := 106) fl_sc_38 e0 rfl d_sc_exhaust_22 ?_
    refine sm_getR (n := 6) fl_sc_240 (sm_inner e0 5 rfl rfl rfl) rfl d_sc_exhaust_25 ?_
    refine sm_iload_n 1 rfl d_sc_exhaust_28 ?_
    obtain ⟨c7, hf⟩ := sm_gdE hf
    refine sm_iald (sm_at_arr (sm_inner (sm_inner e0 5 rfl rfl rfl) 2 rfl rfl rfl)) c7 d_sc_exhaust_29 ?_
    obtain ⟨rfl, rfl⟩ := sm_ret2 hf
    exact sm_iret d_sc_exhaust_30 rfl
  · have hf := sm_ifF c4 hf
    refine sm_iconst (v := (-1)) (by decide) d_sc_exhaust_8 ?_
    obtain ⟨rfl, rfl⟩ := sm_ret2 hf
    exact sm_iret d_sc_exhaust_9 rfl
theorem d_sc_presentCommands_0 : decode q_sc_presentCommands.2.1 0 = .ok (.aload_n 0, 1) := by decide +kernel
theorem d_sc_presentCommands_1 : decode q_sc_presentCommands.2.1 1 = .ok (.getfield 38, 3) := by decide +kernel
theorem d_sc_presentCommands_4 : decode q_sc_presentCommands.2.1 4 = .ok (.getfield 280, 3) := by decide +kernel
theorem d_sc_presentCommands_7 : decode q_sc_presentCommands.2.1 7 = .ok (.aload_n 0, 1) := by decide +kernel
theorem d_sc_presentCommands_8 : decode q_sc_presentCommands.2.1 8 = .ok (.getfield 24, 3) := by decide +kernel
theorem d_sc_presentCommands_11 : decode q_sc_presentCommands.2.1 11 = .ok (.invokevirtual 284, 3) := by decide +kernel
theorem d_sc_presentCommands_14 : decode q_sc_presentCommands.2.1 14 = .ok (.aload_n 0, 1) := by decide +kernel
theorem d_sc_presentCommands_15 : decode q_sc_presentCommands.2.1 15 = .ok (.getfield 38, 3) := by decide +kernel
theorem d_sc_presentCommands_18 : decode q_sc_presentCommands.2.1 18 = .ok (.getfield 280, 3) := by decide +kernel
theorem d_sc_presentCommands_21 : decode q_sc_presentCommands.2.1 21 = .ok (.areturn, 1) := by decide +kernel
theorem m_sc_presentCommands (l : Launch) (lo hi d : Nat) (hS : sm_has lo hi) {a0 : Nat} {r0 : Nat} {h h' : sm_H} (e0 : sm_at lo hi (0, 9, 0) a0) (hf : f_sc_presentCommands a0 h = some (r0, h')) : sm_Met l lo hi (d + 5) q_sc_presentCommands [.ref a0] h (some (.ref r0)) h' := by
  refine sm_Met.of (by decide +kernel) rfl ?_
  show sm_W l lo hi (d + 5) q_sc_presentCommands 0 [(0, .ref a0)] [] h (some (.ref r0)) h'
  unfold f_sc_presentCommands at hf
  refine sm_aload_n 0 rfl d_sc_presentCommands_0 ?_
  refine sm_getR (n := 106) fl_sc_38 e0 rfl d_sc_presentCommands_1 ?_
  refine sm_getR (n := 1) fl_sc_280 (sm_inner e0 5 rfl rfl rfl) rfl d_sc_presentCommands_4 ?_
  refine sm_aload_n 0 rfl d_sc_presentCommands_7 ?_
  refine sm_getR (n := 40) fl_sc_24 e0 rfl d_sc_presentCommands_8 ?_
  obtain ⟨g1, c2, hf⟩ := sm_bindE hf
  refine sm_callV (As := [.ref (a0 + 40)]) (rv := none) (h1 := g1) (c := 1) cvv_sc_284 rfl rfl (sm_inner (sm_inner e0 5 rfl rfl rfl) 0 rfl rfl rfl) (m_co_determine l lo hi _ hS (sm_inner (sm_inner e0 5 rfl rfl rfl) 0 rfl rfl rfl) (sm_inner e0 1 rfl rfl rfl) c2) rfl rfl d_sc_presentCommands_11 ?_
  refine sm_aload_n 0 rfl d_sc_presentCommands_14 ?_
  refine sm_getR (n := 106) fl_sc_38 e0 rfl d_sc_presentCommands_15 ?_
  refine sm_getR (n := 1) fl_sc_280 (sm_inner e0 5 rfl rfl rfl) rfl d_sc_presentCommands_18 ?_
  obtain ⟨rfl, rfl⟩ := sm_ret2 hf
  exact sm_aret d_sc_presentCommands_21 rfl
theorem d_sc_unitAnswer_0 : decode q_sc_unitAnswer.2.1 0 = .ok (.iload_n 2, 1) := by decide +kernel
theorem d_sc_unitAnswer_1 : decode q_sc_unitAnswer.2.1 1 = .ok (.tableswitch 104 0 4 #[35, 45, 64, 74, 94], 35) := by decide +kernel
theorem d_sc_unitAnswer_36 : decode q_sc_unitAnswer.2.1 36 = .ok (.aload_n 0, 1) := by decide +kernel
theorem d_sc_unitAnswer_37 : decode q_sc_unitAnswer.2.1 37 = .ok (.getfield 24, 3) := by decide +kernel
theorem d_sc_unitAnswer_40 : decode q_sc_unitAnswer.2.1 40 = .ok (.getfield 259, 3) := by decide +kernel
theorem d_sc_unitAnswer_43 : decode q_sc_unitAnswer.2.1 43 = .ok (.iload_n 1, 1) := by decide +kernel
theorem d_sc_unitAnswer_44 : decode q_sc_unitAnswer.2.1 44 = .ok (.iaload, 1) := by decide +kernel
theorem d_sc_unitAnswer_45 : decode q_sc_unitAnswer.2.1 45 = .ok (.ireturn, 1) := by decide +kernel
theorem d_sc_unitAnswer_46 : decode q_sc_unitAnswer.2.1 46 = .ok (.aload_n 0, 1) := by decide +kernel
theorem d_sc_unitAnswer_47 : decode q_sc_unitAnswer.2.1 47 = .ok (.invokevirtual 262, 3) := by decide +kernel
theorem d_sc_unitAnswer_50 : decode q_sc_unitAnswer.2.1 50 = .ok (.getfield 266, 3) := by decide +kernel
theorem d_sc_unitAnswer_53 : decode q_sc_unitAnswer.2.1 53 = .ok (.iload_n 1, 1) := by decide +kernel
theorem d_sc_unitAnswer_54 : decode q_sc_unitAnswer.2.1 54 = .ok (.iaload, 1) := by decide +kernel
theorem d_sc_unitAnswer_55 : decode q_sc_unitAnswer.2.1 55 = .ok (.iconst 1, 1) := by decide +kernel
theorem d_sc_unitAnswer_56 : decode q_sc_unitAnswer.2.1 56 = .ok (.if_icmp .ne 7, 3) := by decide +kernel
theorem d_sc_unitAnswer_59 : decode q_sc_unitAnswer.2.1 59 = .ok (.iconst 1, 1) := by decide +kernel
theorem d_sc_unitAnswer_60 : decode q_sc_unitAnswer.2.1 60 = .ok (.goto 4, 3) := by decide +kernel
theorem d_sc_unitAnswer_63 : decode q_sc_unitAnswer.2.1 63 = .ok (.iconst 0, 1) := by decide +kernel
theorem d_sc_unitAnswer_64 : decode q_sc_unitAnswer.2.1 64 = .ok (.ireturn, 1) := by decide +kernel
theorem d_sc_unitAnswer_65 : decode q_sc_unitAnswer.2.1 65 = .ok (.aload_n 0, 1) := by decide +kernel
theorem d_sc_unitAnswer_66 : decode q_sc_unitAnswer.2.1 66 = .ok (.invokevirtual 262, 3) := by decide +kernel
theorem d_sc_unitAnswer_69 : decode q_sc_unitAnswer.2.1 69 = .ok (.getfield 271, 3) := by decide +kernel
theorem d_sc_unitAnswer_72 : decode q_sc_unitAnswer.2.1 72 = .ok (.iload_n 1, 1) := by decide +kernel
theorem d_sc_unitAnswer_73 : decode q_sc_unitAnswer.2.1 73 = .ok (.iaload, 1) := by decide +kernel
theorem d_sc_unitAnswer_74 : decode q_sc_unitAnswer.2.1 74 = .ok (.ireturn, 1) := by decide +kernel
theorem d_sc_unitAnswer_75 : decode q_sc_unitAnswer.2.1 75 = .ok (.aload_n 0, 1) := by decide +kernel
theorem d_sc_unitAnswer_76 : decode q_sc_unitAnswer.2.1 76 = .ok (.getfield 24, 3) := by decide +kernel
theorem d_sc_unitAnswer_79 : decode q_sc_unitAnswer.2.1 79 = .ok (.getfield 183, 3) := by decide +kernel
theorem d_sc_unitAnswer_82 : decode q_sc_unitAnswer.2.1 82 = .ok (.iload_n 1, 1) := by decide +kernel
theorem d_sc_unitAnswer_83 : decode q_sc_unitAnswer.2.1 83 = .ok (.invokestatic 227, 3) := by decide +kernel
theorem d_sc_unitAnswer_86 : decode q_sc_unitAnswer.2.1 86 = .ok (.ifCond .eq 7, 3) := by decide +kernel
theorem d_sc_unitAnswer_89 : decode q_sc_unitAnswer.2.1 89 = .ok (.iconst 1, 1) := by decide +kernel
theorem d_sc_unitAnswer_90 : decode q_sc_unitAnswer.2.1 90 = .ok (.goto 4, 3) := by decide +kernel
theorem d_sc_unitAnswer_93 : decode q_sc_unitAnswer.2.1 93 = .ok (.iconst 0, 1) := by decide +kernel
theorem d_sc_unitAnswer_94 : decode q_sc_unitAnswer.2.1 94 = .ok (.ireturn, 1) := by decide +kernel
theorem d_sc_unitAnswer_95 : decode q_sc_unitAnswer.2.1 95 = .ok (.aload_n 0, 1) := by decide +kernel
theorem d_sc_unitAnswer_96 : decode q_sc_unitAnswer.2.1 96 = .ok (.getfield 24, 3) := by decide +kernel
theorem d_sc_unitAnswer_99 : decode q_sc_unitAnswer.2.1 99 = .ok (.getfield 186, 3) := by decide +kernel
theorem d_sc_unitAnswer_102 : decode q_sc_unitAnswer.2.1 102 = .ok (.iload_n 1, 1) := by decide +kernel
theorem d_sc_unitAnswer_103 : decode q_sc_unitAnswer.2.1 103 = .ok (.iaload, 1) := by decide +kernel
theorem d_sc_unitAnswer_104 : decode q_sc_unitAnswer.2.1 104 = .ok (.ireturn, 1) := by decide +kernel
theorem d_sc_unitAnswer_105 : decode q_sc_unitAnswer.2.1 105 = .ok (.bipush (-2), 2) := by decide +kernel
theorem d_sc_unitAnswer_107 : decode q_sc_unitAnswer.2.1 107 = .ok (.ireturn, 1) := by decide +kernel
theorem w_sc_unitAnswer_L64 (l : Launch) (lo hi d : Nat) (hS : sm_has lo hi) {h' : sm_H} {r0 : Int32} (s0 : Int32) (h : sm_H) (hf : f_sc_unitAnswer_L64 s0 h = some (r0, h')) : sm_W l lo hi (d + 6) q_sc_unitAnswer 64 [] [.int s0] h (some (.int r0)) h' := by
  unfold f_sc_unitAnswer_L64 at hf
  obtain ⟨rfl, rfl⟩ := sm_ret2 hf
  exact sm_iret d_sc_unitAnswer_64 rfl
theorem w_sc_unitAnswer_L94 (l : Launch) (lo hi d : Nat) (hS : sm_has lo hi) {h' : sm_H} {r0 : Int32} (s0 : Int32) (h : sm_H) (hf : f_sc_unitAnswer_L94 s0 h = some (r0, h')) : sm_W l lo hi (d + 6) q_sc_unitAnswer 94 [] [.int s0] h (some (.int r0)) h' := by
  unfold f_sc_unitAnswer_L94 at hf
  obtain ⟨rfl, rfl⟩ := sm_ret2 hf
  exact sm_iret d_sc_unitAnswer_94 rfl
theorem m_sc_unitAnswer (l : Launch) (lo hi d : Nat) (hS : sm_has lo hi) {a0 : Nat} {a1 : Int32} {a2 : Int32} {r0 : Int32} {h h' : sm_H} (e0 : sm_at lo hi (0, 9, 0) a0) (hf : f_sc_unitAnswer a0 a1 a2 h = some (r0, h')) : sm_Met l lo hi (d + 6) q_sc_unitAnswer [.ref a0, .int a1, .int a2] h (some (.int r0)) h' := by
  refine sm_Met.of (by decide +kernel) rfl ?_
  show sm_W l lo hi (d + 6) q_sc_unitAnswer 0 [(0, .ref a0), (1, .int a1), (2, .int a2)] [] h (some (.int r0)) h'
  unfold f_sc_unitAnswer at hf
  refine sm_iload_n 2 rfl d_sc_unitAnswer_0 ?_
  by_cases c1 : a2 = 0
  · have hf := sm_ifT c1 hf
    refine sm_tableIn 36 d_sc_unitAnswer_1 (by rw [c1]; decide) (by rw [c1]; decide) (by rw [c1]; rfl) rfl ?_
    refine sm_aload_n 0 rfl d_sc_unitAnswer_36 ?_
    refine sm_getR (n := 40) fl_sc_24 e0 rfl d_sc_unitAnswer_37 ?_
    refine sm_getR (n := 3) fl_sc_259 (sm_inner e0 1 rfl rfl rfl) rfl d_sc_unitAnswer_40 ?_
    refine sm_iload_n 1 rfl d_sc_unitAnswer_43 ?_
    obtain ⟨c2, hf⟩ := sm_gdE hf
    refine sm_iald (sm_at_arr (sm_inner (sm_inner e0 1 rfl rfl rfl) 11 rfl rfl rfl)) c2 d_sc_unitAnswer_44 ?_
    obtain ⟨rfl, rfl⟩ := sm_ret2 hf
    exact sm_iret d_sc_unitAnswer_45 rfl
  have hf := sm_ifF c1 hf
  by_cases c3 : a2 = 1
  · have hf := sm_ifT c3 hf
    refine sm_tableIn 46 d_sc_unitAnswer_1 (by rw [c3]; decide) (by rw [c3]; decide) (by rw [c3]; rfl) rfl ?_
    refine sm_aload_n 0 rfl d_sc_unitAnswer_46 ?_
    obtain ⟨r4, g5, c6, hf⟩ := sm_b2E hf
    refine sm_callV (As := []) (rv := some (.ref r4)) (h1 := g5) (c := 9) cvv_sc_262 rfl rfl e0 (m_sc_presentCommands l lo hi _ hS e0 c6) rfl rfl d_sc_unitAnswer_47 ?_
    obtain ⟨c7, hf⟩ := sm_gdE hf
    refine sm_getR (n := 2) fl_sc_266 (sm_ev (of_decide_eq_true c7) (sm_inner (sm_inner e0 5 rfl rfl rfl) 0 rfl rfl rfl)) rfl d_sc_unitAnswer_50 ?_
    refine sm_iload_n 1 rfl d_sc_unitAnswer_53 ?_
    obtain ⟨c8, hf⟩ := sm_gdE hf
    refine sm_iald (sm_at_arr (sm_inner (sm_ev (of_decide_eq_true c7) (sm_inner (sm_inner e0 5 rfl rfl rfl) 0 rfl rfl rfl)) 1 rfl rfl rfl)) c8 d_sc_unitAnswer_54 ?_
    refine sm_iconst (v := 1) (by decide) d_sc_unitAnswer_55 ?_
    refine sm_icmp_ne 63 d_sc_unitAnswer_56 rfl (fun c9 => ?_) (fun c9 => ?_)
    · have hf := sm_ifF c9 hf
      refine sm_iconst (v := 0) (by decide) d_sc_unitAnswer_63 ?_
      refine sm_sub [] rfl ?_
      exact w_sc_unitAnswer_L64 l lo hi d hS _ _ hf
    · have hf := sm_ifT c9 hf
      refine sm_iconst (v := 1) (by decide) d_sc_unitAnswer_59 ?_
      refine sm_goto 64 d_sc_unitAnswer_60 rfl ?_
      refine sm_sub [] rfl ?_
      exact w_sc_unitAnswer_L64 l lo hi d hS _ _ hf
  have hf := sm_ifF c3 hf
  by_cases c10 : a2 = 2
  · have hf := sm_ifT c10 hf
    refine sm_tableIn 65 d_sc_unitAnswer_1 (by rw [c10]; decide) (by rw [c10]; decide) (by rw [c10]; rfl) rfl ?_
    refine sm_aload_n 0 rfl d_sc_unitAnswer_65 ?_
    obtain ⟨r11, g12, c13, hf⟩ := sm_b2E hf
    refine sm_callV (As := []) (rv := some (.ref r11)) (h1 := g12) (c := 9) cvv_sc_262 rfl rfl e0 (m_sc_presentCommands l lo hi _ hS e0 c13) rfl rfl d_sc_unitAnswer_66 ?_
    obtain ⟨c14, hf⟩ := sm_gdE hf
    refine sm_getR (n := 3) fl_sc_271 (sm_ev (of_decide_eq_true c14) (sm_inner (sm_inner e0 5 rfl rfl rfl) 0 rfl rfl rfl)) rfl d_sc_unitAnswer_69 ?_
    refine sm_iload_n 1 rfl d_sc_unitAnswer_72 ?_
    obtain ⟨c15, hf⟩ := sm_gdE hf
    refine sm_iald (sm_at_arr (sm_inner (sm_ev (of_decide_eq_true c14) (sm_inner (sm_inner e0 5 rfl rfl rfl) 0 rfl rfl rfl)) 2 rfl rfl rfl)) c15 d_sc_unitAnswer_73 ?_
    obtain ⟨rfl, rfl⟩ := sm_ret2 hf
    exact sm_iret d_sc_unitAnswer_74 rfl
  have hf := sm_ifF c10 hf
  by_cases c16 : a2 = 3
  · have hf := sm_ifT c16 hf
    refine sm_tableIn 75 d_sc_unitAnswer_1 (by rw [c16]; decide) (by rw [c16]; decide) (by rw [c16]; rfl) rfl ?_
    refine sm_aload_n 0 rfl d_sc_unitAnswer_75 ?_
    refine sm_getR (n := 40) fl_sc_24 e0 rfl d_sc_unitAnswer_76 ?_
    refine sm_getI fl_sc_183 (sm_inner e0 1 rfl rfl rfl) rfl d_sc_unitAnswer_79 ?_
    refine sm_iload_n 1 rfl d_sc_unitAnswer_82 ?_
    obtain ⟨r17, g18, c19, hf⟩ := sm_b2E hf
    refine sm_callS (As := [.int (h (a0 + 40) 8), .int a1]) (rv := some (.int r17)) (h1 := g18) cvs_sc_227 (m_sc_has l lo hi _ c19) rfl rfl d_sc_unitAnswer_83 ?_
    refine sm_if_eq 93 d_sc_unitAnswer_86 rfl (fun c20 => ?_) (fun c20 => ?_)
    · have hf := sm_ifT c20 hf
      refine sm_iconst (v := 0) (by decide) d_sc_unitAnswer_93 ?_
      refine sm_sub [] rfl ?_
      exact w_sc_unitAnswer_L94 l lo hi d hS _ _ hf
    · have hf := sm_ifF c20 hf
      refine sm_iconst (v := 1) (by decide) d_sc_unitAnswer_89 ?_
      refine sm_goto 94 d_sc_unitAnswer_90 rfl ?_
      refine sm_sub [] rfl ?_
      exact w_sc_unitAnswer_L94 l lo hi d hS _ _ hf
  have hf := sm_ifF c16 hf
  by_cases c21 : a2 = 4
  · have hf := sm_ifT c21 hf
    refine sm_tableIn 95 d_sc_unitAnswer_1 (by rw [c21]; decide) (by rw [c21]; decide) (by rw [c21]; rfl) rfl ?_
    refine sm_aload_n 0 rfl d_sc_unitAnswer_95 ?_
    refine sm_getR (n := 40) fl_sc_24 e0 rfl d_sc_unitAnswer_96 ?_
    refine sm_getR (n := 7) fl_sc_186 (sm_inner e0 1 rfl rfl rfl) rfl d_sc_unitAnswer_99 ?_
    refine sm_iload_n 1 rfl d_sc_unitAnswer_102 ?_
    obtain ⟨c22, hf⟩ := sm_gdE hf
    refine sm_iald (sm_at_arr (sm_inner (sm_inner e0 1 rfl rfl rfl) 15 rfl rfl rfl)) c22 d_sc_unitAnswer_103 ?_
    obtain ⟨rfl, rfl⟩ := sm_ret2 hf
    exact sm_iret d_sc_unitAnswer_104 rfl
  have hf := sm_ifF c21 hf
  refine sm_tableOut 105 d_sc_unitAnswer_1 (sm_swOut 0 5 (by decide) (by decide) (fun j hj => by match j, hj with | 0, _ => exact c1 | 1, _ => exact c3 | 2, _ => exact c10 | 3, _ => exact c16 | 4, _ => exact c21 | j + 5, hj => exact absurd hj (by omega))) rfl ?_
  refine sm_bipush (v := (-2)) (by decide) d_sc_unitAnswer_105 ?_
  obtain ⟨rfl, rfl⟩ := sm_ret2 hf
  exact sm_iret d_sc_unitAnswer_107 rfl
theorem d_sc_damper_0 : decode q_sc_damper.2.1 0 = .ok (.aload_n 0, 1) := by decide +kernel
theorem d_sc_damper_1 : decode q_sc_damper.2.1 1 = .ok (.iload_n 1, 1) := by decide +kernel
theorem d_sc_damper_2 : decode q_sc_damper.2.1 2 = .ok (.invokevirtual 140, 3) := by decide +kernel
theorem d_sc_damper_5 : decode q_sc_damper.2.1 5 = .ok (.ifCond .eq 5, 3) := by decide +kernel
theorem d_sc_damper_8 : decode q_sc_damper.2.1 8 = .ok (.iconst (-1), 1) := by decide +kernel
theorem d_sc_damper_9 : decode q_sc_damper.2.1 9 = .ok (.ireturn, 1) := by decide +kernel
theorem d_sc_damper_10 : decode q_sc_damper.2.1 10 = .ok (.iload_n 2, 1) := by decide +kernel
theorem d_sc_damper_11 : decode q_sc_damper.2.1 11 = .ok (.lookupswitch 51 #[(5, 25), (6, 38)], 25) := by decide +kernel
theorem d_sc_damper_36 : decode q_sc_damper.2.1 36 = .ok (.aload_n 0, 1) := by decide +kernel
theorem d_sc_damper_37 : decode q_sc_damper.2.1 37 = .ok (.getfield 24, 3) := by decide +kernel
theorem d_sc_damper_40 : decode q_sc_damper.2.1 40 = .ok (.getfield 70, 3) := by decide +kernel
theorem d_sc_damper_43 : decode q_sc_damper.2.1 43 = .ok (.getfield 243, 3) := by decide +kernel
theorem d_sc_damper_46 : decode q_sc_damper.2.1 46 = .ok (.iload_n 1, 1) := by decide +kernel
theorem d_sc_damper_47 : decode q_sc_damper.2.1 47 = .ok (.iaload, 1) := by decide +kernel
theorem d_sc_damper_48 : decode q_sc_damper.2.1 48 = .ok (.ireturn, 1) := by decide +kernel
theorem d_sc_damper_49 : decode q_sc_damper.2.1 49 = .ok (.aload_n 0, 1) := by decide +kernel
theorem d_sc_damper_50 : decode q_sc_damper.2.1 50 = .ok (.getfield 24, 3) := by decide +kernel
theorem d_sc_damper_53 : decode q_sc_damper.2.1 53 = .ok (.getfield 70, 3) := by decide +kernel
theorem d_sc_damper_56 : decode q_sc_damper.2.1 56 = .ok (.getfield 246, 3) := by decide +kernel
theorem d_sc_damper_59 : decode q_sc_damper.2.1 59 = .ok (.iload_n 1, 1) := by decide +kernel
theorem d_sc_damper_60 : decode q_sc_damper.2.1 60 = .ok (.iaload, 1) := by decide +kernel
theorem d_sc_damper_61 : decode q_sc_damper.2.1 61 = .ok (.ireturn, 1) := by decide +kernel
theorem d_sc_damper_62 : decode q_sc_damper.2.1 62 = .ok (.aload_n 0, 1) := by decide +kernel
theorem d_sc_damper_63 : decode q_sc_damper.2.1 63 = .ok (.iload_n 1, 1) := by decide +kernel
theorem d_sc_damper_64 : decode q_sc_damper.2.1 64 = .ok (.iload_n 2, 1) := by decide +kernel
theorem d_sc_damper_65 : decode q_sc_damper.2.1 65 = .ok (.invokevirtual 249, 3) := by decide +kernel
theorem d_sc_damper_68 : decode q_sc_damper.2.1 68 = .ok (.ireturn, 1) := by decide +kernel
theorem m_sc_damper (l : Launch) (lo hi d : Nat) (hS : sm_has lo hi) {a0 : Nat} {a1 : Int32} {a2 : Int32} {r0 : Int32} {h h' : sm_H} (e0 : sm_at lo hi (0, 9, 0) a0) (hf : f_sc_damper a0 a1 a2 h = some (r0, h')) : sm_Met l lo hi (d + 7) q_sc_damper [.ref a0, .int a1, .int a2] h (some (.int r0)) h' := by
  refine sm_Met.of (by decide +kernel) rfl ?_
  show sm_W l lo hi (d + 7) q_sc_damper 0 [(0, .ref a0), (1, .int a1), (2, .int a2)] [] h (some (.int r0)) h'
  unfold f_sc_damper at hf
  refine sm_aload_n 0 rfl d_sc_damper_0 ?_
  refine sm_iload_n 1 rfl d_sc_damper_1 ?_
  obtain ⟨r1, g2, c3, hf⟩ := sm_b2E hf
  refine sm_callV (As := [.int a1]) (rv := some (.int r1)) (h1 := g2) (c := 9) cvv_sc_140 rfl rfl e0 (m_sc_lacksDamper l lo hi _ hS e0 c3) rfl rfl d_sc_damper_2 ?_
  refine sm_if_eq 10 d_sc_damper_5 rfl (fun c4 => ?_) (fun c4 => ?_)
  · have hf := sm_ifT c4 hf
    refine sm_iload_n 2 rfl d_sc_damper_10 ?_
    by_cases c5 : a2 = 5
    · have hf := sm_ifT c5 hf
      refine sm_lookup 36 d_sc_damper_11 rfl (by rw [c5]; first | done | rfl) rfl ?_
      refine sm_aload_n 0 rfl d_sc_damper_36 ?_
      refine sm_getR (n := 40) fl_sc_24 e0 rfl d_sc_damper_37 ?_
      obtain ⟨c6, hf⟩ := sm_gdE hf
      obtain ⟨z7, v8⟩ := sm_isP_at hS c6
      refine sm_getD fl_sc_70 (sm_inner e0 1 rfl rfl rfl) rfl z7 d_sc_damper_40 ?_
      refine sm_nmR (fun p9 w10 => ?_)
      have hf := sm_letV w10 hf
      have v8 := sm_ev w10 v8
      refine sm_getR (n := 3) fl_sc_243 v8 rfl d_sc_damper_43 ?_
      refine sm_iload_n 1 rfl d_sc_damper_46 ?_
      obtain ⟨c11, hf⟩ := sm_gdE hf
      refine sm_iald (sm_at_arr (sm_inner v8 9 rfl rfl rfl)) c11 d_sc_damper_47 ?_
      obtain ⟨rfl, rfl⟩ := sm_ret2 hf
      exact sm_iret d_sc_damper_48 rfl
    have hf := sm_ifF c5 hf
    by_cases c12 : a2 = 6
    · have hf := sm_ifT c12 hf
      refine sm_lookup 49 d_sc_damper_11 rfl (by rw [c12]; first | done | rfl) rfl ?_
      refine sm_aload_n 0 rfl d_sc_damper_49 ?_
      refine sm_getR (n := 40) fl_sc_24 e0 rfl d_sc_damper_50 ?_
      obtain ⟨c13, hf⟩ := sm_gdE hf
      obtain ⟨z14, v15⟩ := sm_isP_at hS c13
      refine sm_getD fl_sc_70 (sm_inner e0 1 rfl rfl rfl) rfl z14 d_sc_damper_53 ?_
      refine sm_nmR (fun p16 w17 => ?_)
      have hf := sm_letV w17 hf
      have v15 := sm_ev w17 v15
      refine sm_getR (n := 2) fl_sc_246 v15 rfl d_sc_damper_56 ?_
      refine sm_iload_n 1 rfl d_sc_damper_59 ?_
      obtain ⟨c18, hf⟩ := sm_gdE hf
      refine sm_iald (sm_at_arr (sm_inner v15 8 rfl rfl rfl)) c18 d_sc_damper_60 ?_
      obtain ⟨rfl, rfl⟩ := sm_ret2 hf
      exact sm_iret d_sc_damper_61 rfl
    have hf := sm_ifF c12 hf
    refine sm_lookup 62 d_sc_damper_11 rfl (by show Op.lookupswitch.offset [(5, 25), (6, 38)] _ _ = _; rw [lv_osw (k := 5) (a := 5) c5 (by decide), lv_osw (k := 6) (a := 6) c12 (by decide)]; first | done | rfl) rfl ?_
    refine sm_aload_n 0 rfl d_sc_damper_62 ?_
    refine sm_iload_n 1 rfl d_sc_damper_63 ?_
    refine sm_iload_n 2 rfl d_sc_damper_64 ?_
    obtain ⟨r19, g20, c21, hf⟩ := sm_b2E hf
    refine sm_callV (As := [.int a1, .int a2]) (rv := some (.int r19)) (h1 := g20) (c := 9) cvv_sc_249 rfl rfl e0 (m_sc_unitAnswer l lo hi _ hS e0 c21) rfl rfl d_sc_damper_65 ?_
    obtain ⟨rfl, rfl⟩ := sm_ret2 hf
    exact sm_iret d_sc_damper_68 rfl
  · have hf := sm_ifF c4 hf
    refine sm_iconst (v := (-1)) (by decide) d_sc_damper_8 ?_
    obtain ⟨rfl, rfl⟩ := sm_ret2 hf
    exact sm_iret d_sc_damper_9 rfl
theorem d_sc_waitsForDamper_0 : decode q_sc_waitsForDamper.2.1 0 = .ok (.aload_n 0, 1) := by decide +kernel
theorem d_sc_waitsForDamper_1 : decode q_sc_waitsForDamper.2.1 1 = .ok (.invokevirtual 262, 3) := by decide +kernel
theorem d_sc_waitsForDamper_4 : decode q_sc_waitsForDamper.2.1 4 = .ok (.getfield 266, 3) := by decide +kernel
theorem d_sc_waitsForDamper_7 : decode q_sc_waitsForDamper.2.1 7 = .ok (.bipush 16, 2) := by decide +kernel
theorem d_sc_waitsForDamper_9 : decode q_sc_waitsForDamper.2.1 9 = .ok (.iload_n 1, 1) := by decide +kernel
theorem d_sc_waitsForDamper_10 : decode q_sc_waitsForDamper.2.1 10 = .ok (.iadd, 1) := by decide +kernel
theorem d_sc_waitsForDamper_11 : decode q_sc_waitsForDamper.2.1 11 = .ok (.iaload, 1) := by decide +kernel
theorem d_sc_waitsForDamper_12 : decode q_sc_waitsForDamper.2.1 12 = .ok (.iconst 1, 1) := by decide +kernel
theorem d_sc_waitsForDamper_13 : decode q_sc_waitsForDamper.2.1 13 = .ok (.if_icmp .ne 25, 3) := by decide +kernel
theorem d_sc_waitsForDamper_16 : decode q_sc_waitsForDamper.2.1 16 = .ok (.aload_n 0, 1) := by decide +kernel
theorem d_sc_waitsForDamper_17 : decode q_sc_waitsForDamper.2.1 17 = .ok (.getfield 24, 3) := by decide +kernel
theorem d_sc_waitsForDamper_20 : decode q_sc_waitsForDamper.2.1 20 = .ok (.iload_n 1, 1) := by decide +kernel
theorem d_sc_waitsForDamper_21 : decode q_sc_waitsForDamper.2.1 21 = .ok (.aload_n 0, 1) := by decide +kernel
theorem d_sc_waitsForDamper_22 : decode q_sc_waitsForDamper.2.1 22 = .ok (.getfield 24, 3) := by decide +kernel
theorem d_sc_waitsForDamper_25 : decode q_sc_waitsForDamper.2.1 25 = .ok (.invokevirtual 274, 3) := by decide +kernel
theorem d_sc_waitsForDamper_28 : decode q_sc_waitsForDamper.2.1 28 = .ok (.invokevirtual 277, 3) := by decide +kernel
theorem d_sc_waitsForDamper_31 : decode q_sc_waitsForDamper.2.1 31 = .ok (.ifCond .ne 7, 3) := by decide +kernel
theorem d_sc_waitsForDamper_34 : decode q_sc_waitsForDamper.2.1 34 = .ok (.iconst 1, 1) := by decide +kernel
theorem d_sc_waitsForDamper_35 : decode q_sc_waitsForDamper.2.1 35 = .ok (.goto 4, 3) := by decide +kernel
theorem d_sc_waitsForDamper_38 : decode q_sc_waitsForDamper.2.1 38 = .ok (.iconst 0, 1) := by decide +kernel
theorem d_sc_waitsForDamper_39 : decode q_sc_waitsForDamper.2.1 39 = .ok (.ireturn, 1) := by decide +kernel
theorem w_sc_waitsForDamper_L39 (l : Launch) (lo hi d : Nat) (hS : sm_has lo hi) {h' : sm_H} {r0 : Int32} (s0 : Int32) (h : sm_H) (hf : f_sc_waitsForDamper_L39 s0 h = some (r0, h')) : sm_W l lo hi (d + 6) q_sc_waitsForDamper 39 [] [.int s0] h (some (.int r0)) h' := by
  unfold f_sc_waitsForDamper_L39 at hf
  obtain ⟨c14, hf⟩ := sm_gdE hf
  obtain ⟨rfl, rfl⟩ := sm_ret2 hf
  exact sm_bret c14 d_sc_waitsForDamper_39 rfl
theorem m_sc_waitsForDamper (l : Launch) (lo hi d : Nat) (hS : sm_has lo hi) {a0 : Nat} {a1 : Int32} {r0 : Int32} {h h' : sm_H} (e0 : sm_at lo hi (0, 9, 0) a0) (hf : f_sc_waitsForDamper a0 a1 h = some (r0, h')) : sm_Met l lo hi (d + 6) q_sc_waitsForDamper [.ref a0, .int a1] h (some (.int r0)) h' := by
  refine sm_Met.of (by decide +kernel) rfl ?_
  show sm_W l lo hi (d + 6) q_sc_waitsForDamper 0 [(0, .ref a0), (1, .int a1)] [] h (some (.int r0)) h'
  unfold f_sc_waitsForDamper at hf
  refine sm_aload_n 0 rfl d_sc_waitsForDamper_0 ?_
  obtain ⟨r1, g2, c3, hf⟩ := sm_b2E hf
  refine sm_callV (As := []) (rv := some (.ref r1)) (h1 := g2) (c := 9) cvv_sc_262 rfl rfl e0 (m_sc_presentCommands l lo hi _ hS e0 c3) rfl rfl d_sc_waitsForDamper_1 ?_
  obtain ⟨c4, hf⟩ := sm_gdE hf
  refine sm_getR (n := 2) fl_sc_266 (sm_ev (of_decide_eq_true c4) (sm_inner (sm_inner e0 5 rfl rfl rfl) 0 rfl rfl rfl)) rfl d_sc_waitsForDamper_4 ?_
  refine sm_bipush (v := 16) (by decide) d_sc_waitsForDamper_7 ?_
  refine sm_iload_n 1 rfl d_sc_waitsForDamper_9 ?_
  refine sm_iadd d_sc_waitsForDamper_10 ?_
  obtain ⟨c5, hf⟩ := sm_gdE hf
  refine sm_iald (sm_at_arr (sm_inner (sm_ev (of_decide_eq_true c4) (sm_inner (sm_inner e0 5 rfl rfl rfl) 0 rfl rfl rfl)) 1 rfl rfl rfl)) c5 d_sc_waitsForDamper_11 ?_
  refine sm_iconst (v := 1) (by decide) d_sc_waitsForDamper_12 ?_
  refine sm_icmp_ne 38 d_sc_waitsForDamper_13 rfl (fun c6 => ?_) (fun c6 => ?_)
  · have hf := sm_ifF c6 hf
    refine sm_iconst (v := 0) (by decide) d_sc_waitsForDamper_38 ?_
    refine sm_sub [] rfl ?_
    exact w_sc_waitsForDamper_L39 l lo hi d hS _ _ hf
  · have hf := sm_ifT c6 hf
    refine sm_aload_n 0 rfl d_sc_waitsForDamper_16 ?_
    refine sm_getR (n := 40) fl_sc_24 e0 rfl d_sc_waitsForDamper_17 ?_
    refine sm_iload_n 1 rfl d_sc_waitsForDamper_20 ?_
    refine sm_aload_n 0 rfl d_sc_waitsForDamper_21 ?_
    refine sm_getR (n := 40) fl_sc_24 e0 rfl d_sc_waitsForDamper_22 ?_
    obtain ⟨r7, g8, c9, hf⟩ := sm_b2E hf
    refine sm_callV (As := []) (rv := some (.int r7)) (h1 := g8) (c := 7) cvv_sc_274 rfl rfl (sm_inner e0 1 rfl rfl rfl) (m_st_provenOpen l lo hi _ hS (sm_inner e0 1 rfl rfl rfl) c9) rfl rfl d_sc_waitsForDamper_25 ?_
    obtain ⟨r10, g11, c12, hf⟩ := sm_b2E hf
    refine sm_callV (As := [.int a1, .int r7]) (rv := some (.int r10)) (h1 := g11) (c := 7) cvv_sc_277 rfl rfl (sm_inner e0 1 rfl rfl rfl) (m_st_hasWay l lo hi _ hS (sm_inner e0 1 rfl rfl rfl) c12) rfl rfl d_sc_waitsForDamper_28 ?_
    refine sm_if_ne 38 d_sc_waitsForDamper_31 rfl (fun c13 => ?_) (fun c13 => ?_)
    · have hf := sm_ifF c13 hf
      refine sm_iconst (v := 0) (by decide) d_sc_waitsForDamper_38 ?_
      refine sm_sub [] rfl ?_
      exact w_sc_waitsForDamper_L39 l lo hi d hS _ _ hf
    · have hf := sm_ifT c13 hf
      refine sm_iconst (v := 1) (by decide) d_sc_waitsForDamper_34 ?_
      refine sm_goto 39 d_sc_waitsForDamper_35 rfl ?_
      refine sm_sub [] rfl ?_
      exact w_sc_waitsForDamper_L39 l lo hi d hS _ _ hf
theorem d_sc_fan_0 : decode q_sc_fan.2.1 0 = .ok (.aload_n 0, 1) := by decide +kernel
theorem d_sc_fan_1 : decode q_sc_fan.2.1 1 = .ok (.iload_n 1, 1) := by decide +kernel
theorem d_sc_fan_2 : decode q_sc_fan.2.1 2 = .ok (.invokevirtual 147, 3) := by decide +kernel
theorem d_sc_fan_5 : decode q_sc_fan.2.1 5 = .ok (.ifCond .eq 5, 3) := by decide +kernel
theorem d_sc_fan_8 : decode q_sc_fan.2.1 8 = .ok (.iconst (-1), 1) := by decide +kernel
theorem d_sc_fan_9 : decode q_sc_fan.2.1 9 = .ok (.ireturn, 1) := by decide +kernel
theorem d_sc_fan_10 : decode q_sc_fan.2.1 10 = .ok (.iload_n 2, 1) := by decide +kernel
theorem d_sc_fan_11 : decode q_sc_fan.2.1 11 = .ok (.lookupswitch 48 #[(5, 25), (6, 34)], 25) := by decide +kernel
theorem d_sc_fan_36 : decode q_sc_fan.2.1 36 = .ok (.aload_n 0, 1) := by decide +kernel
theorem d_sc_fan_37 : decode q_sc_fan.2.1 37 = .ok (.getfield 24, 3) := by decide +kernel
theorem d_sc_fan_40 : decode q_sc_fan.2.1 40 = .ok (.iload_n 1, 1) := by decide +kernel
theorem d_sc_fan_41 : decode q_sc_fan.2.1 41 = .ok (.invokevirtual 253, 3) := by decide +kernel
theorem d_sc_fan_44 : decode q_sc_fan.2.1 44 = .ok (.ireturn, 1) := by decide +kernel
theorem d_sc_fan_45 : decode q_sc_fan.2.1 45 = .ok (.aload_n 0, 1) := by decide +kernel
theorem d_sc_fan_46 : decode q_sc_fan.2.1 46 = .ok (.iload_n 1, 1) := by decide +kernel
theorem d_sc_fan_47 : decode q_sc_fan.2.1 47 = .ok (.invokevirtual 256, 3) := by decide +kernel
theorem d_sc_fan_50 : decode q_sc_fan.2.1 50 = .ok (.ifCond .eq 7, 3) := by decide +kernel
theorem d_sc_fan_53 : decode q_sc_fan.2.1 53 = .ok (.iconst 1, 1) := by decide +kernel
theorem d_sc_fan_54 : decode q_sc_fan.2.1 54 = .ok (.goto 4, 3) := by decide +kernel
theorem d_sc_fan_57 : decode q_sc_fan.2.1 57 = .ok (.iconst 0, 1) := by decide +kernel
theorem d_sc_fan_58 : decode q_sc_fan.2.1 58 = .ok (.ireturn, 1) := by decide +kernel
theorem d_sc_fan_59 : decode q_sc_fan.2.1 59 = .ok (.aload_n 0, 1) := by decide +kernel
theorem d_sc_fan_60 : decode q_sc_fan.2.1 60 = .ok (.bipush 16, 2) := by decide +kernel
theorem d_sc_fan_62 : decode q_sc_fan.2.1 62 = .ok (.iload_n 1, 1) := by decide +kernel
theorem d_sc_fan_63 : decode q_sc_fan.2.1 63 = .ok (.iadd, 1) := by decide +kernel
theorem d_sc_fan_64 : decode q_sc_fan.2.1 64 = .ok (.iload_n 2, 1) := by decide +kernel
theorem d_sc_fan_65 : decode q_sc_fan.2.1 65 = .ok (.invokevirtual 249, 3) := by decide +kernel
theorem d_sc_fan_68 : decode q_sc_fan.2.1 68 = .ok (.ireturn, 1) := by decide +kernel
theorem w_sc_fan_L58 (l : Launch) (lo hi d : Nat) (hS : sm_has lo hi) {h' : sm_H} {r0 : Int32} (s0 : Int32) (h : sm_H) (hf : f_sc_fan_L58 s0 h = some (r0, h')) : sm_W l lo hi (d + 7) q_sc_fan 58 [] [.int s0] h (some (.int r0)) h' := by
  unfold f_sc_fan_L58 at hf
  obtain ⟨rfl, rfl⟩ := sm_ret2 hf
  exact sm_iret d_sc_fan_58 rfl
theorem m_sc_fan (l : Launch) (lo hi d : Nat) (hS : sm_has lo hi) {a0 : Nat} {a1 : Int32} {a2 : Int32} {r0 : Int32} {h h' : sm_H} (e0 : sm_at lo hi (0, 9, 0) a0) (hf : f_sc_fan a0 a1 a2 h = some (r0, h')) : sm_Met l lo hi (d + 7) q_sc_fan [.ref a0, .int a1, .int a2] h (some (.int r0)) h' := by
  refine sm_Met.of (by decide +kernel) rfl ?_
  show sm_W l lo hi (d + 7) q_sc_fan 0 [(0, .ref a0), (1, .int a1), (2, .int a2)] [] h (some (.int r0)) h'
  unfold f_sc_fan at hf
  refine sm_aload_n 0 rfl d_sc_fan_0 ?_
  refine sm_iload_n 1 rfl d_sc_fan_1 ?_
  obtain ⟨r1, g2, c3, hf⟩ := sm_b2E hf
  refine sm_callV (As := [.int a1]) (rv := some (.int r1)) (h1 := g2) (c := 9) cvv_sc_147 rfl rfl e0 (m_sc_lacksFan l lo hi _ hS e0 c3) rfl rfl d_sc_fan_2 ?_
  refine sm_if_eq 10 d_sc_fan_5 rfl (fun c4 => ?_) (fun c4 => ?_)
  · have hf := sm_ifT c4 hf
    refine sm_iload_n 2 rfl d_sc_fan_10 ?_
    by_cases c5 : a2 = 5
    · have hf := sm_ifT c5 hf
      refine sm_lookup 36 d_sc_fan_11 rfl (by rw [c5]; first | done | rfl) rfl ?_
      refine sm_aload_n 0 rfl d_sc_fan_36 ?_
      refine sm_getR (n := 40) fl_sc_24 e0 rfl d_sc_fan_37 ?_
      refine sm_iload_n 1 rfl d_sc_fan_40 ?_
      obtain ⟨r6, g7, c8, hf⟩ := sm_b2E hf
      refine sm_callV (As := [.int a1]) (rv := some (.int r6)) (h1 := g7) (c := 7) cvv_sc_253 rfl rfl (sm_inner e0 1 rfl rfl rfl) (m_st_fanAir l lo hi _ hS (sm_inner e0 1 rfl rfl rfl) c8) rfl rfl d_sc_fan_41 ?_
      obtain ⟨rfl, rfl⟩ := sm_ret2 hf
      exact sm_iret d_sc_fan_44 rfl
    have hf := sm_ifF c5 hf
    by_cases c9 : a2 = 6
    · have hf := sm_ifT c9 hf
      refine sm_lookup 45 d_sc_fan_11 rfl (by rw [c9]; first | done | rfl) rfl ?_
      refine sm_aload_n 0 rfl d_sc_fan_45 ?_
      refine sm_iload_n 1 rfl d_sc_fan_46 ?_
      obtain ⟨r10, g11, c12, hf⟩ := sm_b2E hf
      refine sm_callV (As := [.int a1]) (rv := some (.int r10)) (h1 := g11) (c := 9) cvv_sc_256 rfl rfl e0 (m_sc_waitsForDamper l lo hi _ hS e0 c12) rfl rfl d_sc_fan_47 ?_
      refine sm_if_eq 57 d_sc_fan_50 rfl (fun c13 => ?_) (fun c13 => ?_)
      · have hf := sm_ifT c13 hf
        refine sm_iconst (v := 0) (by decide) d_sc_fan_57 ?_
        refine sm_sub [] rfl ?_
        exact w_sc_fan_L58 l lo hi d hS _ _ hf
      · have hf := sm_ifF c13 hf
        refine sm_iconst (v := 1) (by decide) d_sc_fan_53 ?_
        refine sm_goto 58 d_sc_fan_54 rfl ?_
        refine sm_sub [] rfl ?_
        exact w_sc_fan_L58 l lo hi d hS _ _ hf
    have hf := sm_ifF c9 hf
    refine sm_lookup 59 d_sc_fan_11 rfl (by show Op.lookupswitch.offset [(5, 25), (6, 34)] _ _ = _; rw [lv_osw (k := 5) (a := 5) c5 (by decide), lv_osw (k := 6) (a := 6) c9 (by decide)]; first | done | rfl) rfl ?_
    refine sm_aload_n 0 rfl d_sc_fan_59 ?_
    refine sm_bipush (v := 16) (by decide) d_sc_fan_60 ?_
    refine sm_iload_n 1 rfl d_sc_fan_62 ?_
    refine sm_iadd d_sc_fan_63 ?_
    refine sm_iload_n 2 rfl d_sc_fan_64 ?_
    obtain ⟨r14, g15, c16, hf⟩ := sm_b2E hf
    refine sm_callV (As := [.int (16 + a1), .int a2]) (rv := some (.int r14)) (h1 := g15) (c := 9) cvv_sc_249 rfl rfl e0 (m_sc_unitAnswer l lo hi _ hS e0 c16) rfl rfl d_sc_fan_65 ?_
    obtain ⟨rfl, rfl⟩ := sm_ret2 hf
    exact sm_iret d_sc_fan_68 rfl
  · have hf := sm_ifF c4 hf
    refine sm_iconst (v := (-1)) (by decide) d_sc_fan_8 ?_
    obtain ⟨rfl, rfl⟩ := sm_ret2 hf
    exact sm_iret d_sc_fan_9 rfl
theorem d_sc_ruleHolds_0 : decode q_sc_ruleHolds.2.1 0 = .ok (.iload_n 1, 1) := by decide +kernel
theorem d_sc_ruleHolds_1 : decode q_sc_ruleHolds.2.1 1 = .ok (.ifCond .lt 20, 3) := by decide +kernel
theorem d_sc_ruleHolds_4 : decode q_sc_ruleHolds.2.1 4 = .ok (.iload_n 1, 1) := by decide +kernel
theorem d_sc_ruleHolds_5 : decode q_sc_ruleHolds.2.1 5 = .ok (.aload_n 0, 1) := by decide +kernel
theorem d_sc_ruleHolds_6 : decode q_sc_ruleHolds.2.1 6 = .ok (.getfield 24, 3) := by decide +kernel
theorem d_sc_ruleHolds_9 : decode q_sc_ruleHolds.2.1 9 = .ok (.getfield 70, 3) := by decide +kernel
theorem d_sc_ruleHolds_12 : decode q_sc_ruleHolds.2.1 12 = .ok (.getfield 95, 3) := by decide +kernel
theorem d_sc_ruleHolds_15 : decode q_sc_ruleHolds.2.1 15 = .ok (.getfield 99, 3) := by decide +kernel
theorem d_sc_ruleHolds_18 : decode q_sc_ruleHolds.2.1 18 = .ok (.if_icmp .lt 5, 3) := by decide +kernel
theorem d_sc_ruleHolds_21 : decode q_sc_ruleHolds.2.1 21 = .ok (.iconst (-1), 1) := by decide +kernel
theorem d_sc_ruleHolds_22 : decode q_sc_ruleHolds.2.1 22 = .ok (.ireturn, 1) := by decide +kernel
theorem d_sc_ruleHolds_23 : decode q_sc_ruleHolds.2.1 23 = .ok (.aload_n 0, 1) := by decide +kernel
theorem d_sc_ruleHolds_24 : decode q_sc_ruleHolds.2.1 24 = .ok (.getfield 38, 3) := by decide +kernel
theorem d_sc_ruleHolds_27 : decode q_sc_ruleHolds.2.1 27 = .ok (.getfield 280, 3) := by decide +kernel
theorem d_sc_ruleHolds_30 : decode q_sc_ruleHolds.2.1 30 = .ok (.aload_n 0, 1) := by decide +kernel
theorem d_sc_ruleHolds_31 : decode q_sc_ruleHolds.2.1 31 = .ok (.getfield 24, 3) := by decide +kernel
theorem d_sc_ruleHolds_34 : decode q_sc_ruleHolds.2.1 34 = .ok (.iload_n 1, 1) := by decide +kernel
theorem d_sc_ruleHolds_35 : decode q_sc_ruleHolds.2.1 35 = .ok (.invokevirtual 287, 3) := by decide +kernel
theorem d_sc_ruleHolds_38 : decode q_sc_ruleHolds.2.1 38 = .ok (.ifCond .eq 7, 3) := by decide +kernel
theorem d_sc_ruleHolds_41 : decode q_sc_ruleHolds.2.1 41 = .ok (.iconst 1, 1) := by decide +kernel
theorem d_sc_ruleHolds_42 : decode q_sc_ruleHolds.2.1 42 = .ok (.goto 4, 3) := by decide +kernel
theorem d_sc_ruleHolds_45 : decode q_sc_ruleHolds.2.1 45 = .ok (.iconst 0, 1) := by decide +kernel
theorem d_sc_ruleHolds_46 : decode q_sc_ruleHolds.2.1 46 = .ok (.ireturn, 1) := by decide +kernel
theorem w_sc_ruleHolds_L46 (l : Launch) (lo hi d : Nat) (hS : sm_has lo hi) {h' : sm_H} {r0 : Int32} (s0 : Int32) (h : sm_H) (hf : f_sc_ruleHolds_L46 s0 h = some (r0, h')) : sm_W l lo hi (d + 3) q_sc_ruleHolds 46 [] [.int s0] h (some (.int r0)) h' := by
  unfold f_sc_ruleHolds_L46 at hf
  obtain ⟨rfl, rfl⟩ := sm_ret2 hf
  exact sm_iret d_sc_ruleHolds_46 rfl
theorem m_sc_ruleHolds (l : Launch) (lo hi d : Nat) (hS : sm_has lo hi) {a0 : Nat} {a1 : Int32} {r0 : Int32} {h h' : sm_H} (e0 : sm_at lo hi (0, 9, 0) a0) (hf : f_sc_ruleHolds a0 a1 h = some (r0, h')) : sm_Met l lo hi (d + 3) q_sc_ruleHolds [.ref a0, .int a1] h (some (.int r0)) h' := by
  refine sm_Met.of (by decide +kernel) rfl ?_
  show sm_W l lo hi (d + 3) q_sc_ruleHolds 0 [(0, .ref a0), (1, .int a1)] [] h (some (.int r0)) h'
  unfold f_sc_ruleHolds at hf
  refine sm_iload_n 1 rfl d_sc_ruleHolds_0 ?_
  refine sm_if_lt 21 d_sc_ruleHolds_1 rfl (fun c1 => ?_) (fun c1 => ?_)
  · have hf := sm_ifT c1 hf
    refine sm_iconst (v := (-1)) (by decide) d_sc_ruleHolds_21 ?_
    obtain ⟨rfl, rfl⟩ := sm_ret2 hf
    exact sm_iret d_sc_ruleHolds_22 rfl
  · have hf := sm_ifF c1 hf
    refine sm_iload_n 1 rfl d_sc_ruleHolds_4 ?_
    refine sm_aload_n 0 rfl d_sc_ruleHolds_5 ?_
    refine sm_getR (n := 40) fl_sc_24 e0 rfl d_sc_ruleHolds_6 ?_
    obtain ⟨c2, hf⟩ := sm_gdE hf
    obtain ⟨z3, v4⟩ := sm_isP_at hS c2
    refine sm_getD fl_sc_70 (sm_inner e0 1 rfl rfl rfl) rfl z3 d_sc_ruleHolds_9 ?_
    refine sm_nmR (fun p5 w6 => ?_)
    have hf := sm_letV w6 hf
    have v4 := sm_ev w6 v4
    refine sm_getR (n := 9) fl_sc_95 v4 rfl d_sc_ruleHolds_12 ?_
    refine sm_getI fl_sc_99 (sm_inner v4 15 rfl rfl rfl) rfl d_sc_ruleHolds_15 ?_
    refine sm_icmp_lt 23 d_sc_ruleHolds_18 rfl (fun c7 => ?_) (fun c7 => ?_)
    · have hf := sm_ifT c7 hf
      refine sm_aload_n 0 rfl d_sc_ruleHolds_23 ?_
      refine sm_getR (n := 106) fl_sc_38 e0 rfl d_sc_ruleHolds_24 ?_
      refine sm_getR (n := 1) fl_sc_280 (sm_inner e0 5 rfl rfl rfl) rfl d_sc_ruleHolds_27 ?_
      refine sm_aload_n 0 rfl d_sc_ruleHolds_30 ?_
      refine sm_getR (n := 40) fl_sc_24 e0 rfl d_sc_ruleHolds_31 ?_
      refine sm_iload_n 1 rfl d_sc_ruleHolds_34 ?_
      obtain ⟨r8, g9, c10, hf⟩ := sm_b2E hf
      refine sm_callV (As := [.ref (a0 + 40), .int a1]) (rv := some (.int r8)) (h1 := g9) (c := 1) cvv_sc_287 rfl rfl (sm_inner (sm_inner e0 5 rfl rfl rfl) 0 rfl rfl rfl) (m_co_holds l lo hi _ hS (sm_inner (sm_inner e0 5 rfl rfl rfl) 0 rfl rfl rfl) (sm_inner e0 1 rfl rfl rfl) c10) rfl rfl d_sc_ruleHolds_35 ?_
      refine sm_if_eq 45 d_sc_ruleHolds_38 rfl (fun c11 => ?_) (fun c11 => ?_)
      · have hf := sm_ifT c11 hf
        refine sm_iconst (v := 0) (by decide) d_sc_ruleHolds_45 ?_
        refine sm_sub [] rfl ?_
        exact w_sc_ruleHolds_L46 l lo hi d hS _ _ hf
      · have hf := sm_ifF c11 hf
        refine sm_iconst (v := 1) (by decide) d_sc_ruleHolds_41 ?_
        refine sm_goto 46 d_sc_ruleHolds_42 rfl ?_
        refine sm_sub [] rfl ?_
        exact w_sc_ruleHolds_L46 l lo hi d hS _ _ hf
    · have hf := sm_ifF c7 hf
      refine sm_iconst (v := (-1)) (by decide) d_sc_ruleHolds_21 ?_
      obtain ⟨rfl, rfl⟩ := sm_ret2 hf
      exact sm_iret d_sc_ruleHolds_22 rfl
theorem d_sc_commandsBy_0 : decode q_sc_commandsBy.2.1 0 = .ok (.iload_n 1, 1) := by decide +kernel
theorem d_sc_commandsBy_1 : decode q_sc_commandsBy.2.1 1 = .ok (.ifCond .lt 8, 3) := by decide +kernel
theorem d_sc_commandsBy_4 : decode q_sc_commandsBy.2.1 4 = .ok (.iload_n 1, 1) := by decide +kernel
theorem d_sc_commandsBy_5 : decode q_sc_commandsBy.2.1 5 = .ok (.iconst 3, 1) := by decide +kernel
theorem d_sc_commandsBy_6 : decode q_sc_commandsBy.2.1 6 = .ok (.if_icmp .le 6, 3) := by decide +kernel
theorem d_sc_commandsBy_9 : decode q_sc_commandsBy.2.1 9 = .ok (.bipush (-2), 2) := by decide +kernel
theorem d_sc_commandsBy_11 : decode q_sc_commandsBy.2.1 11 = .ok (.ireturn, 1) := by decide +kernel
theorem d_sc_commandsBy_12 : decode q_sc_commandsBy.2.1 12 = .ok (.aload_n 0, 1) := by decide +kernel
theorem d_sc_commandsBy_13 : decode q_sc_commandsBy.2.1 13 = .ok (.invokevirtual 262, 3) := by decide +kernel
theorem d_sc_commandsBy_16 : decode q_sc_commandsBy.2.1 16 = .ok (.getfield 271, 3) := by decide +kernel
theorem d_sc_commandsBy_19 : decode q_sc_commandsBy.2.1 19 = .ok (.astore_n 2, 1) := by decide +kernel
theorem d_sc_commandsBy_20 : decode q_sc_commandsBy.2.1 20 = .ok (.iconst 0, 1) := by decide +kernel
theorem d_sc_commandsBy_21 : decode q_sc_commandsBy.2.1 21 = .ok (.istore_n 3, 1) := by decide +kernel
theorem d_sc_commandsBy_22 : decode q_sc_commandsBy.2.1 22 = .ok (.iconst 0, 1) := by decide +kernel
theorem d_sc_commandsBy_23 : decode q_sc_commandsBy.2.1 23 = .ok (.istore 4, 2) := by decide +kernel
theorem d_sc_commandsBy_25 : decode q_sc_commandsBy.2.1 25 = .ok (.iload 4, 2) := by decide +kernel
theorem d_sc_commandsBy_27 : decode q_sc_commandsBy.2.1 27 = .ok (.aload_n 0, 1) := by decide +kernel
theorem d_sc_commandsBy_28 : decode q_sc_commandsBy.2.1 28 = .ok (.getfield 24, 3) := by decide +kernel
theorem d_sc_commandsBy_31 : decode q_sc_commandsBy.2.1 31 = .ok (.getfield 70, 3) := by decide +kernel
theorem d_sc_commandsBy_34 : decode q_sc_commandsBy.2.1 34 = .ok (.getfield 86, 3) := by decide +kernel
theorem d_sc_commandsBy_37 : decode q_sc_commandsBy.2.1 37 = .ok (.if_icmp .ge 25, 3) := by decide +kernel
theorem d_sc_commandsBy_40 : decode q_sc_commandsBy.2.1 40 = .ok (.iload_n 3, 1) := by decide +kernel
theorem d_sc_commandsBy_41 : decode q_sc_commandsBy.2.1 41 = .ok (.aload_n 2, 1) := by decide +kernel
theorem d_sc_commandsBy_42 : decode q_sc_commandsBy.2.1 42 = .ok (.iload 4, 2) := by decide +kernel
theorem d_sc_commandsBy_44 : decode q_sc_commandsBy.2.1 44 = .ok (.iaload, 1) := by decide +kernel
theorem d_sc_commandsBy_45 : decode q_sc_commandsBy.2.1 45 = .ok (.iload_n 1, 1) := by decide +kernel
theorem d_sc_commandsBy_46 : decode q_sc_commandsBy.2.1 46 = .ok (.if_icmp .ne 7, 3) := by decide +kernel
theorem d_sc_commandsBy_49 : decode q_sc_commandsBy.2.1 49 = .ok (.iconst 1, 1) := by decide +kernel
theorem d_sc_commandsBy_50 : decode q_sc_commandsBy.2.1 50 = .ok (.goto 4, 3) := by decide +kernel
theorem d_sc_commandsBy_53 : decode q_sc_commandsBy.2.1 53 = .ok (.iconst 0, 1) := by decide +kernel
theorem d_sc_commandsBy_54 : decode q_sc_commandsBy.2.1 54 = .ok (.iadd, 1) := by decide +kernel
theorem d_sc_commandsBy_55 : decode q_sc_commandsBy.2.1 55 = .ok (.istore_n 3, 1) := by decide +kernel
theorem d_sc_commandsBy_56 : decode q_sc_commandsBy.2.1 56 = .ok (.iinc 4 1, 3) := by decide +kernel
theorem d_sc_commandsBy_59 : decode q_sc_commandsBy.2.1 59 = .ok (.goto (-34), 3) := by decide +kernel
theorem d_sc_commandsBy_62 : decode q_sc_commandsBy.2.1 62 = .ok (.iconst 0, 1) := by decide +kernel
theorem d_sc_commandsBy_63 : decode q_sc_commandsBy.2.1 63 = .ok (.istore 4, 2) := by decide +kernel
theorem d_sc_commandsBy_65 : decode q_sc_commandsBy.2.1 65 = .ok (.iload 4, 2) := by decide +kernel
theorem d_sc_commandsBy_67 : decode q_sc_commandsBy.2.1 67 = .ok (.aload_n 0, 1) := by decide +kernel
theorem d_sc_commandsBy_68 : decode q_sc_commandsBy.2.1 68 = .ok (.getfield 24, 3) := by decide +kernel
theorem d_sc_commandsBy_71 : decode q_sc_commandsBy.2.1 71 = .ok (.getfield 70, 3) := by decide +kernel
theorem d_sc_commandsBy_74 : decode q_sc_commandsBy.2.1 74 = .ok (.getfield 89, 3) := by decide +kernel
theorem d_sc_commandsBy_77 : decode q_sc_commandsBy.2.1 77 = .ok (.if_icmp .ge 28, 3) := by decide +kernel
theorem d_sc_commandsBy_80 : decode q_sc_commandsBy.2.1 80 = .ok (.iload_n 3, 1) := by decide +kernel
theorem d_sc_commandsBy_81 : decode q_sc_commandsBy.2.1 81 = .ok (.aload_n 2, 1) := by decide +kernel
theorem d_sc_commandsBy_82 : decode q_sc_commandsBy.2.1 82 = .ok (.bipush 16, 2) := by decide +kernel
theorem d_sc_commandsBy_84 : decode q_sc_commandsBy.2.1 84 = .ok (.iload 4, 2) := by decide +kernel
theorem d_sc_commandsBy_86 : decode q_sc_commandsBy.2.1 86 = .ok (.iadd, 1) := by decide +kernel
theorem d_sc_commandsBy_87 : decode q_sc_commandsBy.2.1 87 = .ok (.iaload, 1) := by decide +kernel
theorem d_sc_commandsBy_88 : decode q_sc_commandsBy.2.1 88 = .ok (.iload_n 1, 1) := by decide +kernel
theorem d_sc_commandsBy_89 : decode q_sc_commandsBy.2.1 89 = .ok (.if_icmp .ne 7, 3) := by decide +kernel
theorem d_sc_commandsBy_92 : decode q_sc_commandsBy.2.1 92 = .ok (.iconst 1, 1) := by decide +kernel
theorem d_sc_commandsBy_93 : decode q_sc_commandsBy.2.1 93 = .ok (.goto 4, 3) := by decide +kernel
theorem d_sc_commandsBy_96 : decode q_sc_commandsBy.2.1 96 = .ok (.iconst 0, 1) := by decide +kernel
theorem d_sc_commandsBy_97 : decode q_sc_commandsBy.2.1 97 = .ok (.iadd, 1) := by decide +kernel
theorem d_sc_commandsBy_98 : decode q_sc_commandsBy.2.1 98 = .ok (.istore_n 3, 1) := by decide +kernel
theorem d_sc_commandsBy_99 : decode q_sc_commandsBy.2.1 99 = .ok (.iinc 4 1, 3) := by decide +kernel
theorem d_sc_commandsBy_102 : decode q_sc_commandsBy.2.1 102 = .ok (.goto (-37), 3) := by decide +kernel
theorem d_sc_commandsBy_105 : decode q_sc_commandsBy.2.1 105 = .ok (.iload_n 3, 1) := by decide +kernel
theorem d_sc_commandsBy_106 : decode q_sc_commandsBy.2.1 106 = .ok (.ireturn, 1) := by decide +kernel
theorem w_sc_commandsBy_L9 (l : Launch) (lo hi d : Nat) (hS : sm_has lo hi) {h' : sm_H} {r0 : Int32} (h : sm_H) (hf : f_sc_commandsBy_L9 h = some (r0, h')) : sm_W l lo hi (d + 6) q_sc_commandsBy 9 [] [] h (some (.int r0)) h' := by
  unfold f_sc_commandsBy_L9 at hf
  refine sm_bipush (v := (-2)) (by decide) d_sc_commandsBy_9 ?_
  obtain ⟨rfl, rfl⟩ := sm_ret2 hf
  exact sm_iret d_sc_commandsBy_11 rfl
theorem w_sc_commandsBy_L105 (l : Launch) (lo hi d : Nat) (hS : sm_has lo hi) {h' : sm_H} {r0 : Int32} (a3 : Int32) (h : sm_H) (hf : f_sc_commandsBy_L105 a3 h = some (r0, h')) : sm_W l lo hi (d + 6) q_sc_commandsBy 105 [(3, .int a3)] [] h (some (.int r0)) h' := by
  unfold f_sc_commandsBy_L105 at hf
  refine sm_iload_n 0 rfl d_sc_commandsBy_105 ?_
  obtain ⟨rfl, rfl⟩ := sm_ret2 hf
  exact sm_iret d_sc_commandsBy_106 rfl
theorem w_sc_commandsBy_L97 (l : Launch) (lo hi d : Nat) (hS : sm_has lo hi) {k65 : Nat → Int32 → Nat → Int32 → Int32 → sm_H → Option (Int32 × sm_H)} {h' : sm_H} {r0 : Int32} (hk65 : ∀ (a0 : Nat) (a1 : Int32) (a2 : Nat) (a3 : Int32) (a4 : Int32) (h : sm_H) (_ : sm_at lo hi (0, 9, 0) a0) (_ : sm_arr lo hi 0 23 a2) , k65 a0 a1 a2 a3 a4 h = some (r0, h') → sm_W l lo hi (d + 6) q_sc_commandsBy 65 [(0, .ref a0), (1, .int a1), (2, .ref a2), (3, .int a3), (4, .int a4)] [] h (some (.int r0)) h') (a0 : Nat) (a1 : Int32) (a2 : Nat) (a4 : Int32) (s0 : Int32) (s1 : Int32) (h : sm_H) (e0 : sm_at lo hi (0, 9, 0) a0) (e2 : sm_arr lo hi 0 23 a2) (hf : f_sc_commandsBy_L97 k65 a0 a1 a2 a4 s0 s1 h = some (r0, h')) : sm_W l lo hi (d + 6) q_sc_commandsBy 97 [(0, .ref a0), (1, .int a1), (2, .ref a2), (4, .int a4)] [.int s0, .int s1] h (some (.int r0)) h' := by
  unfold f_sc_commandsBy_L97 at hf
  refine sm_iadd d_sc_commandsBy_97 ?_
  refine sm_nmI (fun x27 w28 => ?_)
  have hf := sm_letV w28 hf
  refine sm_istore_n (lv' := [(3, .int x27), (0, .ref a0), (1, .int a1), (2, .ref a2), (4, .int a4)]) d_sc_commandsBy_98 rfl rfl ?_
  obtain ⟨x29, w30⟩ : ∃ v : Int32, v = a4 + 1 := ⟨_, rfl⟩
  have hf := sm_letV w30 hf
  refine sm_iinc (v := x29) (lv' := [(4, .int x29), (3, .int x27), (0, .ref a0), (1, .int a1), (2, .ref a2)]) 4 rfl (by rw [w30]; rfl) d_sc_commandsBy_99 rfl rfl ?_
  refine sm_goto 65 d_sc_commandsBy_102 rfl ?_
  refine sm_sub [2, 3, 4, 1, 0] rfl ?_
  exact hk65 _ _ _ _ _ _ e0 e2 hf
theorem w_sc_commandsBy_L65 (l : Launch) (lo hi d : Nat) (hS : sm_has lo hi) {h' : sm_H} {r0 : Int32} : ∀ (n : Nat) (a0 : Nat) (a1 : Int32) (a2 : Nat) (a3 : Int32) (a4 : Int32) (h : sm_H) (e0 : sm_at lo hi (0, 9, 0) a0) (e2 : sm_arr lo hi 0 23 a2) (hf : f_sc_commandsBy_L65 n a0 a1 a2 a3 a4 h = some (r0, h')), sm_W l lo hi (d + 6) q_sc_commandsBy 65 [(0, .ref a0), (1, .int a1), (2, .ref a2), (3, .int a3), (4, .int a4)] [] h (some (.int r0)) h' := by
  intro n
  induction n with
  | zero =>
    intro a0 a1 a2 a3 a4 h e0 e2 hf
    have z : (none : Option (Int32 × sm_H)) = some _ := hf
    cases z
  | succ n ih =>
    intro a0 a1 a2 a3 a4 h e0 e2 hf
    unfold f_sc_commandsBy_L65 at hf
    refine sm_iload 4 rfl d_sc_commandsBy_65 ?_
    refine sm_aload_n 0 rfl d_sc_commandsBy_67 ?_
    refine sm_getR (n := 40) fl_sc_24 e0 rfl d_sc_commandsBy_68 ?_
    obtain ⟨c19, hf⟩ := sm_gdE hf
    obtain ⟨z20, v21⟩ := sm_isP_at hS c19
    refine sm_getD fl_sc_70 (sm_inner e0 1 rfl rfl rfl) rfl z20 d_sc_commandsBy_71 ?_
    refine sm_nmR (fun p22 w23 => ?_)
    have hf := sm_letV w23 hf
    have v21 := sm_ev w23 v21
    refine sm_getI fl_sc_89 v21 rfl d_sc_commandsBy_74 ?_
    refine sm_icmp_ge 105 d_sc_commandsBy_77 rfl (fun c24 => ?_) (fun c24 => ?_)
    · have hf := sm_ifT c24 hf
      refine sm_sub [3] rfl ?_
      exact w_sc_commandsBy_L105 l lo hi d hS _ _ hf
    · have hf := sm_ifF c24 hf
      refine sm_iload_n 3 rfl d_sc_commandsBy_80 ?_
      refine sm_aload_n 2 rfl d_sc_commandsBy_81 ?_
      refine sm_bipush (v := 16) (by decide) d_sc_commandsBy_82 ?_
      refine sm_iload 4 rfl d_sc_commandsBy_84 ?_
      refine sm_iadd d_sc_commandsBy_86 ?_
      obtain ⟨c25, hf⟩ := sm_gdE hf
      refine sm_iald e2 c25 d_sc_commandsBy_87 ?_
      refine sm_iload_n 1 rfl d_sc_commandsBy_88 ?_
      refine sm_icmp_ne 96 d_sc_commandsBy_89 rfl (fun c26 => ?_) (fun c26 => ?_)
      · have hf := sm_ifF c26 hf
        refine sm_iconst (v := 0) (by decide) d_sc_commandsBy_96 ?_
        refine sm_sub [0, 1, 2, 4] rfl ?_
        exact w_sc_commandsBy_L97 l lo hi d hS ih _ _ _ _ _ _ _ e0 e2 hf
      · have hf := sm_ifT c26 hf
        refine sm_iconst (v := 1) (by decide) d_sc_commandsBy_92 ?_
        refine sm_goto 97 d_sc_commandsBy_93 rfl ?_
        refine sm_sub [0, 1, 2, 4] rfl ?_
        exact w_sc_commandsBy_L97 l lo hi d hS ih _ _ _ _ _ _ _ e0 e2 hf
theorem w_sc_commandsBy_L62 (l : Launch) (lo hi d : Nat) (hS : sm_has lo hi) {h' : sm_H} {r0 : Int32} (a0 : Nat) (a1 : Int32) (a2 : Nat) (a3 : Int32) (h : sm_H) (e0 : sm_at lo hi (0, 9, 0) a0) (e2 : sm_arr lo hi 0 23 a2) (hf : f_sc_commandsBy_L62 a0 a1 a2 a3 h = some (r0, h')) : sm_W l lo hi (d + 6) q_sc_commandsBy 62 [(0, .ref a0), (1, .int a1), (2, .ref a2), (3, .int a3)] [] h (some (.int r0)) h' := by
  unfold f_sc_commandsBy_L62 at hf
  refine sm_iconst (v := 0) (by decide) d_sc_commandsBy_62 ?_
  refine sm_istore (lv' := [(4, .int 0), (0, .ref a0), (1, .int a1), (2, .ref a2), (3, .int a3)]) d_sc_commandsBy_63 rfl rfl ?_
  refine sm_sub [1, 2, 3, 4, 0] rfl ?_
  exact w_sc_commandsBy_L65 l lo hi d hS sm_N _ _ _ _ _ _ e0 e2 hf
theorem w_sc_commandsBy_L54 (l : Launch) (lo hi d : Nat) (hS : sm_has lo hi) {k25 : Nat → Int32 → Nat → Int32 → Int32 → sm_H → Option (Int32 × sm_H)} {h' : sm_H} {r0 : Int32} (hk25 : ∀ (a0 : Nat) (a1 : Int32) (a2 : Nat) (a3 : Int32) (a4 : Int32) (h : sm_H) (_ : sm_at lo hi (0, 9, 0) a0) (_ : sm_arr lo hi 0 23 a2) , k25 a0 a1 a2 a3 a4 h = some (r0, h') → sm_W l lo hi (d + 6) q_sc_commandsBy 25 [(0, .ref a0), (1, .int a1), (2, .ref a2), (3, .int a3), (4, .int a4)] [] h (some (.int r0)) h') (a0 : Nat) (a1 : Int32) (a2 : Nat) (a4 : Int32) (s0 : Int32) (s1 : Int32) (h : sm_H) (e0 : sm_at lo hi (0, 9, 0) a0) (e2 : sm_arr lo hi 0 23 a2) (hf : f_sc_commandsBy_L54 k25 a0 a1 a2 a4 s0 s1 h = some (r0, h')) : sm_W l lo hi (d + 6) q_sc_commandsBy 54 [(0, .ref a0), (1, .int a1), (2, .ref a2), (4, .int a4)] [.int s0, .int s1] h (some (.int r0)) h' := by
  unfold f_sc_commandsBy_L54 at hf
  refine sm_iadd d_sc_commandsBy_54 ?_
  refine sm_nmI (fun x15 w16 => ?_)
  have hf := sm_letV w16 hf
  refine sm_istore_n (lv' := [(3, .int x15), (0, .ref a0), (1, .int a1), (2, .ref a2), (4, .int a4)]) d_sc_commandsBy_55 rfl rfl ?_
  obtain ⟨x17, w18⟩ : ∃ v : Int32, v = a4 + 1 := ⟨_, rfl⟩
  have hf := sm_letV w18 hf
  refine sm_iinc (v := x17) (lv' := [(4, .int x17), (3, .int x15), (0, .ref a0), (1, .int a1), (2, .ref a2)]) 4 rfl (by rw [w18]; rfl) d_sc_commandsBy_56 rfl rfl ?_
  refine sm_goto 25 d_sc_commandsBy_59 rfl ?_
  refine sm_sub [2, 3, 4, 1, 0] rfl ?_
  exact hk25 _ _ _ _ _ _ e0 e2 hf
theorem w_sc_commandsBy_L25 (l : Launch) (lo hi d : Nat) (hS : sm_has lo hi) {h' : sm_H} {r0 : Int32} : ∀ (n : Nat) (a0 : Nat) (a1 : Int32) (a2 : Nat) (a3 : Int32) (a4 : Int32) (h : sm_H) (e0 : sm_at lo hi (0, 9, 0) a0) (e2 : sm_arr lo hi 0 23 a2) (hf : f_sc_commandsBy_L25 n a0 a1 a2 a3 a4 h = some (r0, h')), sm_W l lo hi (d + 6) q_sc_commandsBy 25 [(0, .ref a0), (1, .int a1), (2, .ref a2), (3, .int a3), (4, .int a4)] [] h (some (.int r0)) h' := by
  intro n
  induction n with
  | zero =>
    intro a0 a1 a2 a3 a4 h e0 e2 hf
    have z : (none : Option (Int32 × sm_H)) = some _ := hf
    cases z
  | succ n ih =>
    intro a0 a1 a2 a3 a4 h e0 e2 hf
    unfold f_sc_commandsBy_L25 at hf
    refine sm_iload 4 rfl d_sc_commandsBy_25 ?_
    refine sm_aload_n 0 rfl d_sc_commandsBy_27 ?_
    refine sm_getR (n := 40) fl_sc_24 e0 rfl d_sc_commandsBy_28 ?_
    obtain ⟨c7, hf⟩ := sm_gdE hf
    obtain ⟨z8, v9⟩ := sm_isP_at hS c7
    refine sm_getD fl_sc_70 (sm_inner e0 1 rfl rfl rfl) rfl z8 d_sc_commandsBy_31 ?_
    refine sm_nmR (fun p10 w11 => ?_)
    have hf := sm_letV w11 hf
    have v9 := sm_ev w11 v9
    refine sm_getI fl_sc_86 v9 rfl d_sc_commandsBy_34 ?_
    refine sm_icmp_ge 62 d_sc_commandsBy_37 rfl (fun c12 => ?_) (fun c12 => ?_)
    · have hf := sm_ifT c12 hf
      refine sm_sub [0, 1, 2, 3] rfl ?_
      exact w_sc_commandsBy_L62 l lo hi d hS _ _ _ _ _ e0 e2 hf
    · have hf := sm_ifF c12 hf
      refine sm_iload_n 3 rfl d_sc_commandsBy_40 ?_
      refine sm_aload_n 2 rfl d_sc_commandsBy_41 ?_
      refine sm_iload 4 rfl d_sc_commandsBy_42 ?_
      obtain ⟨c13, hf⟩ := sm_gdE hf
      refine sm_iald e2 c13 d_sc_commandsBy_44 ?_
      refine sm_iload_n 1 rfl d_sc_commandsBy_45 ?_
      refine sm_icmp_ne 53 d_sc_commandsBy_46 rfl (fun c14 => ?_) (fun c14 => ?_)
      · have hf := sm_ifF c14 hf
        refine sm_iconst (v := 0) (by decide) d_sc_commandsBy_53 ?_
        refine sm_sub [0, 1, 2, 4] rfl ?_
        exact w_sc_commandsBy_L54 l lo hi d hS ih _ _ _ _ _ _ _ e0 e2 hf
      · have hf := sm_ifT c14 hf
        refine sm_iconst (v := 1) (by decide) d_sc_commandsBy_49 ?_
        refine sm_goto 54 d_sc_commandsBy_50 rfl ?_
        refine sm_sub [0, 1, 2, 4] rfl ?_
        exact w_sc_commandsBy_L54 l lo hi d hS ih _ _ _ _ _ _ _ e0 e2 hf
theorem m_sc_commandsBy (l : Launch) (lo hi d : Nat) (hS : sm_has lo hi) {a0 : Nat} {a1 : Int32} {r0 : Int32} {h h' : sm_H} (e0 : sm_at lo hi (0, 9, 0) a0) (hf : f_sc_commandsBy a0 a1 h = some (r0, h')) : sm_Met l lo hi (d + 6) q_sc_commandsBy [.ref a0, .int a1] h (some (.int r0)) h' := by
  refine sm_Met.of (by decide +kernel) rfl ?_
  show sm_W l lo hi (d + 6) q_sc_commandsBy 0 [(0, .ref a0), (1, .int a1)] [] h (some (.int r0)) h'
  unfold f_sc_commandsBy at hf
  refine sm_iload_n 1 rfl d_sc_commandsBy_0 ?_
  refine sm_if_lt 9 d_sc_commandsBy_1 rfl (fun c1 => ?_) (fun c1 => ?_)
  · have hf := sm_ifT c1 hf
    refine sm_sub [] rfl ?_
    exact w_sc_commandsBy_L9 l lo hi d hS _ hf
  · have hf := sm_ifF c1 hf
    refine sm_iload_n 1 rfl d_sc_commandsBy_4 ?_
    refine sm_iconst (v := 3) (by decide) d_sc_commandsBy_5 ?_
    refine sm_icmp_le 12 d_sc_commandsBy_6 rfl (fun c2 => ?_) (fun c2 => ?_)
    · have hf := sm_ifT c2 hf
      refine sm_aload_n 0 rfl d_sc_commandsBy_12 ?_
      obtain ⟨r3, g4, c5, hf⟩ := sm_b2E hf
      refine sm_callV (As := []) (rv := some (.ref r3)) (h1 := g4) (c := 9) cvv_sc_262 rfl rfl e0 (m_sc_presentCommands l lo hi _ hS e0 c5) rfl rfl d_sc_commandsBy_13 ?_
      obtain ⟨c6, hf⟩ := sm_gdE hf
      refine sm_getR (n := 3) fl_sc_271 (sm_ev (of_decide_eq_true c6) (sm_inner (sm_inner e0 5 rfl rfl rfl) 0 rfl rfl rfl)) rfl d_sc_commandsBy_16 ?_
      refine sm_astore_n (lv' := [(2, .ref (r3 + 3)), (0, .ref a0), (1, .int a1)]) d_sc_commandsBy_19 rfl rfl ?_
      refine sm_iconst (v := 0) (by decide) d_sc_commandsBy_20 ?_
      refine sm_istore_n (lv' := [(3, .int 0), (2, .ref (r3 + 3)), (0, .ref a0), (1, .int a1)]) d_sc_commandsBy_21 rfl rfl ?_
      refine sm_iconst (v := 0) (by decide) d_sc_commandsBy_22 ?_
      refine sm_istore (lv' := [(4, .int 0), (3, .int 0), (2, .ref (r3 + 3)), (0, .ref a0), (1, .int a1)]) d_sc_commandsBy_23 rfl rfl ?_
      refine sm_sub [3, 4, 2, 1, 0] rfl ?_
      exact w_sc_commandsBy_L25 l lo hi d hS sm_N _ _ _ _ _ _ e0 (sm_at_arr (sm_inner (sm_ev (of_decide_eq_true c6) (sm_inner (sm_inner e0 5 rfl rfl rfl) 0 rfl rfl rfl)) 2 rfl rfl rfl)) hf
    · have hf := sm_ifF c2 hf
      refine sm_sub [] rfl ?_
      exact w_sc_commandsBy_L9 l lo hi d hS _ hf
theorem d_lo_kept_0 : decode q_lo_kept.2.1 0 = .ok (.aload_n 0, 1) := by decide +kernel
theorem d_lo_kept_1 : decode q_lo_kept.2.1 1 = .ok (.getfield 19, 3) := by decide +kernel
theorem d_lo_kept_4 : decode q_lo_kept.2.1 4 = .ok (.bipush 50, 2) := by decide +kernel
theorem d_lo_kept_6 : decode q_lo_kept.2.1 6 = .ok (.invokestatic 29, 3) := by decide +kernel
theorem d_lo_kept_9 : decode q_lo_kept.2.1 9 = .ok (.ireturn, 1) := by decide +kernel
theorem m_lo_kept (l : Launch) (lo hi d : Nat) {a0 : Nat} {r0 : Int32} {h h' : sm_H} (e0 : sm_at lo hi (0, 3, 0) a0) (hf : f_lo_kept a0 h = some (r0, h')) : sm_Met l lo hi (d + 1) q_lo_kept [.ref a0] h (some (.int r0)) h' := by
  refine sm_Met.of (by decide +kernel) rfl ?_
  show sm_W l lo hi (d + 1) q_lo_kept 0 [(0, .ref a0)] [] h (some (.int r0)) h'
  unfold f_lo_kept at hf
  refine sm_aload_n 0 rfl d_lo_kept_0 ?_
  refine sm_getI fl_lo_19 e0 rfl d_lo_kept_1 ?_
  refine sm_bipush (v := 50) (by decide) d_lo_kept_4 ?_
  obtain ⟨r1, g2, c3, hf⟩ := sm_b2E hf
  refine sm_callS (As := [.int (h a0 0), .int 50]) (rv := some (.int r1)) (h1 := g2) cvs_lo_29 (m_jm_min l lo hi _ c3) rfl rfl d_lo_kept_6 ?_
  obtain ⟨rfl, rfl⟩ := sm_ret2 hf
  exact sm_iret d_lo_kept_9 rfl
theorem d_sc_events_0 : decode q_sc_events.2.1 0 = .ok (.aload_n 0, 1) := by decide +kernel
theorem d_sc_events_1 : decode q_sc_events.2.1 1 = .ok (.getfield 24, 3) := by decide +kernel
theorem d_sc_events_4 : decode q_sc_events.2.1 4 = .ok (.getfield 157, 3) := by decide +kernel
theorem d_sc_events_7 : decode q_sc_events.2.1 7 = .ok (.invokevirtual 291, 3) := by decide +kernel
theorem d_sc_events_10 : decode q_sc_events.2.1 10 = .ok (.ireturn, 1) := by decide +kernel
theorem m_sc_events (l : Launch) (lo hi d : Nat) {a0 : Nat} {r0 : Int32} {h h' : sm_H} (e0 : sm_at lo hi (0, 9, 0) a0) (hf : f_sc_events a0 h = some (r0, h')) : sm_Met l lo hi (d + 2) q_sc_events [.ref a0] h (some (.int r0)) h' := by
  refine sm_Met.of (by decide +kernel) rfl ?_
  show sm_W l lo hi (d + 2) q_sc_events 0 [(0, .ref a0)] [] h (some (.int r0)) h'
  unfold f_sc_events at hf
  refine sm_aload_n 0 rfl d_sc_events_0 ?_
  refine sm_getR (n := 40) fl_sc_24 e0 rfl d_sc_events_1 ?_
  refine sm_getR (n := 9) fl_sc_157 (sm_inner e0 1 rfl rfl rfl) rfl d_sc_events_4 ?_
  obtain ⟨r1, g2, c3, hf⟩ := sm_b2E hf
  refine sm_callV (As := []) (rv := some (.int r1)) (h1 := g2) (c := 3) cvv_sc_291 rfl rfl (sm_inner (sm_inner e0 1 rfl rfl rfl) 17 rfl rfl rfl) (m_lo_kept l lo hi _ (sm_inner (sm_inner e0 1 rfl rfl rfl) 17 rfl rfl rfl) c3) rfl rfl d_sc_events_7 ?_
  obtain ⟨rfl, rfl⟩ := sm_ret2 hf
  exact sm_iret d_sc_events_10 rfl
theorem d_lo_place_0 : decode q_lo_place.2.1 0 = .ok (.aload_n 0, 1) := by decide +kernel
theorem d_lo_place_1 : decode q_lo_place.2.1 1 = .ok (.getfield 19, 3) := by decide +kernel
theorem d_lo_place_4 : decode q_lo_place.2.1 4 = .ok (.iconst 1, 1) := by decide +kernel
theorem d_lo_place_5 : decode q_lo_place.2.1 5 = .ok (.isub, 1) := by decide +kernel
theorem d_lo_place_6 : decode q_lo_place.2.1 6 = .ok (.iload_n 1, 1) := by decide +kernel
theorem d_lo_place_7 : decode q_lo_place.2.1 7 = .ok (.isub, 1) := by decide +kernel
theorem d_lo_place_8 : decode q_lo_place.2.1 8 = .ok (.bipush 50, 2) := by decide +kernel
theorem d_lo_place_10 : decode q_lo_place.2.1 10 = .ok (.invokestatic 23, 3) := by decide +kernel
theorem d_lo_place_13 : decode q_lo_place.2.1 13 = .ok (.ireturn, 1) := by decide +kernel
theorem m_lo_place (l : Launch) (lo hi d : Nat) {a0 : Nat} {a1 : Int32} {r0 : Int32} {h h' : sm_H} (e0 : sm_at lo hi (0, 3, 0) a0) (hf : f_lo_place a0 a1 h = some (r0, h')) : sm_Met l lo hi (d + 1) q_lo_place [.ref a0, .int a1] h (some (.int r0)) h' := by
  refine sm_Met.of (by decide +kernel) rfl ?_
  show sm_W l lo hi (d + 1) q_lo_place 0 [(0, .ref a0), (1, .int a1)] [] h (some (.int r0)) h'
  unfold f_lo_place at hf
  refine sm_aload_n 0 rfl d_lo_place_0 ?_
  refine sm_getI fl_lo_19 e0 rfl d_lo_place_1 ?_
  refine sm_iconst (v := 1) (by decide) d_lo_place_4 ?_
  refine sm_isub d_lo_place_5 ?_
  refine sm_iload_n 1 rfl d_lo_place_6 ?_
  refine sm_isub d_lo_place_7 ?_
  refine sm_bipush (v := 50) (by decide) d_lo_place_8 ?_
  obtain ⟨r1, g2, c3, hf⟩ := sm_b2E hf
  refine sm_callS (As := [.int (((h a0 0) - 1) - a1), .int 50]) (rv := some (.int r1)) (h1 := g2) cvs_lo_23 (m_jm_floorMod l lo hi _ c3) rfl rfl d_lo_place_10 ?_
  obtain ⟨rfl, rfl⟩ := sm_ret2 hf
  exact sm_iret d_lo_place_13 rfl
theorem d_sc_event_0 : decode q_sc_event.2.1 0 = .ok (.iload_n 1, 1) := by decide +kernel
theorem d_sc_event_1 : decode q_sc_event.2.1 1 = .ok (.ifCond .lt 17, 3) := by decide +kernel
theorem d_sc_event_4 : decode q_sc_event.2.1 4 = .ok (.iload_n 1, 1) := by decide +kernel
theorem d_sc_event_5 : decode q_sc_event.2.1 5 = .ok (.aload_n 0, 1) := by decide +kernel
theorem d_sc_event_6 : decode q_sc_event.2.1 6 = .ok (.getfield 24, 3) := by decide +kernel
theorem d_sc_event_9 : decode q_sc_event.2.1 9 = .ok (.getfield 157, 3) := by decide +kernel
theorem d_sc_event_12 : decode q_sc_event.2.1 12 = .ok (.invokevirtual 291, 3) := by decide +kernel
theorem d_sc_event_15 : decode q_sc_event.2.1 15 = .ok (.if_icmp .lt 5, 3) := by decide +kernel
theorem d_sc_event_18 : decode q_sc_event.2.1 18 = .ok (.iconst (-1), 1) := by decide +kernel
theorem d_sc_event_19 : decode q_sc_event.2.1 19 = .ok (.ireturn, 1) := by decide +kernel
theorem d_sc_event_20 : decode q_sc_event.2.1 20 = .ok (.aload_n 0, 1) := by decide +kernel
theorem d_sc_event_21 : decode q_sc_event.2.1 21 = .ok (.getfield 24, 3) := by decide +kernel
theorem d_sc_event_24 : decode q_sc_event.2.1 24 = .ok (.getfield 157, 3) := by decide +kernel
theorem d_sc_event_27 : decode q_sc_event.2.1 27 = .ok (.iload_n 1, 1) := by decide +kernel
theorem d_sc_event_28 : decode q_sc_event.2.1 28 = .ok (.invokevirtual 294, 3) := by decide +kernel
theorem d_sc_event_31 : decode q_sc_event.2.1 31 = .ok (.istore_n 3, 1) := by decide +kernel
theorem d_sc_event_32 : decode q_sc_event.2.1 32 = .ok (.iload_n 2, 1) := by decide +kernel
theorem d_sc_event_33 : decode q_sc_event.2.1 33 = .ok (.tableswitch 66 0 2 #[27, 40, 53], 27) := by decide +kernel
theorem d_sc_event_60 : decode q_sc_event.2.1 60 = .ok (.aload_n 0, 1) := by decide +kernel
theorem d_sc_event_61 : decode q_sc_event.2.1 61 = .ok (.getfield 24, 3) := by decide +kernel
theorem d_sc_event_64 : decode q_sc_event.2.1 64 = .ok (.getfield 157, 3) := by decide +kernel
theorem d_sc_event_67 : decode q_sc_event.2.1 67 = .ok (.getfield 297, 3) := by decide +kernel
theorem d_sc_event_70 : decode q_sc_event.2.1 70 = .ok (.iload_n 3, 1) := by decide +kernel
theorem d_sc_event_71 : decode q_sc_event.2.1 71 = .ok (.iaload, 1) := by decide +kernel
theorem d_sc_event_72 : decode q_sc_event.2.1 72 = .ok (.ireturn, 1) := by decide +kernel
theorem d_sc_event_73 : decode q_sc_event.2.1 73 = .ok (.aload_n 0, 1) := by decide +kernel
theorem d_sc_event_74 : decode q_sc_event.2.1 74 = .ok (.getfield 24, 3) := by decide +kernel
theorem d_sc_event_77 : decode q_sc_event.2.1 77 = .ok (.getfield 157, 3) := by decide +kernel
theorem d_sc_event_80 : decode q_sc_event.2.1 80 = .ok (.getfield 299, 3) := by decide +kernel
theorem d_sc_event_83 : decode q_sc_event.2.1 83 = .ok (.iload_n 3, 1) := by decide +kernel
theorem d_sc_event_84 : decode q_sc_event.2.1 84 = .ok (.iaload, 1) := by decide +kernel
theorem d_sc_event_85 : decode q_sc_event.2.1 85 = .ok (.ireturn, 1) := by decide +kernel
theorem d_sc_event_86 : decode q_sc_event.2.1 86 = .ok (.aload_n 0, 1) := by decide +kernel
theorem d_sc_event_87 : decode q_sc_event.2.1 87 = .ok (.getfield 24, 3) := by decide +kernel
theorem d_sc_event_90 : decode q_sc_event.2.1 90 = .ok (.getfield 157, 3) := by decide +kernel
theorem d_sc_event_93 : decode q_sc_event.2.1 93 = .ok (.getfield 302, 3) := by decide +kernel
theorem d_sc_event_96 : decode q_sc_event.2.1 96 = .ok (.iload_n 3, 1) := by decide +kernel
theorem d_sc_event_97 : decode q_sc_event.2.1 97 = .ok (.iaload, 1) := by decide +kernel
theorem d_sc_event_98 : decode q_sc_event.2.1 98 = .ok (.ireturn, 1) := by decide +kernel
theorem d_sc_event_99 : decode q_sc_event.2.1 99 = .ok (.bipush (-2), 2) := by decide +kernel
theorem d_sc_event_101 : decode q_sc_event.2.1 101 = .ok (.ireturn, 1) := by decide +kernel
theorem m_sc_event (l : Launch) (lo hi d : Nat) {a0 : Nat} {a1 : Int32} {a2 : Int32} {r0 : Int32} {h h' : sm_H} (e0 : sm_at lo hi (0, 9, 0) a0) (hf : f_sc_event a0 a1 a2 h = some (r0, h')) : sm_Met l lo hi (d + 2) q_sc_event [.ref a0, .int a1, .int a2] h (some (.int r0)) h' := by
  refine sm_Met.of (by decide +kernel) rfl ?_
  show sm_W l lo hi (d + 2) q_sc_event 0 [(0, .ref a0), (1, .int a1), (2, .int a2)] [] h (some (.int r0)) h'
  unfold f_sc_event at hf
  refine sm_iload_n 1 rfl d_sc_event_0 ?_
  refine sm_if_lt 18 d_sc_event_1 rfl (fun c1 => ?_) (fun c1 => ?_)
  · have hf := sm_ifT c1 hf
    refine sm_iconst (v := (-1)) (by decide) d_sc_event_18 ?_
    obtain ⟨rfl, rfl⟩ := sm_ret2 hf
    exact sm_iret d_sc_event_19 rfl
  · have hf := sm_ifF c1 hf
    refine sm_iload_n 1 rfl d_sc_event_4 ?_
    refine sm_aload_n 0 rfl d_sc_event_5 ?_
    refine sm_getR (n := 40) fl_sc_24 e0 rfl d_sc_event_6 ?_
    refine sm_getR (n := 9) fl_sc_157 (sm_inner e0 1 rfl rfl rfl) rfl d_sc_event_9 ?_
    obtain ⟨r2, g3, c4, hf⟩ := sm_b2E hf
    refine sm_callV (As := []) (rv := some (.int r2)) (h1 := g3) (c := 3) cvv_sc_291 rfl rfl (sm_inner (sm_inner e0 1 rfl rfl rfl) 17 rfl rfl rfl) (m_lo_kept l lo hi _ (sm_inner (sm_inner e0 1 rfl rfl rfl) 17 rfl rfl rfl) c4) rfl rfl d_sc_event_12 ?_
    refine sm_icmp_lt 20 d_sc_event_15 rfl (fun c5 => ?_) (fun c5 => ?_)
    · have hf := sm_ifT c5 hf
      refine sm_aload_n 0 rfl d_sc_event_20 ?_
      refine sm_getR (n := 40) fl_sc_24 e0 rfl d_sc_event_21 ?_
      refine sm_getR (n := 9) fl_sc_157 (sm_inner e0 1 rfl rfl rfl) rfl d_sc_event_24 ?_
      refine sm_iload_n 1 rfl d_sc_event_27 ?_
      obtain ⟨r6, g7, c8, hf⟩ := sm_b2E hf
      refine sm_callV (As := [.int a1]) (rv := some (.int r6)) (h1 := g7) (c := 3) cvv_sc_294 rfl rfl (sm_inner (sm_inner e0 1 rfl rfl rfl) 17 rfl rfl rfl) (m_lo_place l lo hi _ (sm_inner (sm_inner e0 1 rfl rfl rfl) 17 rfl rfl rfl) c8) rfl rfl d_sc_event_28 ?_
      refine sm_istore_n (lv' := [(3, .int r6), (0, .ref a0), (1, .int a1), (2, .int a2)]) d_sc_event_31 rfl rfl ?_
      refine sm_iload_n 3 rfl d_sc_event_32 ?_
      by_cases c9 : a2 = 0
      · have hf := sm_ifT c9 hf
        refine sm_tableIn 60 d_sc_event_33 (by rw [c9]; decide) (by rw [c9]; decide) (by rw [c9]; rfl) rfl ?_
        refine sm_aload_n 1 rfl d_sc_event_60 ?_
        refine sm_getR (n := 40) fl_sc_24 e0 rfl d_sc_event_61 ?_
        refine sm_getR (n := 9) fl_sc_157 (sm_inner e0 1 rfl rfl rfl) rfl d_sc_event_64 ?_
        refine sm_getR (n := 1) fl_sc_297 (sm_inner (sm_inner e0 1 rfl rfl rfl) 17 rfl rfl rfl) rfl d_sc_event_67 ?_
        refine sm_iload_n 0 rfl d_sc_event_70 ?_
        obtain ⟨c10, hf⟩ := sm_gdE hf
        refine sm_iald (sm_at_arr (sm_inner (sm_inner (sm_inner e0 1 rfl rfl rfl) 17 rfl rfl rfl) 1 rfl rfl rfl)) c10 d_sc_event_71 ?_
        obtain ⟨rfl, rfl⟩ := sm_ret2 hf
        exact sm_iret d_sc_event_72 rfl
      have hf := sm_ifF c9 hf
      by_cases c11 : a2 = 1
      · have hf := sm_ifT c11 hf
        refine sm_tableIn 73 d_sc_event_33 (by rw [c11]; decide) (by rw [c11]; decide) (by rw [c11]; rfl) rfl ?_
        refine sm_aload_n 1 rfl d_sc_event_73 ?_
        refine sm_getR (n := 40) fl_sc_24 e0 rfl d_sc_event_74 ?_
        refine sm_getR (n := 9) fl_sc_157 (sm_inner e0 1 rfl rfl rfl) rfl d_sc_event_77 ?_
        refine sm_getR (n := 2) fl_sc_299 (sm_inner (sm_inner e0 1 rfl rfl rfl) 17 rfl rfl rfl) rfl d_sc_event_80 ?_
        refine sm_iload_n 0 rfl d_sc_event_83 ?_
        obtain ⟨c12, hf⟩ := sm_gdE hf
        refine sm_iald (sm_at_arr (sm_inner (sm_inner (sm_inner e0 1 rfl rfl rfl) 17 rfl rfl rfl) 2 rfl rfl rfl)) c12 d_sc_event_84 ?_
        obtain ⟨rfl, rfl⟩ := sm_ret2 hf
        exact sm_iret d_sc_event_85 rfl
      have hf := sm_ifF c11 hf
      by_cases c13 : a2 = 2
      · have hf := sm_ifT c13 hf
        refine sm_tableIn 86 d_sc_event_33 (by rw [c13]; decide) (by rw [c13]; decide) (by rw [c13]; rfl) rfl ?_
        refine sm_aload_n 1 rfl d_sc_event_86 ?_
        refine sm_getR (n := 40) fl_sc_24 e0 rfl d_sc_event_87 ?_
        refine sm_getR (n := 9) fl_sc_157 (sm_inner e0 1 rfl rfl rfl) rfl d_sc_event_90 ?_
        refine sm_getR (n := 3) fl_sc_302 (sm_inner (sm_inner e0 1 rfl rfl rfl) 17 rfl rfl rfl) rfl d_sc_event_93 ?_
        refine sm_iload_n 0 rfl d_sc_event_96 ?_
        obtain ⟨c14, hf⟩ := sm_gdE hf
        refine sm_iald (sm_at_arr (sm_inner (sm_inner (sm_inner e0 1 rfl rfl rfl) 17 rfl rfl rfl) 3 rfl rfl rfl)) c14 d_sc_event_97 ?_
        obtain ⟨rfl, rfl⟩ := sm_ret2 hf
        exact sm_iret d_sc_event_98 rfl
      have hf := sm_ifF c13 hf
      refine sm_tableOut 99 d_sc_event_33 (sm_swOut 0 3 (by decide) (by decide) (fun j hj => by match j, hj with | 0, _ => exact c9 | 1, _ => exact c11 | 2, _ => exact c13 | j + 3, hj => exact absurd hj (by omega))) rfl ?_
      refine sm_bipush (v := (-2)) (by decide) d_sc_event_99 ?_
      obtain ⟨rfl, rfl⟩ := sm_ret2 hf
      exact sm_iret d_sc_event_101 rfl
    · have hf := sm_ifF c5 hf
      refine sm_iconst (v := (-1)) (by decide) d_sc_event_18 ?_
      obtain ⟨rfl, rfl⟩ := sm_ret2 hf
      exact sm_iret d_sc_event_19 rfl
theorem d_sc_isNoTrial_0 : decode q_sc_isNoTrial.2.1 0 = .ok (.iload_n 0, 1) := by decide +kernel
theorem d_sc_isNoTrial_1 : decode q_sc_isNoTrial.2.1 1 = .ok (.ifCond .lt 10, 3) := by decide +kernel
theorem d_sc_isNoTrial_4 : decode q_sc_isNoTrial.2.1 4 = .ok (.iload_n 0, 1) := by decide +kernel
theorem d_sc_isNoTrial_5 : decode q_sc_isNoTrial.2.1 5 = .ok (.sipush 200, 3) := by decide +kernel
theorem d_sc_isNoTrial_8 : decode q_sc_isNoTrial.2.1 8 = .ok (.if_icmp .le 7, 3) := by decide +kernel
theorem d_sc_isNoTrial_11 : decode q_sc_isNoTrial.2.1 11 = .ok (.iconst 1, 1) := by decide +kernel
theorem d_sc_isNoTrial_12 : decode q_sc_isNoTrial.2.1 12 = .ok (.goto 4, 3) := by decide +kernel
theorem d_sc_isNoTrial_15 : decode q_sc_isNoTrial.2.1 15 = .ok (.iconst 0, 1) := by decide +kernel
theorem d_sc_isNoTrial_16 : decode q_sc_isNoTrial.2.1 16 = .ok (.ireturn, 1) := by decide +kernel
theorem w_sc_isNoTrial_L16 (l : Launch) (lo hi d : Nat) {h' : sm_H} {r0 : Int32} (s0 : Int32) (h : sm_H) (hf : f_sc_isNoTrial_L16 s0 h = some (r0, h')) : sm_W l lo hi (d) q_sc_isNoTrial 16 [] [.int s0] h (some (.int r0)) h' := by
  unfold f_sc_isNoTrial_L16 at hf
  obtain ⟨c3, hf⟩ := sm_gdE hf
  obtain ⟨rfl, rfl⟩ := sm_ret2 hf
  exact sm_bret c3 d_sc_isNoTrial_16 rfl
theorem w_sc_isNoTrial_L11 (l : Launch) (lo hi d : Nat) {h' : sm_H} {r0 : Int32} (h : sm_H) (hf : f_sc_isNoTrial_L11 h = some (r0, h')) : sm_W l lo hi (d) q_sc_isNoTrial 11 [] [] h (some (.int r0)) h' := by
  unfold f_sc_isNoTrial_L11 at hf
  refine sm_iconst (v := 1) (by decide) d_sc_isNoTrial_11 ?_
  refine sm_goto 16 d_sc_isNoTrial_12 rfl ?_
  exact w_sc_isNoTrial_L16 l lo hi d _ _ hf
theorem m_sc_isNoTrial (l : Launch) (lo hi d : Nat) {a0 : Int32} {r0 : Int32} {h h' : sm_H} (hf : f_sc_isNoTrial a0 h = some (r0, h')) : sm_Met l lo hi (d) q_sc_isNoTrial [.int a0] h (some (.int r0)) h' := by
  refine sm_Met.of (by decide +kernel) rfl ?_
  show sm_W l lo hi (d) q_sc_isNoTrial 0 [(0, .int a0)] [] h (some (.int r0)) h'
  unfold f_sc_isNoTrial at hf
  refine sm_iload_n 0 rfl d_sc_isNoTrial_0 ?_
  refine sm_if_lt 11 d_sc_isNoTrial_1 rfl (fun c1 => ?_) (fun c1 => ?_)
  · have hf := sm_ifT c1 hf
    refine sm_sub [] rfl ?_
    exact w_sc_isNoTrial_L11 l lo hi d _ hf
  · have hf := sm_ifF c1 hf
    refine sm_iload_n 0 rfl d_sc_isNoTrial_4 ?_
    refine sm_sipush (v := 200) (by decide) d_sc_isNoTrial_5 ?_
    refine sm_icmp_le 15 d_sc_isNoTrial_8 rfl (fun c2 => ?_) (fun c2 => ?_)
    · have hf := sm_ifT c2 hf
      refine sm_iconst (v := 0) (by decide) d_sc_isNoTrial_15 ?_
      refine sm_sub [] rfl ?_
      exact w_sc_isNoTrial_L16 l lo hi d _ _ hf
    · have hf := sm_ifF c2 hf
      refine sm_sub [] rfl ?_
      exact w_sc_isNoTrial_L11 l lo hi d _ hf
theorem d_sc_copyRow_0 : decode q_sc_copyRow.2.1 0 = .ok (.aload_n 0, 1) := by decide +kernel
theorem d_sc_copyRow_1 : decode q_sc_copyRow.2.1 1 = .ok (.iconst 0, 1) := by decide +kernel
theorem d_sc_copyRow_2 : decode q_sc_copyRow.2.1 2 = .ok (.aload_n 1, 1) := by decide +kernel
theorem d_sc_copyRow_3 : decode q_sc_copyRow.2.1 3 = .ok (.iconst 0, 1) := by decide +kernel
theorem d_sc_copyRow_4 : decode q_sc_copyRow.2.1 4 = .ok (.aload_n 0, 1) := by decide +kernel
theorem d_sc_copyRow_5 : decode q_sc_copyRow.2.1 5 = .ok (.arraylength, 1) := by decide +kernel
theorem d_sc_copyRow_6 : decode q_sc_copyRow.2.1 6 = .ok (.aload_n 1, 1) := by decide +kernel
theorem d_sc_copyRow_7 : decode q_sc_copyRow.2.1 7 = .ok (.arraylength, 1) := by decide +kernel
theorem d_sc_copyRow_8 : decode q_sc_copyRow.2.1 8 = .ok (.invokestatic 336, 3) := by decide +kernel
theorem d_sc_copyRow_11 : decode q_sc_copyRow.2.1 11 = .ok (.invokestatic 341, 3) := by decide +kernel
theorem d_sc_copyRow_14 : decode q_sc_copyRow.2.1 14 = .ok (.return_, 1) := by decide +kernel
theorem m_sc_copyRow (l : Launch) (lo hi d : Nat) {a0 : Nat} {a1 : Nat} {h h' : sm_H} (e0 : sm_arr lo hi 0 (sm_len a0) a0) (e1 : sm_arr lo hi 0 (sm_len a1) a1) (hf : f_sc_copyRow a0 a1 h = some h') : sm_Met l lo hi (d + 1) q_sc_copyRow [.ref a0, .ref a1] h none h' := by
  refine sm_Met.of (by decide +kernel) rfl ?_
  show sm_W l lo hi (d + 1) q_sc_copyRow 0 [(0, .ref a0), (1, .ref a1)] [] h none h'
  unfold f_sc_copyRow at hf
  refine sm_aload_n 0 rfl d_sc_copyRow_0 ?_
  refine sm_iconst (v := 0) (by decide) d_sc_copyRow_1 ?_
  refine sm_aload_n 1 rfl d_sc_copyRow_2 ?_
  refine sm_iconst (v := 0) (by decide) d_sc_copyRow_3 ?_
  refine sm_aload_n 0 rfl d_sc_copyRow_4 ?_
  refine sm_alen e0 rfl d_sc_copyRow_5 ?_
  refine sm_aload_n 1 rfl d_sc_copyRow_6 ?_
  refine sm_alen e1 rfl d_sc_copyRow_7 ?_
  obtain ⟨r1, g2, c3, hf⟩ := sm_b2E hf
  refine sm_callS (As := [.int (nI (sm_len a0)), .int (nI (sm_len a1))]) (rv := some (.int r1)) (h1 := g2) cvs_sc_336 (m_jm_min l lo hi _ c3) rfl rfl d_sc_copyRow_8 ?_
  obtain ⟨c4, hf⟩ := sm_gdE hf
  refine sm_acopy cvy_sc_341 e0 e1 c4 rfl d_sc_copyRow_11 ?_
  refine sm_nmH (fun g5 w6 => ?_)
  have hf := sm_letV w6 hf
  obtain rfl := sm_ret1 hf
  exact sm_vret d_sc_copyRow_14 rfl
theorem d_al_copyFrom_0 : decode q_al_copyFrom.2.1 0 = .ok (.aload_n 0, 1) := by decide +kernel
theorem d_al_copyFrom_1 : decode q_al_copyFrom.2.1 1 = .ok (.aload_n 1, 1) := by decide +kernel
theorem d_al_copyFrom_2 : decode q_al_copyFrom.2.1 2 = .ok (.getfield 9, 3) := by decide +kernel
theorem d_al_copyFrom_5 : decode q_al_copyFrom.2.1 5 = .ok (.putfield 9, 3) := by decide +kernel
theorem d_al_copyFrom_8 : decode q_al_copyFrom.2.1 8 = .ok (.aload_n 0, 1) := by decide +kernel
theorem d_al_copyFrom_9 : decode q_al_copyFrom.2.1 9 = .ok (.aload_n 1, 1) := by decide +kernel
theorem d_al_copyFrom_10 : decode q_al_copyFrom.2.1 10 = .ok (.getfield 15, 3) := by decide +kernel
theorem d_al_copyFrom_13 : decode q_al_copyFrom.2.1 13 = .ok (.putfield 15, 3) := by decide +kernel
theorem d_al_copyFrom_16 : decode q_al_copyFrom.2.1 16 = .ok (.aload_n 0, 1) := by decide +kernel
theorem d_al_copyFrom_17 : decode q_al_copyFrom.2.1 17 = .ok (.aload_n 1, 1) := by decide +kernel
theorem d_al_copyFrom_18 : decode q_al_copyFrom.2.1 18 = .ok (.getfield 18, 3) := by decide +kernel
theorem d_al_copyFrom_21 : decode q_al_copyFrom.2.1 21 = .ok (.putfield 18, 3) := by decide +kernel
theorem d_al_copyFrom_24 : decode q_al_copyFrom.2.1 24 = .ok (.aload_n 0, 1) := by decide +kernel
theorem d_al_copyFrom_25 : decode q_al_copyFrom.2.1 25 = .ok (.aload_n 1, 1) := by decide +kernel
theorem d_al_copyFrom_26 : decode q_al_copyFrom.2.1 26 = .ok (.getfield 21, 3) := by decide +kernel
theorem d_al_copyFrom_29 : decode q_al_copyFrom.2.1 29 = .ok (.putfield 21, 3) := by decide +kernel
theorem d_al_copyFrom_32 : decode q_al_copyFrom.2.1 32 = .ok (.return_, 1) := by decide +kernel
theorem m_al_copyFrom (l : Launch) (lo hi d : Nat) {a0 : Nat} {a1 : Nat} {h h' : sm_H} (e0 : sm_at lo hi (0, 0, 0) a0) (e1 : sm_at lo hi (0, 0, 0) a1) (hf : f_al_copyFrom a0 a1 h = some h') : sm_Met l lo hi (d) q_al_copyFrom [.ref a0, .ref a1] h none h' := by
  refine sm_Met.of (by decide +kernel) rfl ?_
  show sm_W l lo hi (d) q_al_copyFrom 0 [(0, .ref a0), (1, .ref a1)] [] h none h'
  unfold f_al_copyFrom at hf
  refine sm_aload_n 0 rfl d_al_copyFrom_0 ?_
  refine sm_aload_n 1 rfl d_al_copyFrom_1 ?_
  refine sm_getI fl_al_9 e1 rfl d_al_copyFrom_2 ?_
  refine sm_putI fp_al_9 e0 rfl rfl d_al_copyFrom_5 ?_
  refine sm_nmH (fun g1 w2 => ?_)
  have hf := sm_letV w2 hf
  refine sm_aload_n 0 rfl d_al_copyFrom_8 ?_
  refine sm_aload_n 1 rfl d_al_copyFrom_9 ?_
  refine sm_getI fl_al_15 e1 rfl d_al_copyFrom_10 ?_
  refine sm_putI fp_al_15 e0 rfl rfl d_al_copyFrom_13 ?_
  refine sm_nmH (fun g3 w4 => ?_)
  have hf := sm_letV w4 hf
  refine sm_aload_n 0 rfl d_al_copyFrom_16 ?_
  refine sm_aload_n 1 rfl d_al_copyFrom_17 ?_
  refine sm_getI fl_al_18 e1 rfl d_al_copyFrom_18 ?_
  refine sm_putI fp_al_18 e0 rfl rfl d_al_copyFrom_21 ?_
  refine sm_nmH (fun g5 w6 => ?_)
  have hf := sm_letV w6 hf
  refine sm_aload_n 0 rfl d_al_copyFrom_24 ?_
  refine sm_aload_n 1 rfl d_al_copyFrom_25 ?_
  refine sm_getI fl_al_21 e1 rfl d_al_copyFrom_26 ?_
  refine sm_putI fp_al_21 e0 rfl rfl d_al_copyFrom_29 ?_
  refine sm_nmH (fun g7 w8 => ?_)
  have hf := sm_letV w8 hf
  obtain rfl := sm_ret1 hf
  exact sm_vret d_al_copyFrom_32 rfl
theorem d_lo_copyFrom_0 : decode q_lo_copyFrom.2.1 0 = .ok (.aload_n 0, 1) := by decide +kernel
theorem d_lo_copyFrom_1 : decode q_lo_copyFrom.2.1 1 = .ok (.aload_n 1, 1) := by decide +kernel
theorem d_lo_copyFrom_2 : decode q_lo_copyFrom.2.1 2 = .ok (.getfield 19, 3) := by decide +kernel
theorem d_lo_copyFrom_5 : decode q_lo_copyFrom.2.1 5 = .ok (.putfield 19, 3) := by decide +kernel
theorem d_lo_copyFrom_8 : decode q_lo_copyFrom.2.1 8 = .ok (.aload_n 1, 1) := by decide +kernel
theorem d_lo_copyFrom_9 : decode q_lo_copyFrom.2.1 9 = .ok (.getfield 9, 3) := by decide +kernel
theorem d_lo_copyFrom_12 : decode q_lo_copyFrom.2.1 12 = .ok (.aload_n 0, 1) := by decide +kernel
theorem d_lo_copyFrom_13 : decode q_lo_copyFrom.2.1 13 = .ok (.getfield 9, 3) := by decide +kernel
theorem d_lo_copyFrom_16 : decode q_lo_copyFrom.2.1 16 = .ok (.invokestatic 32, 3) := by decide +kernel
theorem d_lo_copyFrom_19 : decode q_lo_copyFrom.2.1 19 = .ok (.aload_n 1, 1) := by decide +kernel
theorem d_lo_copyFrom_20 : decode q_lo_copyFrom.2.1 20 = .ok (.getfield 13, 3) := by decide +kernel
theorem d_lo_copyFrom_23 : decode q_lo_copyFrom.2.1 23 = .ok (.aload_n 0, 1) := by decide +kernel
theorem d_lo_copyFrom_24 : decode q_lo_copyFrom.2.1 24 = .ok (.getfield 13, 3) := by decide +kernel
theorem d_lo_copyFrom_27 : decode q_lo_copyFrom.2.1 27 = .ok (.invokestatic 32, 3) := by decide +kernel
theorem d_lo_copyFrom_30 : decode q_lo_copyFrom.2.1 30 = .ok (.aload_n 1, 1) := by decide +kernel
theorem d_lo_copyFrom_31 : decode q_lo_copyFrom.2.1 31 = .ok (.getfield 16, 3) := by decide +kernel
theorem d_lo_copyFrom_34 : decode q_lo_copyFrom.2.1 34 = .ok (.aload_n 0, 1) := by decide +kernel
theorem d_lo_copyFrom_35 : decode q_lo_copyFrom.2.1 35 = .ok (.getfield 16, 3) := by decide +kernel
theorem d_lo_copyFrom_38 : decode q_lo_copyFrom.2.1 38 = .ok (.invokestatic 32, 3) := by decide +kernel
theorem d_lo_copyFrom_41 : decode q_lo_copyFrom.2.1 41 = .ok (.return_, 1) := by decide +kernel
theorem m_lo_copyFrom (l : Launch) (lo hi d : Nat) {a0 : Nat} {a1 : Nat} {h h' : sm_H} (e0 : sm_at lo hi (0, 3, 0) a0) (e1 : sm_at lo hi (0, 3, 0) a1) (hf : f_lo_copyFrom a0 a1 h = some h') : sm_Met l lo hi (d + 2) q_lo_copyFrom [.ref a0, .ref a1] h none h' := by
  refine sm_Met.of (by decide +kernel) rfl ?_
  show sm_W l lo hi (d + 2) q_lo_copyFrom 0 [(0, .ref a0), (1, .ref a1)] [] h none h'
  unfold f_lo_copyFrom at hf
  refine sm_aload_n 0 rfl d_lo_copyFrom_0 ?_
  refine sm_aload_n 1 rfl d_lo_copyFrom_1 ?_
  refine sm_getI fl_lo_19 e1 rfl d_lo_copyFrom_2 ?_
  refine sm_putI fp_lo_19 e0 rfl rfl d_lo_copyFrom_5 ?_
  refine sm_nmH (fun g1 w2 => ?_)
  have hf := sm_letV w2 hf
  refine sm_aload_n 1 rfl d_lo_copyFrom_8 ?_
  refine sm_getR (n := 1) fl_lo_9 e1 rfl d_lo_copyFrom_9 ?_
  refine sm_aload_n 0 rfl d_lo_copyFrom_12 ?_
  refine sm_getR (n := 1) fl_lo_9 e0 rfl d_lo_copyFrom_13 ?_
  obtain ⟨g3, c4, hf⟩ := sm_bindE hf
  refine sm_callN (As := [.ref (a1 + 1), .ref (a0 + 1)]) (rv := none) (h1 := g3) cvn_lo_32 (m_sc_copyRow l lo hi _ (sm_arr_self (sm_at_arr (sm_inner e1 1 rfl rfl rfl))) (sm_arr_self (sm_at_arr (sm_inner e0 1 rfl rfl rfl))) c4) rfl rfl d_lo_copyFrom_16 ?_
  refine sm_aload_n 1 rfl d_lo_copyFrom_19 ?_
  refine sm_getR (n := 2) fl_lo_13 e1 rfl d_lo_copyFrom_20 ?_
  refine sm_aload_n 0 rfl d_lo_copyFrom_23 ?_
  refine sm_getR (n := 2) fl_lo_13 e0 rfl d_lo_copyFrom_24 ?_
  obtain ⟨g5, c6, hf⟩ := sm_bindE hf
  refine sm_callN (As := [.ref (a1 + 2), .ref (a0 + 2)]) (rv := none) (h1 := g5) cvn_lo_32 (m_sc_copyRow l lo hi _ (sm_arr_self (sm_at_arr (sm_inner e1 2 rfl rfl rfl))) (sm_arr_self (sm_at_arr (sm_inner e0 2 rfl rfl rfl))) c6) rfl rfl d_lo_copyFrom_27 ?_
  refine sm_aload_n 1 rfl d_lo_copyFrom_30 ?_
  refine sm_getR (n := 3) fl_lo_16 e1 rfl d_lo_copyFrom_31 ?_
  refine sm_aload_n 0 rfl d_lo_copyFrom_34 ?_
  refine sm_getR (n := 3) fl_lo_16 e0 rfl d_lo_copyFrom_35 ?_
  obtain ⟨g7, c8, hf⟩ := sm_bindE hf
  refine sm_callN (As := [.ref (a1 + 3), .ref (a0 + 3)]) (rv := none) (h1 := g7) cvn_lo_32 (m_sc_copyRow l lo hi _ (sm_arr_self (sm_at_arr (sm_inner e1 3 rfl rfl rfl))) (sm_arr_self (sm_at_arr (sm_inner e0 3 rfl rfl rfl))) c8) rfl rfl d_lo_copyFrom_38 ?_
  obtain rfl := sm_ret1 hf
  exact sm_vret d_lo_copyFrom_41 rfl
theorem d_st_copyFrom_0 : decode q_st_copyFrom.2.1 0 = .ok (.aload_n 0, 1) := by decide +kernel
theorem d_st_copyFrom_1 : decode q_st_copyFrom.2.1 1 = .ok (.aload_n 1, 1) := by decide +kernel
theorem d_st_copyFrom_2 : decode q_st_copyFrom.2.1 2 = .ok (.getfield 51, 3) := by decide +kernel
theorem d_st_copyFrom_5 : decode q_st_copyFrom.2.1 5 = .ok (.putfield 51, 3) := by decide +kernel
theorem d_st_copyFrom_8 : decode q_st_copyFrom.2.1 8 = .ok (.aload_n 0, 1) := by decide +kernel
theorem d_st_copyFrom_9 : decode q_st_copyFrom.2.1 9 = .ok (.aload_n 1, 1) := by decide +kernel
theorem d_st_copyFrom_10 : decode q_st_copyFrom.2.1 10 = .ok (.getfield 55, 3) := by decide +kernel
theorem d_st_copyFrom_13 : decode q_st_copyFrom.2.1 13 = .ok (.putfield 55, 3) := by decide +kernel
theorem d_st_copyFrom_16 : decode q_st_copyFrom.2.1 16 = .ok (.aload_n 0, 1) := by decide +kernel
theorem d_st_copyFrom_17 : decode q_st_copyFrom.2.1 17 = .ok (.aload_n 1, 1) := by decide +kernel
theorem d_st_copyFrom_18 : decode q_st_copyFrom.2.1 18 = .ok (.getfield 59, 3) := by decide +kernel
theorem d_st_copyFrom_21 : decode q_st_copyFrom.2.1 21 = .ok (.putfield 59, 3) := by decide +kernel
theorem d_st_copyFrom_24 : decode q_st_copyFrom.2.1 24 = .ok (.aload_n 0, 1) := by decide +kernel
theorem d_st_copyFrom_25 : decode q_st_copyFrom.2.1 25 = .ok (.aload_n 1, 1) := by decide +kernel
theorem d_st_copyFrom_26 : decode q_st_copyFrom.2.1 26 = .ok (.getfield 63, 3) := by decide +kernel
theorem d_st_copyFrom_29 : decode q_st_copyFrom.2.1 29 = .ok (.putfield 63, 3) := by decide +kernel
theorem d_st_copyFrom_32 : decode q_st_copyFrom.2.1 32 = .ok (.aload_n 0, 1) := by decide +kernel
theorem d_st_copyFrom_33 : decode q_st_copyFrom.2.1 33 = .ok (.aload_n 1, 1) := by decide +kernel
theorem d_st_copyFrom_34 : decode q_st_copyFrom.2.1 34 = .ok (.getfield 66, 3) := by decide +kernel
theorem d_st_copyFrom_37 : decode q_st_copyFrom.2.1 37 = .ok (.putfield 66, 3) := by decide +kernel
theorem d_st_copyFrom_40 : decode q_st_copyFrom.2.1 40 = .ok (.aload_n 0, 1) := by decide +kernel
theorem d_st_copyFrom_41 : decode q_st_copyFrom.2.1 41 = .ok (.aload_n 1, 1) := by decide +kernel
theorem d_st_copyFrom_42 : decode q_st_copyFrom.2.1 42 = .ok (.getfield 69, 3) := by decide +kernel
theorem d_st_copyFrom_45 : decode q_st_copyFrom.2.1 45 = .ok (.putfield 69, 3) := by decide +kernel
theorem d_st_copyFrom_48 : decode q_st_copyFrom.2.1 48 = .ok (.aload_n 0, 1) := by decide +kernel
theorem d_st_copyFrom_49 : decode q_st_copyFrom.2.1 49 = .ok (.aload_n 1, 1) := by decide +kernel
theorem d_st_copyFrom_50 : decode q_st_copyFrom.2.1 50 = .ok (.getfield 72, 3) := by decide +kernel
theorem d_st_copyFrom_53 : decode q_st_copyFrom.2.1 53 = .ok (.putfield 72, 3) := by decide +kernel
theorem d_st_copyFrom_56 : decode q_st_copyFrom.2.1 56 = .ok (.aload_n 0, 1) := by decide +kernel
theorem d_st_copyFrom_57 : decode q_st_copyFrom.2.1 57 = .ok (.aload_n 1, 1) := by decide +kernel
theorem d_st_copyFrom_58 : decode q_st_copyFrom.2.1 58 = .ok (.getfield 75, 3) := by decide +kernel
theorem d_st_copyFrom_61 : decode q_st_copyFrom.2.1 61 = .ok (.putfield 75, 3) := by decide +kernel
theorem d_st_copyFrom_64 : decode q_st_copyFrom.2.1 64 = .ok (.aload_n 0, 1) := by decide +kernel
theorem d_st_copyFrom_65 : decode q_st_copyFrom.2.1 65 = .ok (.aload_n 1, 1) := by decide +kernel
theorem d_st_copyFrom_66 : decode q_st_copyFrom.2.1 66 = .ok (.getfield 78, 3) := by decide +kernel
theorem d_st_copyFrom_69 : decode q_st_copyFrom.2.1 69 = .ok (.putfield 78, 3) := by decide +kernel
theorem d_st_copyFrom_72 : decode q_st_copyFrom.2.1 72 = .ok (.aload_n 1, 1) := by decide +kernel
theorem d_st_copyFrom_73 : decode q_st_copyFrom.2.1 73 = .ok (.getfield 9, 3) := by decide +kernel
theorem d_st_copyFrom_76 : decode q_st_copyFrom.2.1 76 = .ok (.aload_n 0, 1) := by decide +kernel
theorem d_st_copyFrom_77 : decode q_st_copyFrom.2.1 77 = .ok (.getfield 9, 3) := by decide +kernel
theorem d_st_copyFrom_80 : decode q_st_copyFrom.2.1 80 = .ok (.invokestatic 107, 3) := by decide +kernel
theorem d_st_copyFrom_83 : decode q_st_copyFrom.2.1 83 = .ok (.aload_n 1, 1) := by decide +kernel
theorem d_st_copyFrom_84 : decode q_st_copyFrom.2.1 84 = .ok (.getfield 15, 3) := by decide +kernel
theorem d_st_copyFrom_87 : decode q_st_copyFrom.2.1 87 = .ok (.aload_n 0, 1) := by decide +kernel
theorem d_st_copyFrom_88 : decode q_st_copyFrom.2.1 88 = .ok (.getfield 15, 3) := by decide +kernel
theorem d_st_copyFrom_91 : decode q_st_copyFrom.2.1 91 = .ok (.invokestatic 107, 3) := by decide +kernel
theorem d_st_copyFrom_94 : decode q_st_copyFrom.2.1 94 = .ok (.aload_n 1, 1) := by decide +kernel
theorem d_st_copyFrom_95 : decode q_st_copyFrom.2.1 95 = .ok (.getfield 18, 3) := by decide +kernel
theorem d_st_copyFrom_98 : decode q_st_copyFrom.2.1 98 = .ok (.aload_n 0, 1) := by decide +kernel
theorem d_st_copyFrom_99 : decode q_st_copyFrom.2.1 99 = .ok (.getfield 18, 3) := by decide +kernel
theorem d_st_copyFrom_102 : decode q_st_copyFrom.2.1 102 = .ok (.invokestatic 107, 3) := by decide +kernel
theorem d_st_copyFrom_105 : decode q_st_copyFrom.2.1 105 = .ok (.aload_n 1, 1) := by decide +kernel
theorem d_st_copyFrom_106 : decode q_st_copyFrom.2.1 106 = .ok (.getfield 21, 3) := by decide +kernel
theorem d_st_copyFrom_109 : decode q_st_copyFrom.2.1 109 = .ok (.aload_n 0, 1) := by decide +kernel
theorem d_st_copyFrom_110 : decode q_st_copyFrom.2.1 110 = .ok (.getfield 21, 3) := by decide +kernel
theorem d_st_copyFrom_113 : decode q_st_copyFrom.2.1 113 = .ok (.invokestatic 107, 3) := by decide +kernel
theorem d_st_copyFrom_116 : decode q_st_copyFrom.2.1 116 = .ok (.aload_n 1, 1) := by decide +kernel
theorem d_st_copyFrom_117 : decode q_st_copyFrom.2.1 117 = .ok (.getfield 24, 3) := by decide +kernel
theorem d_st_copyFrom_120 : decode q_st_copyFrom.2.1 120 = .ok (.aload_n 0, 1) := by decide +kernel
theorem d_st_copyFrom_121 : decode q_st_copyFrom.2.1 121 = .ok (.getfield 24, 3) := by decide +kernel
theorem d_st_copyFrom_124 : decode q_st_copyFrom.2.1 124 = .ok (.invokestatic 107, 3) := by decide +kernel
theorem d_st_copyFrom_127 : decode q_st_copyFrom.2.1 127 = .ok (.aload_n 1, 1) := by decide +kernel
theorem d_st_copyFrom_128 : decode q_st_copyFrom.2.1 128 = .ok (.getfield 27, 3) := by decide +kernel
theorem d_st_copyFrom_131 : decode q_st_copyFrom.2.1 131 = .ok (.aload_n 0, 1) := by decide +kernel
theorem d_st_copyFrom_132 : decode q_st_copyFrom.2.1 132 = .ok (.getfield 27, 3) := by decide +kernel
theorem d_st_copyFrom_135 : decode q_st_copyFrom.2.1 135 = .ok (.invokestatic 107, 3) := by decide +kernel
theorem d_st_copyFrom_138 : decode q_st_copyFrom.2.1 138 = .ok (.aload_n 1, 1) := by decide +kernel
theorem d_st_copyFrom_139 : decode q_st_copyFrom.2.1 139 = .ok (.getfield 30, 3) := by decide +kernel
theorem d_st_copyFrom_142 : decode q_st_copyFrom.2.1 142 = .ok (.aload_n 0, 1) := by decide +kernel
theorem d_st_copyFrom_143 : decode q_st_copyFrom.2.1 143 = .ok (.getfield 30, 3) := by decide +kernel
theorem d_st_copyFrom_146 : decode q_st_copyFrom.2.1 146 = .ok (.invokestatic 107, 3) := by decide +kernel
theorem d_st_copyFrom_149 : decode q_st_copyFrom.2.1 149 = .ok (.aload_n 0, 1) := by decide +kernel
theorem d_st_copyFrom_150 : decode q_st_copyFrom.2.1 150 = .ok (.getfield 36, 3) := by decide +kernel
theorem d_st_copyFrom_153 : decode q_st_copyFrom.2.1 153 = .ok (.aload_n 1, 1) := by decide +kernel
theorem d_st_copyFrom_154 : decode q_st_copyFrom.2.1 154 = .ok (.getfield 36, 3) := by decide +kernel
theorem d_st_copyFrom_157 : decode q_st_copyFrom.2.1 157 = .ok (.invokevirtual 111, 3) := by decide +kernel
theorem d_st_copyFrom_160 : decode q_st_copyFrom.2.1 160 = .ok (.aload_n 0, 1) := by decide +kernel
theorem d_st_copyFrom_161 : decode q_st_copyFrom.2.1 161 = .ok (.getfield 43, 3) := by decide +kernel
theorem d_st_copyFrom_164 : decode q_st_copyFrom.2.1 164 = .ok (.aload_n 1, 1) := by decide +kernel
theorem d_st_copyFrom_165 : decode q_st_copyFrom.2.1 165 = .ok (.getfield 43, 3) := by decide +kernel
theorem d_st_copyFrom_168 : decode q_st_copyFrom.2.1 168 = .ok (.invokevirtual 115, 3) := by decide +kernel
theorem d_st_copyFrom_171 : decode q_st_copyFrom.2.1 171 = .ok (.return_, 1) := by decide +kernel
theorem m_st_copyFrom (l : Launch) (lo hi d : Nat) (hS : sm_has lo hi) {a0 : Nat} {a1 : Nat} {h h' : sm_H} (e0 : sm_at lo hi (0, 7, 0) a0) (e1 : sm_at lo hi (0, 7, 0) a1) (hf : f_st_copyFrom a0 a1 h = some h') : sm_Met l lo hi (d + 3) q_st_copyFrom [.ref a0, .ref a1] h none h' := by
  refine sm_Met.of (by decide +kernel) rfl ?_
  show sm_W l lo hi (d + 3) q_st_copyFrom 0 [(0, .ref a0), (1, .ref a1)] [] h none h'
  unfold f_st_copyFrom at hf
  refine sm_aload_n 0 rfl d_st_copyFrom_0 ?_
  refine sm_aload_n 1 rfl d_st_copyFrom_1 ?_
  obtain ⟨c1, hf⟩ := sm_gdE hf
  obtain ⟨z2, v3⟩ := sm_isP_at hS c1
  refine sm_getD fl_st_51 e1 rfl z2 d_st_copyFrom_2 ?_
  refine sm_nmR (fun p4 w5 => ?_)
  have hf := sm_letV w5 hf
  have v3 := sm_ev w5 v3
  refine sm_putD fp_st_51 e0 rfl rfl (sm_plant0 v3) (sm_plantB v3) d_st_copyFrom_5 ?_
  refine sm_nmH (fun g6 w7 => ?_)
  have hf := sm_letV w7 hf
  refine sm_aload_n 0 rfl d_st_copyFrom_8 ?_
  refine sm_aload_n 1 rfl d_st_copyFrom_9 ?_
  refine sm_getI fl_st_55 e1 rfl d_st_copyFrom_10 ?_
  refine sm_putI fp_st_55 e0 rfl rfl d_st_copyFrom_13 ?_
  refine sm_nmH (fun g8 w9 => ?_)
  have hf := sm_letV w9 hf
  refine sm_aload_n 0 rfl d_st_copyFrom_16 ?_
  refine sm_aload_n 1 rfl d_st_copyFrom_17 ?_
  refine sm_getI fl_st_59 e1 rfl d_st_copyFrom_18 ?_
  obtain ⟨c10, hf⟩ := sm_gdE hf
  refine sm_putZ fp_st_59 e0 rfl rfl c10 d_st_copyFrom_21 ?_
  refine sm_nmH (fun g11 w12 => ?_)
  have hf := sm_letV w12 hf
  refine sm_aload_n 0 rfl d_st_copyFrom_24 ?_
  refine sm_aload_n 1 rfl d_st_copyFrom_25 ?_
  refine sm_getI fl_st_63 e1 rfl d_st_copyFrom_26 ?_
  refine sm_putI fp_st_63 e0 rfl rfl d_st_copyFrom_29 ?_
  refine sm_nmH (fun g13 w14 => ?_)
  have hf := sm_letV w14 hf
  refine sm_aload_n 0 rfl d_st_copyFrom_32 ?_
  refine sm_aload_n 1 rfl d_st_copyFrom_33 ?_
  refine sm_getI fl_st_66 e1 rfl d_st_copyFrom_34 ?_
  refine sm_putI fp_st_66 e0 rfl rfl d_st_copyFrom_37 ?_
  refine sm_nmH (fun g15 w16 => ?_)
  have hf := sm_letV w16 hf
  refine sm_aload_n 0 rfl d_st_copyFrom_40 ?_
  refine sm_aload_n 1 rfl d_st_copyFrom_41 ?_
  refine sm_getI fl_st_69 e1 rfl d_st_copyFrom_42 ?_
  refine sm_putI fp_st_69 e0 rfl rfl d_st_copyFrom_45 ?_
  refine sm_nmH (fun g17 w18 => ?_)
  have hf := sm_letV w18 hf
  refine sm_aload_n 0 rfl d_st_copyFrom_48 ?_
  refine sm_aload_n 1 rfl d_st_copyFrom_49 ?_
  refine sm_getI fl_st_72 e1 rfl d_st_copyFrom_50 ?_
  refine sm_putI fp_st_72 e0 rfl rfl d_st_copyFrom_53 ?_
  refine sm_nmH (fun g19 w20 => ?_)
  have hf := sm_letV w20 hf
  refine sm_aload_n 0 rfl d_st_copyFrom_56 ?_
  refine sm_aload_n 1 rfl d_st_copyFrom_57 ?_
  refine sm_getI fl_st_75 e1 rfl d_st_copyFrom_58 ?_
  refine sm_putI fp_st_75 e0 rfl rfl d_st_copyFrom_61 ?_
  refine sm_nmH (fun g21 w22 => ?_)
  have hf := sm_letV w22 hf
  refine sm_aload_n 0 rfl d_st_copyFrom_64 ?_
  refine sm_aload_n 1 rfl d_st_copyFrom_65 ?_
  refine sm_getI fl_st_78 e1 rfl d_st_copyFrom_66 ?_
  refine sm_putI fp_st_78 e0 rfl rfl d_st_copyFrom_69 ?_
  refine sm_nmH (fun g23 w24 => ?_)
  have hf := sm_letV w24 hf
  refine sm_aload_n 1 rfl d_st_copyFrom_72 ?_
  refine sm_getR (n := 1) fl_st_9 e1 rfl d_st_copyFrom_73 ?_
  refine sm_aload_n 0 rfl d_st_copyFrom_76 ?_
  refine sm_getR (n := 1) fl_st_9 e0 rfl d_st_copyFrom_77 ?_
  obtain ⟨g25, c26, hf⟩ := sm_bindE hf
  refine sm_callN (As := [.ref (a1 + 1), .ref (a0 + 1)]) (rv := none) (h1 := g25) cvn_st_107 (m_sc_copyRow l lo hi _ (sm_arr_self (sm_at_arr (sm_inner e1 9 rfl rfl rfl))) (sm_arr_self (sm_at_arr (sm_inner e0 9 rfl rfl rfl))) c26) rfl rfl d_st_copyFrom_80 ?_
  refine sm_aload_n 1 rfl d_st_copyFrom_83 ?_
  refine sm_getR (n := 2) fl_st_15 e1 rfl d_st_copyFrom_84 ?_
  refine sm_aload_n 0 rfl d_st_copyFrom_87 ?_
  refine sm_getR (n := 2) fl_st_15 e0 rfl d_st_copyFrom_88 ?_
  obtain ⟨g27, c28, hf⟩ := sm_bindE hf
  refine sm_callN (As := [.ref (a1 + 2), .ref (a0 + 2)]) (rv := none) (h1 := g27) cvn_st_107 (m_sc_copyRow l lo hi _ (sm_arr_self (sm_at_arr (sm_inner e1 10 rfl rfl rfl))) (sm_arr_self (sm_at_arr (sm_inner e0 10 rfl rfl rfl))) c28) rfl rfl d_st_copyFrom_91 ?_
  refine sm_aload_n 1 rfl d_st_copyFrom_94 ?_
  refine sm_getR (n := 3) fl_st_18 e1 rfl d_st_copyFrom_95 ?_
  refine sm_aload_n 0 rfl d_st_copyFrom_98 ?_
  refine sm_getR (n := 3) fl_st_18 e0 rfl d_st_copyFrom_99 ?_
  obtain ⟨g29, c30, hf⟩ := sm_bindE hf
  refine sm_callN (As := [.ref (a1 + 3), .ref (a0 + 3)]) (rv := none) (h1 := g29) cvn_st_107 (m_sc_copyRow l lo hi _ (sm_arr_self (sm_at_arr (sm_inner e1 11 rfl rfl rfl))) (sm_arr_self (sm_at_arr (sm_inner e0 11 rfl rfl rfl))) c30) rfl rfl d_st_copyFrom_102 ?_
  refine sm_aload_n 1 rfl d_st_copyFrom_105 ?_
  refine sm_getR (n := 4) fl_st_21 e1 rfl d_st_copyFrom_106 ?_
  refine sm_aload_n 0 rfl d_st_copyFrom_109 ?_
  refine sm_getR (n := 4) fl_st_21 e0 rfl d_st_copyFrom_110 ?_
  obtain ⟨g31, c32, hf⟩ := sm_bindE hf
  refine sm_callN (As := [.ref (a1 + 4), .ref (a0 + 4)]) (rv := none) (h1 := g31) cvn_st_107 (m_sc_copyRow l lo hi _ (sm_arr_self (sm_at_arr (sm_inner e1 12 rfl rfl rfl))) (sm_arr_self (sm_at_arr (sm_inner e0 12 rfl rfl rfl))) c32) rfl rfl d_st_copyFrom_113 ?_
  refine sm_aload_n 1 rfl d_st_copyFrom_116 ?_
  refine sm_getR (n := 5) fl_st_24 e1 rfl d_st_copyFrom_117 ?_
  refine sm_aload_n 0 rfl d_st_copyFrom_120 ?_
  refine sm_getR (n := 5) fl_st_24 e0 rfl d_st_copyFrom_121 ?_
  obtain ⟨g33, c34, hf⟩ := sm_bindE hf
  refine sm_callN (As := [.ref (a1 + 5), .ref (a0 + 5)]) (rv := none) (h1 := g33) cvn_st_107 (m_sc_copyRow l lo hi _ (sm_arr_self (sm_at_arr (sm_inner e1 13 rfl rfl rfl))) (sm_arr_self (sm_at_arr (sm_inner e0 13 rfl rfl rfl))) c34) rfl rfl d_st_copyFrom_124 ?_
  refine sm_aload_n 1 rfl d_st_copyFrom_127 ?_
  refine sm_getR (n := 6) fl_st_27 e1 rfl d_st_copyFrom_128 ?_
  refine sm_aload_n 0 rfl d_st_copyFrom_131 ?_
  refine sm_getR (n := 6) fl_st_27 e0 rfl d_st_copyFrom_132 ?_
  obtain ⟨g35, c36, hf⟩ := sm_bindE hf
  refine sm_callN (As := [.ref (a1 + 6), .ref (a0 + 6)]) (rv := none) (h1 := g35) cvn_st_107 (m_sc_copyRow l lo hi _ (sm_arr_self (sm_at_arr (sm_inner e1 14 rfl rfl rfl))) (sm_arr_self (sm_at_arr (sm_inner e0 14 rfl rfl rfl))) c36) rfl rfl d_st_copyFrom_135 ?_
  refine sm_aload_n 1 rfl d_st_copyFrom_138 ?_
  refine sm_getR (n := 7) fl_st_30 e1 rfl d_st_copyFrom_139 ?_
  refine sm_aload_n 0 rfl d_st_copyFrom_142 ?_
  refine sm_getR (n := 7) fl_st_30 e0 rfl d_st_copyFrom_143 ?_
  obtain ⟨g37, c38, hf⟩ := sm_bindE hf
  refine sm_callN (As := [.ref (a1 + 7), .ref (a0 + 7)]) (rv := none) (h1 := g37) cvn_st_107 (m_sc_copyRow l lo hi _ (sm_arr_self (sm_at_arr (sm_inner e1 15 rfl rfl rfl))) (sm_arr_self (sm_at_arr (sm_inner e0 15 rfl rfl rfl))) c38) rfl rfl d_st_copyFrom_146 ?_
  refine sm_aload_n 0 rfl d_st_copyFrom_149 ?_
  refine sm_getR (n := 8) fl_st_36 e0 rfl d_st_copyFrom_150 ?_
  refine sm_aload_n 1 rfl d_st_copyFrom_153 ?_
  refine sm_getR (n := 8) fl_st_36 e1 rfl d_st_copyFrom_154 ?_
  obtain ⟨g39, c40, hf⟩ := sm_bindE hf
  refine sm_callV (As := [.ref (a1 + 8)]) (rv := none) (h1 := g39) (c := 0) cvv_st_111 rfl rfl (sm_inner e0 16 rfl rfl rfl) (m_al_copyFrom l lo hi _ (sm_inner e0 16 rfl rfl rfl) (sm_inner e1 16 rfl rfl rfl) c40) rfl rfl d_st_copyFrom_157 ?_
  refine sm_aload_n 0 rfl d_st_copyFrom_160 ?_
  refine sm_getR (n := 9) fl_st_43 e0 rfl d_st_copyFrom_161 ?_
  refine sm_aload_n 1 rfl d_st_copyFrom_164 ?_
  refine sm_getR (n := 9) fl_st_43 e1 rfl d_st_copyFrom_165 ?_
  obtain ⟨g41, c42, hf⟩ := sm_bindE hf
  refine sm_callV (As := [.ref (a1 + 9)]) (rv := none) (h1 := g41) (c := 3) cvv_st_115 rfl rfl (sm_inner e0 17 rfl rfl rfl) (m_lo_copyFrom l lo hi _ (sm_inner e0 17 rfl rfl rfl) (sm_inner e1 17 rfl rfl rfl) c42) rfl rfl d_st_copyFrom_168 ?_
  obtain rfl := sm_ret1 hf
  exact sm_vret d_st_copyFrom_171 rfl
theorem d_sc_tryTicks_0 : decode q_sc_tryTicks.2.1 0 = .ok (.aload_n 0, 1) := by decide +kernel
theorem d_sc_tryTicks_1 : decode q_sc_tryTicks.2.1 1 = .ok (.getfield 28, 3) := by decide +kernel
theorem d_sc_tryTicks_4 : decode q_sc_tryTicks.2.1 4 = .ok (.aload_n 0, 1) := by decide +kernel
theorem d_sc_tryTicks_5 : decode q_sc_tryTicks.2.1 5 = .ok (.getfield 24, 3) := by decide +kernel
theorem d_sc_tryTicks_8 : decode q_sc_tryTicks.2.1 8 = .ok (.invokevirtual 314, 3) := by decide +kernel
theorem d_sc_tryTicks_11 : decode q_sc_tryTicks.2.1 11 = .ok (.aload_n 0, 1) := by decide +kernel
theorem d_sc_tryTicks_12 : decode q_sc_tryTicks.2.1 12 = .ok (.getfield 38, 3) := by decide +kernel
theorem d_sc_tryTicks_15 : decode q_sc_tryTicks.2.1 15 = .ok (.aload_n 0, 1) := by decide +kernel
theorem d_sc_tryTicks_16 : decode q_sc_tryTicks.2.1 16 = .ok (.getfield 28, 3) := by decide +kernel
theorem d_sc_tryTicks_19 : decode q_sc_tryTicks.2.1 19 = .ok (.iload_n 1, 1) := by decide +kernel
theorem d_sc_tryTicks_20 : decode q_sc_tryTicks.2.1 20 = .ok (.invokevirtual 179, 3) := by decide +kernel
theorem d_sc_tryTicks_23 : decode q_sc_tryTicks.2.1 23 = .ok (.pop, 1) := by decide +kernel
theorem d_sc_tryTicks_24 : decode q_sc_tryTicks.2.1 24 = .ok (.return_, 1) := by decide +kernel
theorem m_sc_tryTicks (l : Launch) (lo hi d : Nat) (hS : sm_has lo hi) {a0 : Nat} {a1 : Int32} {h h' : sm_H} (e0 : sm_at lo hi (0, 9, 0) a0) (hf : f_sc_tryTicks a0 a1 h = some h') : sm_Met l lo hi (d + 6) q_sc_tryTicks [.ref a0, .int a1] h none h' := by
  refine sm_Met.of (by decide +kernel) rfl ?_
  show sm_W l lo hi (d + 6) q_sc_tryTicks 0 [(0, .ref a0), (1, .int a1)] [] h none h'
  unfold f_sc_tryTicks at hf
  refine sm_aload_n 0 rfl d_sc_tryTicks_0 ?_
  refine sm_getR (n := 53) fl_sc_28 e0 rfl d_sc_tryTicks_1 ?_
  refine sm_aload_n 0 rfl d_sc_tryTicks_4 ?_
  refine sm_getR (n := 40) fl_sc_24 e0 rfl d_sc_tryTicks_5 ?_
  obtain ⟨g1, c2, hf⟩ := sm_bindE hf
  refine sm_callV (As := [.ref (a0 + 40)]) (rv := none) (h1 := g1) (c := 7) cvv_sc_314 rfl rfl (sm_inner e0 2 rfl rfl rfl) (m_st_copyFrom l lo hi _ hS (sm_inner e0 2 rfl rfl rfl) (sm_inner e0 1 rfl rfl rfl) c2) rfl rfl d_sc_tryTicks_8 ?_
  refine sm_aload_n 0 rfl d_sc_tryTicks_11 ?_
  refine sm_getR (n := 106) fl_sc_38 e0 rfl d_sc_tryTicks_12 ?_
  refine sm_aload_n 0 rfl d_sc_tryTicks_15 ?_
  refine sm_getR (n := 53) fl_sc_28 e0 rfl d_sc_tryTicks_16 ?_
  refine sm_iload_n 1 rfl d_sc_tryTicks_19 ?_
  obtain ⟨r3, g4, c5, hf⟩ := sm_b2E hf
  refine sm_callV (As := [.ref (a0 + 53), .int a1]) (rv := some (.int r3)) (h1 := g4) (c := 2) cvv_sc_179 rfl rfl (sm_inner e0 5 rfl rfl rfl) (m_en_pass l lo hi _ hS (sm_inner e0 5 rfl rfl rfl) (sm_inner e0 2 rfl rfl rfl) c5) rfl rfl d_sc_tryTicks_20 ?_
  refine sm_pop rfl d_sc_tryTicks_23 ?_
  obtain rfl := sm_ret1 hf
  exact sm_vret d_sc_tryTicks_24 rfl
theorem d_sc_smokeAfter_0 : decode q_sc_smokeAfter.2.1 0 = .ok (.aload_n 0, 1) := by decide +kernel
theorem d_sc_smokeAfter_1 : decode q_sc_smokeAfter.2.1 1 = .ok (.iload_n 1, 1) := by decide +kernel
theorem d_sc_smokeAfter_2 : decode q_sc_smokeAfter.2.1 2 = .ok (.invokevirtual 112, 3) := by decide +kernel
theorem d_sc_smokeAfter_5 : decode q_sc_smokeAfter.2.1 5 = .ok (.ifCond .eq 5, 3) := by decide +kernel
theorem d_sc_smokeAfter_8 : decode q_sc_smokeAfter.2.1 8 = .ok (.iconst (-1), 1) := by decide +kernel
theorem d_sc_smokeAfter_9 : decode q_sc_smokeAfter.2.1 9 = .ok (.ireturn, 1) := by decide +kernel
theorem d_sc_smokeAfter_10 : decode q_sc_smokeAfter.2.1 10 = .ok (.iload_n 2, 1) := by decide +kernel
theorem d_sc_smokeAfter_11 : decode q_sc_smokeAfter.2.1 11 = .ok (.invokestatic 305, 3) := by decide +kernel
theorem d_sc_smokeAfter_14 : decode q_sc_smokeAfter.2.1 14 = .ok (.ifCond .eq 6, 3) := by decide +kernel
theorem d_sc_smokeAfter_17 : decode q_sc_smokeAfter.2.1 17 = .ok (.bipush (-2), 2) := by decide +kernel
theorem d_sc_smokeAfter_19 : decode q_sc_smokeAfter.2.1 19 = .ok (.ireturn, 1) := by decide +kernel
theorem d_sc_smokeAfter_20 : decode q_sc_smokeAfter.2.1 20 = .ok (.aload_n 0, 1) := by decide +kernel
theorem d_sc_smokeAfter_21 : decode q_sc_smokeAfter.2.1 21 = .ok (.iload_n 2, 1) := by decide +kernel
theorem d_sc_smokeAfter_22 : decode q_sc_smokeAfter.2.1 22 = .ok (.invokevirtual 308, 3) := by decide +kernel
theorem d_sc_smokeAfter_25 : decode q_sc_smokeAfter.2.1 25 = .ok (.aload_n 0, 1) := by decide +kernel
theorem d_sc_smokeAfter_26 : decode q_sc_smokeAfter.2.1 26 = .ok (.getfield 28, 3) := by decide +kernel
theorem d_sc_smokeAfter_29 : decode q_sc_smokeAfter.2.1 29 = .ok (.getfield 208, 3) := by decide +kernel
theorem d_sc_smokeAfter_32 : decode q_sc_smokeAfter.2.1 32 = .ok (.iload_n 1, 1) := by decide +kernel
theorem d_sc_smokeAfter_33 : decode q_sc_smokeAfter.2.1 33 = .ok (.iaload, 1) := by decide +kernel
theorem d_sc_smokeAfter_34 : decode q_sc_smokeAfter.2.1 34 = .ok (.ireturn, 1) := by decide +kernel
theorem m_sc_smokeAfter (l : Launch) (lo hi d : Nat) (hS : sm_has lo hi) {a0 : Nat} {a1 : Int32} {a2 : Int32} {r0 : Int32} {h h' : sm_H} (e0 : sm_at lo hi (0, 9, 0) a0) (hf : f_sc_smokeAfter a0 a1 a2 h = some (r0, h')) : sm_Met l lo hi (d + 7) q_sc_smokeAfter [.ref a0, .int a1, .int a2] h (some (.int r0)) h' := by
  refine sm_Met.of (by decide +kernel) rfl ?_
  show sm_W l lo hi (d + 7) q_sc_smokeAfter 0 [(0, .ref a0), (1, .int a1), (2, .int a2)] [] h (some (.int r0)) h'
  unfold f_sc_smokeAfter at hf
  refine sm_aload_n 0 rfl d_sc_smokeAfter_0 ?_
  refine sm_iload_n 1 rfl d_sc_smokeAfter_1 ?_
  obtain ⟨r1, g2, c3, hf⟩ := sm_b2E hf
  refine sm_callV (As := [.int a1]) (rv := some (.int r1)) (h1 := g2) (c := 9) cvv_sc_112 rfl rfl e0 (m_sc_lacksZone l lo hi _ hS e0 c3) rfl rfl d_sc_smokeAfter_2 ?_
  refine sm_if_eq 10 d_sc_smokeAfter_5 rfl (fun c4 => ?_) (fun c4 => ?_)
  · have hf := sm_ifT c4 hf
    refine sm_iload_n 2 rfl d_sc_smokeAfter_10 ?_
    obtain ⟨r5, g6, c7, hf⟩ := sm_b2E hf
    refine sm_callS (As := [.int a2]) (rv := some (.int r5)) (h1 := g6) cvs_sc_305 (m_sc_isNoTrial l lo hi _ c7) rfl rfl d_sc_smokeAfter_11 ?_
    refine sm_if_eq 20 d_sc_smokeAfter_14 rfl (fun c8 => ?_) (fun c8 => ?_)
    · have hf := sm_ifT c8 hf
      refine sm_aload_n 0 rfl d_sc_smokeAfter_20 ?_
      refine sm_iload_n 2 rfl d_sc_smokeAfter_21 ?_
      obtain ⟨g9, c10, hf⟩ := sm_bindE hf
      refine sm_callV (As := [.int a2]) (rv := none) (h1 := g9) (c := 9) cvv_sc_308 rfl rfl e0 (m_sc_tryTicks l lo hi _ hS e0 c10) rfl rfl d_sc_smokeAfter_22 ?_
      refine sm_aload_n 0 rfl d_sc_smokeAfter_25 ?_
      refine sm_getR (n := 53) fl_sc_28 e0 rfl d_sc_smokeAfter_26 ?_
      refine sm_getR (n := 1) fl_sc_208 (sm_inner e0 2 rfl rfl rfl) rfl d_sc_smokeAfter_29 ?_
      refine sm_iload_n 1 rfl d_sc_smokeAfter_32 ?_
      obtain ⟨c11, hf⟩ := sm_gdE hf
      refine sm_iald (sm_at_arr (sm_inner (sm_inner e0 2 rfl rfl rfl) 9 rfl rfl rfl)) c11 d_sc_smokeAfter_33 ?_
      obtain ⟨rfl, rfl⟩ := sm_ret2 hf
      exact sm_iret d_sc_smokeAfter_34 rfl
    · have hf := sm_ifF c8 hf
      refine sm_bipush (v := (-2)) (by decide) d_sc_smokeAfter_17 ?_
      obtain ⟨rfl, rfl⟩ := sm_ret2 hf
      exact sm_iret d_sc_smokeAfter_19 rfl
  · have hf := sm_ifF c4 hf
    refine sm_iconst (v := (-1)) (by decide) d_sc_smokeAfter_8 ?_
    obtain ⟨rfl, rfl⟩ := sm_ret2 hf
    exact sm_iret d_sc_smokeAfter_9 rfl
theorem d_st_smokeSum_0 : decode q_st_smokeSum.2.1 0 = .ok (.aload_n 0, 1) := by decide +kernel
theorem d_st_smokeSum_1 : decode q_st_smokeSum.2.1 1 = .ok (.getfield 69, 3) := by decide +kernel
theorem d_st_smokeSum_4 : decode q_st_smokeSum.2.1 4 = .ok (.istore_n 1, 1) := by decide +kernel
theorem d_st_smokeSum_5 : decode q_st_smokeSum.2.1 5 = .ok (.iconst 0, 1) := by decide +kernel
theorem d_st_smokeSum_6 : decode q_st_smokeSum.2.1 6 = .ok (.istore_n 2, 1) := by decide +kernel
theorem d_st_smokeSum_7 : decode q_st_smokeSum.2.1 7 = .ok (.iload_n 2, 1) := by decide +kernel
theorem d_st_smokeSum_8 : decode q_st_smokeSum.2.1 8 = .ok (.aload_n 0, 1) := by decide +kernel
theorem d_st_smokeSum_9 : decode q_st_smokeSum.2.1 9 = .ok (.getfield 51, 3) := by decide +kernel
theorem d_st_smokeSum_12 : decode q_st_smokeSum.2.1 12 = .ok (.getfield 118, 3) := by decide +kernel
theorem d_st_smokeSum_15 : decode q_st_smokeSum.2.1 15 = .ok (.if_icmp .ge 18, 3) := by decide +kernel
theorem d_st_smokeSum_18 : decode q_st_smokeSum.2.1 18 = .ok (.iload_n 1, 1) := by decide +kernel
theorem d_st_smokeSum_19 : decode q_st_smokeSum.2.1 19 = .ok (.aload_n 0, 1) := by decide +kernel
theorem d_st_smokeSum_20 : decode q_st_smokeSum.2.1 20 = .ok (.getfield 9, 3) := by decide +kernel
theorem d_st_smokeSum_23 : decode q_st_smokeSum.2.1 23 = .ok (.iload_n 2, 1) := by decide +kernel
theorem d_st_smokeSum_24 : decode q_st_smokeSum.2.1 24 = .ok (.iaload, 1) := by decide +kernel
theorem d_st_smokeSum_25 : decode q_st_smokeSum.2.1 25 = .ok (.iadd, 1) := by decide +kernel
theorem d_st_smokeSum_26 : decode q_st_smokeSum.2.1 26 = .ok (.istore_n 1, 1) := by decide +kernel
theorem d_st_smokeSum_27 : decode q_st_smokeSum.2.1 27 = .ok (.iinc 2 1, 3) := by decide +kernel
theorem d_st_smokeSum_30 : decode q_st_smokeSum.2.1 30 = .ok (.goto (-23), 3) := by decide +kernel
theorem d_st_smokeSum_33 : decode q_st_smokeSum.2.1 33 = .ok (.iload_n 1, 1) := by decide +kernel
theorem d_st_smokeSum_34 : decode q_st_smokeSum.2.1 34 = .ok (.ireturn, 1) := by decide +kernel
theorem w_st_smokeSum_L33 (l : Launch) (lo hi d : Nat) (hS : sm_has lo hi) {h' : sm_H} {r0 : Int32} (a1 : Int32) (h : sm_H) (hf : f_st_smokeSum_L33 a1 h = some (r0, h')) : sm_W l lo hi (d) q_st_smokeSum 33 [(1, .int a1)] [] h (some (.int r0)) h' := by
  unfold f_st_smokeSum_L33 at hf
  refine sm_iload_n 0 rfl d_st_smokeSum_33 ?_
  obtain ⟨rfl, rfl⟩ := sm_ret2 hf
  exact sm_iret d_st_smokeSum_34 rfl
theorem w_st_smokeSum_L7 (l : Launch) (lo hi d : Nat) (hS : sm_has lo hi) {h' : sm_H} {r0 : Int32} : ∀ (n : Nat) (a0 : Nat) (a1 : Int32) (a2 : Int32) (h : sm_H) (e0 : sm_at lo hi (0, 7, 0) a0) (hf : f_st_smokeSum_L7 n a0 a1 a2 h = some (r0, h')), sm_W l lo hi (d) q_st_smokeSum 7 [(0, .ref a0), (1, .int a1), (2, .int a2)] [] h (some (.int r0)) h' := by
  intro n
  induction n with
  | zero =>
    intro a0 a1 a2 h e0 hf
    have z : (none : Option (Int32 × sm_H)) = some _ := hf
    cases z
  | succ n ih =>
    intro a0 a1 a2 h e0 hf
    unfold f_st_smokeSum_L7 at hf
    refine sm_iload_n 2 rfl d_st_smokeSum_7 ?_
    refine sm_aload_n 0 rfl d_st_smokeSum_8 ?_
    obtain ⟨c3, hf⟩ := sm_gdE hf
    obtain ⟨z4, v5⟩ := sm_isP_at hS c3
    refine sm_getD fl_st_51 e0 rfl z4 d_st_smokeSum_9 ?_
    refine sm_nmR (fun p6 w7 => ?_)
    have hf := sm_letV w7 hf
    have v5 := sm_ev w7 v5
    refine sm_getI fl_st_118 v5 rfl d_st_smokeSum_12 ?_
    refine sm_icmp_ge 33 d_st_smokeSum_15 rfl (fun c8 => ?_) (fun c8 => ?_)
    · have hf := sm_ifT c8 hf
      refine sm_sub [1] rfl ?_
      exact w_st_smokeSum_L33 l lo hi d hS _ _ hf
    · have hf := sm_ifF c8 hf
      refine sm_iload_n 1 rfl d_st_smokeSum_18 ?_
      refine sm_aload_n 0 rfl d_st_smokeSum_19 ?_
      refine sm_getR (n := 1) fl_st_9 e0 rfl d_st_smokeSum_20 ?_
      refine sm_iload_n 2 rfl d_st_smokeSum_23 ?_
      obtain ⟨c9, hf⟩ := sm_gdE hf
      refine sm_iald (sm_at_arr (sm_inner e0 9 rfl rfl rfl)) c9 d_st_smokeSum_24 ?_
      refine sm_iadd d_st_smokeSum_25 ?_
      refine sm_nmI (fun x10 w11 => ?_)
      have hf := sm_letV w11 hf
      refine sm_istore_n (lv' := [(1, .int x10), (0, .ref a0), (2, .int a2)]) d_st_smokeSum_26 rfl rfl ?_
      obtain ⟨x12, w13⟩ : ∃ v : Int32, v = a2 + 1 := ⟨_, rfl⟩
      have hf := sm_letV w13 hf
      refine sm_iinc (v := x12) (lv' := [(2, .int x12), (1, .int x10), (0, .ref a0)]) 2 rfl (by rw [w13]; rfl) d_st_smokeSum_27 rfl rfl ?_
      refine sm_goto 7 d_st_smokeSum_30 rfl ?_
      refine sm_sub [2, 1, 0] rfl ?_
      exact ih _ _ _ _ e0 hf
theorem m_st_smokeSum (l : Launch) (lo hi d : Nat) (hS : sm_has lo hi) {a0 : Nat} {r0 : Int32} {h h' : sm_H} (e0 : sm_at lo hi (0, 7, 0) a0) (hf : f_st_smokeSum a0 h = some (r0, h')) : sm_Met l lo hi (d) q_st_smokeSum [.ref a0] h (some (.int r0)) h' := by
  refine sm_Met.of (by decide +kernel) rfl ?_
  show sm_W l lo hi (d) q_st_smokeSum 0 [(0, .ref a0)] [] h (some (.int r0)) h'
  unfold f_st_smokeSum at hf
  refine sm_aload_n 0 rfl d_st_smokeSum_0 ?_
  refine sm_getI fl_st_69 e0 rfl d_st_smokeSum_1 ?_
  refine sm_nmI (fun x1 w2 => ?_)
  have hf := sm_letV w2 hf
  refine sm_istore_n (lv' := [(1, .int x1), (0, .ref a0)]) d_st_smokeSum_4 rfl rfl ?_
  refine sm_iconst (v := 0) (by decide) d_st_smokeSum_5 ?_
  refine sm_istore_n (lv' := [(2, .int 0), (1, .int x1), (0, .ref a0)]) d_st_smokeSum_6 rfl rfl ?_
  refine sm_sub [2, 1, 0] rfl ?_
  exact w_st_smokeSum_L7 l lo hi d hS sm_N _ _ _ _ e0 hf
theorem d_sc_allSmokeAfter_0 : decode q_sc_allSmokeAfter.2.1 0 = .ok (.iload_n 1, 1) := by decide +kernel
theorem d_sc_allSmokeAfter_1 : decode q_sc_allSmokeAfter.2.1 1 = .ok (.invokestatic 305, 3) := by decide +kernel
theorem d_sc_allSmokeAfter_4 : decode q_sc_allSmokeAfter.2.1 4 = .ok (.ifCond .eq 6, 3) := by decide +kernel
theorem d_sc_allSmokeAfter_7 : decode q_sc_allSmokeAfter.2.1 7 = .ok (.bipush (-2), 2) := by decide +kernel
theorem d_sc_allSmokeAfter_9 : decode q_sc_allSmokeAfter.2.1 9 = .ok (.ireturn, 1) := by decide +kernel
theorem d_sc_allSmokeAfter_10 : decode q_sc_allSmokeAfter.2.1 10 = .ok (.aload_n 0, 1) := by decide +kernel
theorem d_sc_allSmokeAfter_11 : decode q_sc_allSmokeAfter.2.1 11 = .ok (.iload_n 1, 1) := by decide +kernel
theorem d_sc_allSmokeAfter_12 : decode q_sc_allSmokeAfter.2.1 12 = .ok (.invokevirtual 308, 3) := by decide +kernel
theorem d_sc_allSmokeAfter_15 : decode q_sc_allSmokeAfter.2.1 15 = .ok (.aload_n 0, 1) := by decide +kernel
theorem d_sc_allSmokeAfter_16 : decode q_sc_allSmokeAfter.2.1 16 = .ok (.getfield 28, 3) := by decide +kernel
theorem d_sc_allSmokeAfter_19 : decode q_sc_allSmokeAfter.2.1 19 = .ok (.invokevirtual 311, 3) := by decide +kernel
theorem d_sc_allSmokeAfter_22 : decode q_sc_allSmokeAfter.2.1 22 = .ok (.ireturn, 1) := by decide +kernel
theorem m_sc_allSmokeAfter (l : Launch) (lo hi d : Nat) (hS : sm_has lo hi) {a0 : Nat} {a1 : Int32} {r0 : Int32} {h h' : sm_H} (e0 : sm_at lo hi (0, 9, 0) a0) (hf : f_sc_allSmokeAfter a0 a1 h = some (r0, h')) : sm_Met l lo hi (d + 7) q_sc_allSmokeAfter [.ref a0, .int a1] h (some (.int r0)) h' := by
  refine sm_Met.of (by decide +kernel) rfl ?_
  show sm_W l lo hi (d + 7) q_sc_allSmokeAfter 0 [(0, .ref a0), (1, .int a1)] [] h (some (.int r0)) h'
  unfold f_sc_allSmokeAfter at hf
  refine sm_iload_n 1 rfl d_sc_allSmokeAfter_0 ?_
  obtain ⟨r1, g2, c3, hf⟩ := sm_b2E hf
  refine sm_callS (As := [.int a1]) (rv := some (.int r1)) (h1 := g2) cvs_sc_305 (m_sc_isNoTrial l lo hi _ c3) rfl rfl d_sc_allSmokeAfter_1 ?_
  refine sm_if_eq 10 d_sc_allSmokeAfter_4 rfl (fun c4 => ?_) (fun c4 => ?_)
  · have hf := sm_ifT c4 hf
    refine sm_aload_n 0 rfl d_sc_allSmokeAfter_10 ?_
    refine sm_iload_n 1 rfl d_sc_allSmokeAfter_11 ?_
    obtain ⟨g5, c6, hf⟩ := sm_bindE hf
    refine sm_callV (As := [.int a1]) (rv := none) (h1 := g5) (c := 9) cvv_sc_308 rfl rfl e0 (m_sc_tryTicks l lo hi _ hS e0 c6) rfl rfl d_sc_allSmokeAfter_12 ?_
    refine sm_aload_n 0 rfl d_sc_allSmokeAfter_15 ?_
    refine sm_getR (n := 53) fl_sc_28 e0 rfl d_sc_allSmokeAfter_16 ?_
    obtain ⟨r7, g8, c9, hf⟩ := sm_b2E hf
    refine sm_callV (As := []) (rv := some (.int r7)) (h1 := g8) (c := 7) cvv_sc_311 rfl rfl (sm_inner e0 2 rfl rfl rfl) (m_st_smokeSum l lo hi _ hS (sm_inner e0 2 rfl rfl rfl) c9) rfl rfl d_sc_allSmokeAfter_19 ?_
    obtain ⟨rfl, rfl⟩ := sm_ret2 hf
    exact sm_iret d_sc_allSmokeAfter_22 rfl
  · have hf := sm_ifF c4 hf
    refine sm_bipush (v := (-2)) (by decide) d_sc_allSmokeAfter_7 ?_
    obtain ⟨rfl, rfl⟩ := sm_ret2 hf
    exact sm_iret d_sc_allSmokeAfter_9 rfl
theorem d_sc_pressureAfter_0 : decode q_sc_pressureAfter.2.1 0 = .ok (.iload_n 1, 1) := by decide +kernel
theorem d_sc_pressureAfter_1 : decode q_sc_pressureAfter.2.1 1 = .ok (.invokestatic 305, 3) := by decide +kernel
theorem d_sc_pressureAfter_4 : decode q_sc_pressureAfter.2.1 4 = .ok (.ifCond .eq 6, 3) := by decide +kernel
theorem d_sc_pressureAfter_7 : decode q_sc_pressureAfter.2.1 7 = .ok (.bipush (-2), 2) := by decide +kernel
theorem d_sc_pressureAfter_9 : decode q_sc_pressureAfter.2.1 9 = .ok (.ireturn, 1) := by decide +kernel
theorem d_sc_pressureAfter_10 : decode q_sc_pressureAfter.2.1 10 = .ok (.aload_n 0, 1) := by decide +kernel
theorem d_sc_pressureAfter_11 : decode q_sc_pressureAfter.2.1 11 = .ok (.iload_n 1, 1) := by decide +kernel
theorem d_sc_pressureAfter_12 : decode q_sc_pressureAfter.2.1 12 = .ok (.invokevirtual 308, 3) := by decide +kernel
theorem d_sc_pressureAfter_15 : decode q_sc_pressureAfter.2.1 15 = .ok (.aload_n 0, 1) := by decide +kernel
theorem d_sc_pressureAfter_16 : decode q_sc_pressureAfter.2.1 16 = .ok (.getfield 28, 3) := by decide +kernel
theorem d_sc_pressureAfter_19 : decode q_sc_pressureAfter.2.1 19 = .ok (.getfield 211, 3) := by decide +kernel
theorem d_sc_pressureAfter_22 : decode q_sc_pressureAfter.2.1 22 = .ok (.ireturn, 1) := by decide +kernel
theorem m_sc_pressureAfter (l : Launch) (lo hi d : Nat) (hS : sm_has lo hi) {a0 : Nat} {a1 : Int32} {r0 : Int32} {h h' : sm_H} (e0 : sm_at lo hi (0, 9, 0) a0) (hf : f_sc_pressureAfter a0 a1 h = some (r0, h')) : sm_Met l lo hi (d + 7) q_sc_pressureAfter [.ref a0, .int a1] h (some (.int r0)) h' := by
  refine sm_Met.of (by decide +kernel) rfl ?_
  show sm_W l lo hi (d + 7) q_sc_pressureAfter 0 [(0, .ref a0), (1, .int a1)] [] h (some (.int r0)) h'
  unfold f_sc_pressureAfter at hf
  refine sm_iload_n 1 rfl d_sc_pressureAfter_0 ?_
  obtain ⟨r1, g2, c3, hf⟩ := sm_b2E hf
  refine sm_callS (As := [.int a1]) (rv := some (.int r1)) (h1 := g2) cvs_sc_305 (m_sc_isNoTrial l lo hi _ c3) rfl rfl d_sc_pressureAfter_1 ?_
  refine sm_if_eq 10 d_sc_pressureAfter_4 rfl (fun c4 => ?_) (fun c4 => ?_)
  · have hf := sm_ifT c4 hf
    refine sm_aload_n 0 rfl d_sc_pressureAfter_10 ?_
    refine sm_iload_n 1 rfl d_sc_pressureAfter_11 ?_
    obtain ⟨g5, c6, hf⟩ := sm_bindE hf
    refine sm_callV (As := [.int a1]) (rv := none) (h1 := g5) (c := 9) cvv_sc_308 rfl rfl e0 (m_sc_tryTicks l lo hi _ hS e0 c6) rfl rfl d_sc_pressureAfter_12 ?_
    refine sm_aload_n 0 rfl d_sc_pressureAfter_15 ?_
    refine sm_getR (n := 53) fl_sc_28 e0 rfl d_sc_pressureAfter_16 ?_
    refine sm_getI fl_sc_211 (sm_inner e0 2 rfl rfl rfl) rfl d_sc_pressureAfter_19 ?_
    obtain ⟨rfl, rfl⟩ := sm_ret2 hf
    exact sm_iret d_sc_pressureAfter_22 rfl
  · have hf := sm_ifF c4 hf
    refine sm_bipush (v := (-2)) (by decide) d_sc_pressureAfter_7 ?_
    obtain ⟨rfl, rfl⟩ := sm_ret2 hf
    exact sm_iret d_sc_pressureAfter_9 rfl
theorem d_st_thickestSmoke_0 : decode q_st_thickestSmoke.2.1 0 = .ok (.iconst 0, 1) := by decide +kernel
theorem d_st_thickestSmoke_1 : decode q_st_thickestSmoke.2.1 1 = .ok (.istore_n 1, 1) := by decide +kernel
theorem d_st_thickestSmoke_2 : decode q_st_thickestSmoke.2.1 2 = .ok (.iconst 0, 1) := by decide +kernel
theorem d_st_thickestSmoke_3 : decode q_st_thickestSmoke.2.1 3 = .ok (.istore_n 2, 1) := by decide +kernel
theorem d_st_thickestSmoke_4 : decode q_st_thickestSmoke.2.1 4 = .ok (.iload_n 2, 1) := by decide +kernel
theorem d_st_thickestSmoke_5 : decode q_st_thickestSmoke.2.1 5 = .ok (.aload_n 0, 1) := by decide +kernel
theorem d_st_thickestSmoke_6 : decode q_st_thickestSmoke.2.1 6 = .ok (.getfield 51, 3) := by decide +kernel
theorem d_st_thickestSmoke_9 : decode q_st_thickestSmoke.2.1 9 = .ok (.getfield 118, 3) := by decide +kernel
theorem d_st_thickestSmoke_12 : decode q_st_thickestSmoke.2.1 12 = .ok (.if_icmp .ge 20, 3) := by decide +kernel
theorem d_st_thickestSmoke_15 : decode q_st_thickestSmoke.2.1 15 = .ok (.iload_n 1, 1) := by decide +kernel
theorem d_st_thickestSmoke_16 : decode q_st_thickestSmoke.2.1 16 = .ok (.aload_n 0, 1) := by decide +kernel
theorem d_st_thickestSmoke_17 : decode q_st_thickestSmoke.2.1 17 = .ok (.getfield 9, 3) := by decide +kernel
theorem d_st_thickestSmoke_20 : decode q_st_thickestSmoke.2.1 20 = .ok (.iload_n 2, 1) := by decide +kernel
theorem d_st_thickestSmoke_21 : decode q_st_thickestSmoke.2.1 21 = .ok (.iaload, 1) := by decide +kernel
theorem d_st_thickestSmoke_22 : decode q_st_thickestSmoke.2.1 22 = .ok (.invokestatic 121, 3) := by decide +kernel
theorem d_st_thickestSmoke_25 : decode q_st_thickestSmoke.2.1 25 = .ok (.istore_n 1, 1) := by decide +kernel
theorem d_st_thickestSmoke_26 : decode q_st_thickestSmoke.2.1 26 = .ok (.iinc 2 1, 3) := by decide +kernel
theorem d_st_thickestSmoke_29 : decode q_st_thickestSmoke.2.1 29 = .ok (.goto (-25), 3) := by decide +kernel
theorem d_st_thickestSmoke_32 : decode q_st_thickestSmoke.2.1 32 = .ok (.iload_n 1, 1) := by decide +kernel
theorem d_st_thickestSmoke_33 : decode q_st_thickestSmoke.2.1 33 = .ok (.ireturn, 1) := by decide +kernel
theorem w_st_thickestSmoke_L32 (l : Launch) (lo hi d : Nat) (hS : sm_has lo hi) {h' : sm_H} {r0 : Int32} (a1 : Int32) (h : sm_H) (hf : f_st_thickestSmoke_L32 a1 h = some (r0, h')) : sm_W l lo hi (d + 1) q_st_thickestSmoke 32 [(1, .int a1)] [] h (some (.int r0)) h' := by
  unfold f_st_thickestSmoke_L32 at hf
  refine sm_iload_n 0 rfl d_st_thickestSmoke_32 ?_
  obtain ⟨rfl, rfl⟩ := sm_ret2 hf
  exact sm_iret d_st_thickestSmoke_33 rfl
theorem w_st_thickestSmoke_L4 (l : Launch) (lo hi d : Nat) (hS : sm_has lo hi) {h' : sm_H} {r0 : Int32} : ∀ (n : Nat) (a0 : Nat) (a1 : Int32) (a2 : Int32) (h : sm_H) (e0 : sm_at lo hi (0, 7, 0) a0) (hf : f_st_thickestSmoke_L4 n a0 a1 a2 h = some (r0, h')), sm_W l lo hi (d + 1) q_st_thickestSmoke 4 [(0, .ref a0), (1, .int a1), (2, .int a2)] [] h (some (.int r0)) h' := by
  intro n
  induction n with
  | zero =>
    intro a0 a1 a2 h e0 hf
    have z : (none : Option (Int32 × sm_H)) = some _ := hf
    cases z
  | succ n ih =>
    intro a0 a1 a2 h e0 hf
    unfold f_st_thickestSmoke_L4 at hf
    refine sm_iload_n 2 rfl d_st_thickestSmoke_4 ?_
    refine sm_aload_n 0 rfl d_st_thickestSmoke_5 ?_
    obtain ⟨c1, hf⟩ := sm_gdE hf
    obtain ⟨z2, v3⟩ := sm_isP_at hS c1
    refine sm_getD fl_st_51 e0 rfl z2 d_st_thickestSmoke_6 ?_
    refine sm_nmR (fun p4 w5 => ?_)
    have hf := sm_letV w5 hf
    have v3 := sm_ev w5 v3
    refine sm_getI fl_st_118 v3 rfl d_st_thickestSmoke_9 ?_
    refine sm_icmp_ge 32 d_st_thickestSmoke_12 rfl (fun c6 => ?_) (fun c6 => ?_)
    · have hf := sm_ifT c6 hf
      refine sm_sub [1] rfl ?_
      exact w_st_thickestSmoke_L32 l lo hi d hS _ _ hf
    · have hf := sm_ifF c6 hf
      refine sm_iload_n 1 rfl d_st_thickestSmoke_15 ?_
      refine sm_aload_n 0 rfl d_st_thickestSmoke_16 ?_
      refine sm_getR (n := 1) fl_st_9 e0 rfl d_st_thickestSmoke_17 ?_
      refine sm_iload_n 2 rfl d_st_thickestSmoke_20 ?_
      obtain ⟨c7, hf⟩ := sm_gdE hf
      refine sm_iald (sm_at_arr (sm_inner e0 9 rfl rfl rfl)) c7 d_st_thickestSmoke_21 ?_
      obtain ⟨r8, g9, c10, hf⟩ := sm_b2E hf
      refine sm_callS (As := [.int a1, .int (h (a0 + 1) (a2 : Int32).toNatClampNeg)]) (rv := some (.int r8)) (h1 := g9) cvs_st_121 (m_jm_max l lo hi _ c10) rfl rfl d_st_thickestSmoke_22 ?_
      refine sm_istore_n (lv' := [(1, .int r8), (0, .ref a0), (2, .int a2)]) d_st_thickestSmoke_25 rfl rfl ?_
      obtain ⟨x11, w12⟩ : ∃ v : Int32, v = a2 + 1 := ⟨_, rfl⟩
      have hf := sm_letV w12 hf
      refine sm_iinc (v := x11) (lv' := [(2, .int x11), (1, .int r8), (0, .ref a0)]) 2 rfl (by rw [w12]; rfl) d_st_thickestSmoke_26 rfl rfl ?_
      refine sm_goto 4 d_st_thickestSmoke_29 rfl ?_
      refine sm_sub [2, 1, 0] rfl ?_
      exact ih _ _ _ _ e0 hf
theorem m_st_thickestSmoke (l : Launch) (lo hi d : Nat) (hS : sm_has lo hi) {a0 : Nat} {r0 : Int32} {h h' : sm_H} (e0 : sm_at lo hi (0, 7, 0) a0) (hf : f_st_thickestSmoke a0 h = some (r0, h')) : sm_Met l lo hi (d + 1) q_st_thickestSmoke [.ref a0] h (some (.int r0)) h' := by
  refine sm_Met.of (by decide +kernel) rfl ?_
  show sm_W l lo hi (d + 1) q_st_thickestSmoke 0 [(0, .ref a0)] [] h (some (.int r0)) h'
  unfold f_st_thickestSmoke at hf
  refine sm_iconst (v := 0) (by decide) d_st_thickestSmoke_0 ?_
  refine sm_istore_n (lv' := [(1, .int 0), (0, .ref a0)]) d_st_thickestSmoke_1 rfl rfl ?_
  refine sm_iconst (v := 0) (by decide) d_st_thickestSmoke_2 ?_
  refine sm_istore_n (lv' := [(2, .int 0), (1, .int 0), (0, .ref a0)]) d_st_thickestSmoke_3 rfl rfl ?_
  refine sm_sub [2, 1, 0] rfl ?_
  exact w_st_thickestSmoke_L4 l lo hi d hS sm_N _ _ _ _ e0 hf
theorem d_sc_clearAfter_0 : decode q_sc_clearAfter.2.1 0 = .ok (.iload_n 1, 1) := by decide +kernel
theorem d_sc_clearAfter_1 : decode q_sc_clearAfter.2.1 1 = .ok (.iconst 1, 1) := by decide +kernel
theorem d_sc_clearAfter_2 : decode q_sc_clearAfter.2.1 2 = .ok (.if_icmp .lt 10, 3) := by decide +kernel
theorem d_sc_clearAfter_5 : decode q_sc_clearAfter.2.1 5 = .ok (.iload_n 1, 1) := by decide +kernel
theorem d_sc_clearAfter_6 : decode q_sc_clearAfter.2.1 6 = .ok (.sipush 1000, 3) := by decide +kernel
theorem d_sc_clearAfter_9 : decode q_sc_clearAfter.2.1 9 = .ok (.if_icmp .le 6, 3) := by decide +kernel
theorem d_sc_clearAfter_12 : decode q_sc_clearAfter.2.1 12 = .ok (.bipush (-2), 2) := by decide +kernel
theorem d_sc_clearAfter_14 : decode q_sc_clearAfter.2.1 14 = .ok (.ireturn, 1) := by decide +kernel
theorem d_sc_clearAfter_15 : decode q_sc_clearAfter.2.1 15 = .ok (.aload_n 0, 1) := by decide +kernel
theorem d_sc_clearAfter_16 : decode q_sc_clearAfter.2.1 16 = .ok (.getfield 28, 3) := by decide +kernel
theorem d_sc_clearAfter_19 : decode q_sc_clearAfter.2.1 19 = .ok (.aload_n 0, 1) := by decide +kernel
theorem d_sc_clearAfter_20 : decode q_sc_clearAfter.2.1 20 = .ok (.getfield 24, 3) := by decide +kernel
theorem d_sc_clearAfter_23 : decode q_sc_clearAfter.2.1 23 = .ok (.invokevirtual 314, 3) := by decide +kernel
theorem d_sc_clearAfter_26 : decode q_sc_clearAfter.2.1 26 = .ok (.iconst 0, 1) := by decide +kernel
theorem d_sc_clearAfter_27 : decode q_sc_clearAfter.2.1 27 = .ok (.istore_n 2, 1) := by decide +kernel
theorem d_sc_clearAfter_28 : decode q_sc_clearAfter.2.1 28 = .ok (.iload_n 2, 1) := by decide +kernel
theorem d_sc_clearAfter_29 : decode q_sc_clearAfter.2.1 29 = .ok (.sipush 200, 3) := by decide +kernel
theorem d_sc_clearAfter_32 : decode q_sc_clearAfter.2.1 32 = .ok (.if_icmp .gt 35, 3) := by decide +kernel
theorem d_sc_clearAfter_35 : decode q_sc_clearAfter.2.1 35 = .ok (.aload_n 0, 1) := by decide +kernel
theorem d_sc_clearAfter_36 : decode q_sc_clearAfter.2.1 36 = .ok (.getfield 28, 3) := by decide +kernel
theorem d_sc_clearAfter_39 : decode q_sc_clearAfter.2.1 39 = .ok (.invokevirtual 317, 3) := by decide +kernel
theorem d_sc_clearAfter_42 : decode q_sc_clearAfter.2.1 42 = .ok (.iload_n 1, 1) := by decide +kernel
theorem d_sc_clearAfter_43 : decode q_sc_clearAfter.2.1 43 = .ok (.if_icmp .ge 5, 3) := by decide +kernel
theorem d_sc_clearAfter_46 : decode q_sc_clearAfter.2.1 46 = .ok (.iload_n 2, 1) := by decide +kernel
theorem d_sc_clearAfter_47 : decode q_sc_clearAfter.2.1 47 = .ok (.ireturn, 1) := by decide +kernel
theorem d_sc_clearAfter_48 : decode q_sc_clearAfter.2.1 48 = .ok (.aload_n 0, 1) := by decide +kernel
theorem d_sc_clearAfter_49 : decode q_sc_clearAfter.2.1 49 = .ok (.getfield 38, 3) := by decide +kernel
theorem d_sc_clearAfter_52 : decode q_sc_clearAfter.2.1 52 = .ok (.aload_n 0, 1) := by decide +kernel
theorem d_sc_clearAfter_53 : decode q_sc_clearAfter.2.1 53 = .ok (.getfield 28, 3) := by decide +kernel
theorem d_sc_clearAfter_56 : decode q_sc_clearAfter.2.1 56 = .ok (.iconst 1, 1) := by decide +kernel
theorem d_sc_clearAfter_57 : decode q_sc_clearAfter.2.1 57 = .ok (.invokevirtual 179, 3) := by decide +kernel
theorem d_sc_clearAfter_60 : decode q_sc_clearAfter.2.1 60 = .ok (.pop, 1) := by decide +kernel
theorem d_sc_clearAfter_61 : decode q_sc_clearAfter.2.1 61 = .ok (.iinc 2 1, 3) := by decide +kernel
theorem d_sc_clearAfter_64 : decode q_sc_clearAfter.2.1 64 = .ok (.goto (-36), 3) := by decide +kernel
theorem d_sc_clearAfter_67 : decode q_sc_clearAfter.2.1 67 = .ok (.bipush (-4), 2) := by decide +kernel
theorem d_sc_clearAfter_69 : decode q_sc_clearAfter.2.1 69 = .ok (.ireturn, 1) := by decide +kernel
theorem w_sc_clearAfter_L12 (l : Launch) (lo hi d : Nat) (hS : sm_has lo hi) {h' : sm_H} {r0 : Int32} (h : sm_H) (hf : f_sc_clearAfter_L12 h = some (r0, h')) : sm_W l lo hi (d + 6) q_sc_clearAfter 12 [] [] h (some (.int r0)) h' := by
  unfold f_sc_clearAfter_L12 at hf
  refine sm_bipush (v := (-2)) (by decide) d_sc_clearAfter_12 ?_
  obtain ⟨rfl, rfl⟩ := sm_ret2 hf
  exact sm_iret d_sc_clearAfter_14 rfl
theorem w_sc_clearAfter_L67 (l : Launch) (lo hi d : Nat) (hS : sm_has lo hi) {h' : sm_H} {r0 : Int32} (h : sm_H) (hf : f_sc_clearAfter_L67 h = some (r0, h')) : sm_W l lo hi (d + 6) q_sc_clearAfter 67 [] [] h (some (.int r0)) h' := by
  unfold f_sc_clearAfter_L67 at hf
  refine sm_bipush (v := (-4)) (by decide) d_sc_clearAfter_67 ?_
  obtain ⟨rfl, rfl⟩ := sm_ret2 hf
  exact sm_iret d_sc_clearAfter_69 rfl
theorem w_sc_clearAfter_L46 (l : Launch) (lo hi d : Nat) (hS : sm_has lo hi) {h' : sm_H} {r0 : Int32} (a2 : Int32) (h : sm_H) (hf : f_sc_clearAfter_L46 a2 h = some (r0, h')) : sm_W l lo hi (d + 6) q_sc_clearAfter 46 [(2, .int a2)] [] h (some (.int r0)) h' := by
  unfold f_sc_clearAfter_L46 at hf
  refine sm_iload_n 0 rfl d_sc_clearAfter_46 ?_
  obtain ⟨rfl, rfl⟩ := sm_ret2 hf
  exact sm_iret d_sc_clearAfter_47 rfl
theorem w_sc_clearAfter_L28 (l : Launch) (lo hi d : Nat) (hS : sm_has lo hi) {h' : sm_H} {r0 : Int32} : ∀ (n : Nat) (a0 : Nat) (a1 : Int32) (a2 : Int32) (h : sm_H) (e0 : sm_at lo hi (0, 9, 0) a0) (hf : f_sc_clearAfter_L28 n a0 a1 a2 h = some (r0, h')), sm_W l lo hi (d + 6) q_sc_clearAfter 28 [(0, .ref a0), (1, .int a1), (2, .int a2)] [] h (some (.int r0)) h' := by
  intro n
  induction n with
  | zero =>
    intro a0 a1 a2 h e0 hf
    have z : (none : Option (Int32 × sm_H)) = some _ := hf
    cases z
  | succ n ih =>
    intro a0 a1 a2 h e0 hf
    unfold f_sc_clearAfter_L28 at hf
    refine sm_iload_n 2 rfl d_sc_clearAfter_28 ?_
    refine sm_sipush (v := 200) (by decide) d_sc_clearAfter_29 ?_
    refine sm_icmp_gt 67 d_sc_clearAfter_32 rfl (fun c5 => ?_) (fun c5 => ?_)
    · have hf := sm_ifT c5 hf
      refine sm_sub [] rfl ?_
      exact w_sc_clearAfter_L67 l lo hi d hS _ hf
    · have hf := sm_ifF c5 hf
      refine sm_aload_n 0 rfl d_sc_clearAfter_35 ?_
      refine sm_getR (n := 53) fl_sc_28 e0 rfl d_sc_clearAfter_36 ?_
      obtain ⟨r6, g7, c8, hf⟩ := sm_b2E hf
      refine sm_callV (As := []) (rv := some (.int r6)) (h1 := g7) (c := 7) cvv_sc_317 rfl rfl (sm_inner e0 2 rfl rfl rfl) (m_st_thickestSmoke l lo hi _ hS (sm_inner e0 2 rfl rfl rfl) c8) rfl rfl d_sc_clearAfter_39 ?_
      refine sm_iload_n 1 rfl d_sc_clearAfter_42 ?_
      refine sm_icmp_ge 48 d_sc_clearAfter_43 rfl (fun c9 => ?_) (fun c9 => ?_)
      · have hf := sm_ifT c9 hf
        refine sm_aload_n 0 rfl d_sc_clearAfter_48 ?_
        refine sm_getR (n := 106) fl_sc_38 e0 rfl d_sc_clearAfter_49 ?_
        refine sm_aload_n 0 rfl d_sc_clearAfter_52 ?_
        refine sm_getR (n := 53) fl_sc_28 e0 rfl d_sc_clearAfter_53 ?_
        refine sm_iconst (v := 1) (by decide) d_sc_clearAfter_56 ?_
        obtain ⟨r10, g11, c12, hf⟩ := sm_b2E hf
        refine sm_callV (As := [.ref (a0 + 53), .int 1]) (rv := some (.int r10)) (h1 := g11) (c := 2) cvv_sc_179 rfl rfl (sm_inner e0 5 rfl rfl rfl) (m_en_pass l lo hi _ hS (sm_inner e0 5 rfl rfl rfl) (sm_inner e0 2 rfl rfl rfl) c12) rfl rfl d_sc_clearAfter_57 ?_
        refine sm_pop rfl d_sc_clearAfter_60 ?_
        obtain ⟨x13, w14⟩ : ∃ v : Int32, v = a2 + 1 := ⟨_, rfl⟩
        have hf := sm_letV w14 hf
        refine sm_iinc (v := x13) (lv' := [(2, .int x13), (0, .ref a0), (1, .int a1)]) 2 rfl (by rw [w14]; rfl) d_sc_clearAfter_61 rfl rfl ?_
        refine sm_goto 28 d_sc_clearAfter_64 rfl ?_
        refine sm_sub [1, 2, 0] rfl ?_
        exact ih _ _ _ _ e0 hf
      · have hf := sm_ifF c9 hf
        refine sm_sub [2] rfl ?_
        exact w_sc_clearAfter_L46 l lo hi d hS _ _ hf
theorem m_sc_clearAfter (l : Launch) (lo hi d : Nat) (hS : sm_has lo hi) {a0 : Nat} {a1 : Int32} {r0 : Int32} {h h' : sm_H} (e0 : sm_at lo hi (0, 9, 0) a0) (hf : f_sc_clearAfter a0 a1 h = some (r0, h')) : sm_Met l lo hi (d + 6) q_sc_clearAfter [.ref a0, .int a1] h (some (.int r0)) h' := by
  refine sm_Met.of (by decide +kernel) rfl ?_
  show sm_W l lo hi (d + 6) q_sc_clearAfter 0 [(0, .ref a0), (1, .int a1)] [] h (some (.int r0)) h'
  unfold f_sc_clearAfter at hf
  refine sm_iload_n 1 rfl d_sc_clearAfter_0 ?_
  refine sm_iconst (v := 1) (by decide) d_sc_clearAfter_1 ?_
  refine sm_icmp_lt 12 d_sc_clearAfter_2 rfl (fun c1 => ?_) (fun c1 => ?_)
  · have hf := sm_ifT c1 hf
    refine sm_sub [] rfl ?_
    exact w_sc_clearAfter_L12 l lo hi d hS _ hf
  · have hf := sm_ifF c1 hf
    refine sm_iload_n 1 rfl d_sc_clearAfter_5 ?_
    refine sm_sipush (v := 1000) (by decide) d_sc_clearAfter_6 ?_
    refine sm_icmp_le 15 d_sc_clearAfter_9 rfl (fun c2 => ?_) (fun c2 => ?_)
    · have hf := sm_ifT c2 hf
      refine sm_aload_n 0 rfl d_sc_clearAfter_15 ?_
      refine sm_getR (n := 53) fl_sc_28 e0 rfl d_sc_clearAfter_16 ?_
      refine sm_aload_n 0 rfl d_sc_clearAfter_19 ?_
      refine sm_getR (n := 40) fl_sc_24 e0 rfl d_sc_clearAfter_20 ?_
      obtain ⟨g3, c4, hf⟩ := sm_bindE hf
      refine sm_callV (As := [.ref (a0 + 40)]) (rv := none) (h1 := g3) (c := 7) cvv_sc_314 rfl rfl (sm_inner e0 2 rfl rfl rfl) (m_st_copyFrom l lo hi _ hS (sm_inner e0 2 rfl rfl rfl) (sm_inner e0 1 rfl rfl rfl) c4) rfl rfl d_sc_clearAfter_23 ?_
      refine sm_iconst (v := 0) (by decide) d_sc_clearAfter_26 ?_
      refine sm_istore_n (lv' := [(2, .int 0), (0, .ref a0), (1, .int a1)]) d_sc_clearAfter_27 rfl rfl ?_
      refine sm_sub [1, 2, 0] rfl ?_
      exact w_sc_clearAfter_L28 l lo hi d hS sm_N _ _ _ _ e0 hf
    · have hf := sm_ifF c2 hf
      refine sm_sub [] rfl ?_
      exact w_sc_clearAfter_L12 l lo hi d hS _ hf
theorem d_sc_smokeWithSwitch_0 : decode q_sc_smokeWithSwitch.2.1 0 = .ok (.aload_n 0, 1) := by decide +kernel
theorem d_sc_smokeWithSwitch_1 : decode q_sc_smokeWithSwitch.2.1 1 = .ok (.getfield 28, 3) := by decide +kernel
theorem d_sc_smokeWithSwitch_4 : decode q_sc_smokeWithSwitch.2.1 4 = .ok (.aload_n 0, 1) := by decide +kernel
theorem d_sc_smokeWithSwitch_5 : decode q_sc_smokeWithSwitch.2.1 5 = .ok (.getfield 24, 3) := by decide +kernel
theorem d_sc_smokeWithSwitch_8 : decode q_sc_smokeWithSwitch.2.1 8 = .ok (.invokevirtual 314, 3) := by decide +kernel
theorem d_sc_smokeWithSwitch_11 : decode q_sc_smokeWithSwitch.2.1 11 = .ok (.aload_n 0, 1) := by decide +kernel
theorem d_sc_smokeWithSwitch_12 : decode q_sc_smokeWithSwitch.2.1 12 = .ok (.getfield 28, 3) := by decide +kernel
theorem d_sc_smokeWithSwitch_15 : decode q_sc_smokeWithSwitch.2.1 15 = .ok (.iconst 1, 1) := by decide +kernel
theorem d_sc_smokeWithSwitch_16 : decode q_sc_smokeWithSwitch.2.1 16 = .ok (.putfield 153, 3) := by decide +kernel
theorem d_sc_smokeWithSwitch_19 : decode q_sc_smokeWithSwitch.2.1 19 = .ok (.iload_n 2, 1) := by decide +kernel
theorem d_sc_smokeWithSwitch_20 : decode q_sc_smokeWithSwitch.2.1 20 = .ok (.ifCond .eq 13, 3) := by decide +kernel
theorem d_sc_smokeWithSwitch_23 : decode q_sc_smokeWithSwitch.2.1 23 = .ok (.aload_n 0, 1) := by decide +kernel
theorem d_sc_smokeWithSwitch_24 : decode q_sc_smokeWithSwitch.2.1 24 = .ok (.getfield 28, 3) := by decide +kernel
theorem d_sc_smokeWithSwitch_27 : decode q_sc_smokeWithSwitch.2.1 27 = .ok (.getfield 170, 3) := by decide +kernel
theorem d_sc_smokeWithSwitch_30 : decode q_sc_smokeWithSwitch.2.1 30 = .ok (.iload_n 1, 1) := by decide +kernel
theorem d_sc_smokeWithSwitch_31 : decode q_sc_smokeWithSwitch.2.1 31 = .ok (.iload_n 2, 1) := by decide +kernel
theorem d_sc_smokeWithSwitch_32 : decode q_sc_smokeWithSwitch.2.1 32 = .ok (.iastore, 1) := by decide +kernel
theorem d_sc_smokeWithSwitch_33 : decode q_sc_smokeWithSwitch.2.1 33 = .ok (.aload_n 0, 1) := by decide +kernel
theorem d_sc_smokeWithSwitch_34 : decode q_sc_smokeWithSwitch.2.1 34 = .ok (.getfield 38, 3) := by decide +kernel
theorem d_sc_smokeWithSwitch_37 : decode q_sc_smokeWithSwitch.2.1 37 = .ok (.aload_n 0, 1) := by decide +kernel
theorem d_sc_smokeWithSwitch_38 : decode q_sc_smokeWithSwitch.2.1 38 = .ok (.getfield 28, 3) := by decide +kernel
theorem d_sc_smokeWithSwitch_41 : decode q_sc_smokeWithSwitch.2.1 41 = .ok (.iload_n 3, 1) := by decide +kernel
theorem d_sc_smokeWithSwitch_42 : decode q_sc_smokeWithSwitch.2.1 42 = .ok (.invokevirtual 179, 3) := by decide +kernel
theorem d_sc_smokeWithSwitch_45 : decode q_sc_smokeWithSwitch.2.1 45 = .ok (.pop, 1) := by decide +kernel
theorem d_sc_smokeWithSwitch_46 : decode q_sc_smokeWithSwitch.2.1 46 = .ok (.aload_n 0, 1) := by decide +kernel
theorem d_sc_smokeWithSwitch_47 : decode q_sc_smokeWithSwitch.2.1 47 = .ok (.getfield 28, 3) := by decide +kernel
theorem d_sc_smokeWithSwitch_50 : decode q_sc_smokeWithSwitch.2.1 50 = .ok (.invokevirtual 311, 3) := by decide +kernel
theorem d_sc_smokeWithSwitch_53 : decode q_sc_smokeWithSwitch.2.1 53 = .ok (.ireturn, 1) := by decide +kernel
theorem w_sc_smokeWithSwitch_L33 (l : Launch) (lo hi d : Nat) (hS : sm_has lo hi) {h' : sm_H} {r0 : Int32} (a0 : Nat) (a3 : Int32) (h : sm_H) (e0 : sm_at lo hi (0, 9, 0) a0) (hf : f_sc_smokeWithSwitch_L33 a0 a3 h = some (r0, h')) : sm_W l lo hi (d + 6) q_sc_smokeWithSwitch 33 [(0, .ref a0), (3, .int a3)] [] h (some (.int r0)) h' := by
  unfold f_sc_smokeWithSwitch_L33 at hf
  refine sm_aload_n 0 rfl d_sc_smokeWithSwitch_33 ?_
  refine sm_getR (n := 106) fl_sc_38 e0 rfl d_sc_smokeWithSwitch_34 ?_
  refine sm_aload_n 0 rfl d_sc_smokeWithSwitch_37 ?_
  refine sm_getR (n := 53) fl_sc_28 e0 rfl d_sc_smokeWithSwitch_38 ?_
  refine sm_iload_n 1 rfl d_sc_smokeWithSwitch_41 ?_
  obtain ⟨r9, g10, c11, hf⟩ := sm_b2E hf
  refine sm_callV (As := [.ref (a0 + 53), .int a3]) (rv := some (.int r9)) (h1 := g10) (c := 2) cvv_sc_179 rfl rfl (sm_inner e0 5 rfl rfl rfl) (m_en_pass l lo hi _ hS (sm_inner e0 5 rfl rfl rfl) (sm_inner e0 2 rfl rfl rfl) c11) rfl rfl d_sc_smokeWithSwitch_42 ?_
  refine sm_pop rfl d_sc_smokeWithSwitch_45 ?_
  refine sm_aload_n 0 rfl d_sc_smokeWithSwitch_46 ?_
  refine sm_getR (n := 53) fl_sc_28 e0 rfl d_sc_smokeWithSwitch_47 ?_
  obtain ⟨r12, g13, c14, hf⟩ := sm_b2E hf
  refine sm_callV (As := []) (rv := some (.int r12)) (h1 := g13) (c := 7) cvv_sc_311 rfl rfl (sm_inner e0 2 rfl rfl rfl) (m_st_smokeSum l lo hi _ hS (sm_inner e0 2 rfl rfl rfl) c14) rfl rfl d_sc_smokeWithSwitch_50 ?_
  obtain ⟨rfl, rfl⟩ := sm_ret2 hf
  exact sm_iret d_sc_smokeWithSwitch_53 rfl
theorem m_sc_smokeWithSwitch (l : Launch) (lo hi d : Nat) (hS : sm_has lo hi) {a0 : Nat} {a1 : Int32} {a2 : Int32} {a3 : Int32} {r0 : Int32} {h h' : sm_H} (e0 : sm_at lo hi (0, 9, 0) a0) (hf : f_sc_smokeWithSwitch a0 a1 a2 a3 h = some (r0, h')) : sm_Met l lo hi (d + 6) q_sc_smokeWithSwitch [.ref a0, .int a1, .int a2, .int a3] h (some (.int r0)) h' := by
  refine sm_Met.of (by decide +kernel) rfl ?_
  show sm_W l lo hi (d + 6) q_sc_smokeWithSwitch 0 [(0, .ref a0), (1, .int a1), (2, .int a2), (3, .int a3)] [] h (some (.int r0)) h'
  unfold f_sc_smokeWithSwitch at hf
  refine sm_aload_n 0 rfl d_sc_smokeWithSwitch_0 ?_
  refine sm_getR (n := 53) fl_sc_28 e0 rfl d_sc_smokeWithSwitch_1 ?_
  refine sm_aload_n 0 rfl d_sc_smokeWithSwitch_4 ?_
  refine sm_getR (n := 40) fl_sc_24 e0 rfl d_sc_smokeWithSwitch_5 ?_
  obtain ⟨g1, c2, hf⟩ := sm_bindE hf
  refine sm_callV (As := [.ref (a0 + 40)]) (rv := none) (h1 := g1) (c := 7) cvv_sc_314 rfl rfl (sm_inner e0 2 rfl rfl rfl) (m_st_copyFrom l lo hi _ hS (sm_inner e0 2 rfl rfl rfl) (sm_inner e0 1 rfl rfl rfl) c2) rfl rfl d_sc_smokeWithSwitch_8 ?_
  refine sm_aload_n 0 rfl d_sc_smokeWithSwitch_11 ?_
  refine sm_getR (n := 53) fl_sc_28 e0 rfl d_sc_smokeWithSwitch_12 ?_
  refine sm_iconst (v := 1) (by decide) d_sc_smokeWithSwitch_15 ?_
  refine sm_putZ fp_sc_153 (sm_inner e0 2 rfl rfl rfl) rfl rfl (by decide) d_sc_smokeWithSwitch_16 ?_
  refine sm_nmH (fun g3 w4 => ?_)
  have hf := sm_letV w4 hf
  refine sm_iload_n 2 rfl d_sc_smokeWithSwitch_19 ?_
  refine sm_if_eq 33 d_sc_smokeWithSwitch_20 rfl (fun c5 => ?_) (fun c5 => ?_)
  · have hf := sm_ifT c5 hf
    refine sm_sub [0, 3] rfl ?_
    exact w_sc_smokeWithSwitch_L33 l lo hi d hS _ _ _ e0 hf
  · have hf := sm_ifF c5 hf
    refine sm_aload_n 0 rfl d_sc_smokeWithSwitch_23 ?_
    refine sm_getR (n := 53) fl_sc_28 e0 rfl d_sc_smokeWithSwitch_24 ?_
    refine sm_getR (n := 4) fl_sc_170 (sm_inner e0 2 rfl rfl rfl) rfl d_sc_smokeWithSwitch_27 ?_
    refine sm_iload_n 1 rfl d_sc_smokeWithSwitch_30 ?_
    refine sm_iload_n 2 rfl d_sc_smokeWithSwitch_31 ?_
    obtain ⟨c6, hf⟩ := sm_gdE hf
    refine sm_iast (sm_at_arr (sm_inner (sm_inner e0 2 rfl rfl rfl) 12 rfl rfl rfl)) c6 d_sc_smokeWithSwitch_32 ?_
    refine sm_nmH (fun g7 w8 => ?_)
    have hf := sm_letV w8 hf
    refine sm_sub [0, 3] rfl ?_
    exact w_sc_smokeWithSwitch_L33 l lo hi d hS _ _ _ e0 hf
theorem d_sc_bestSwitch_0 : decode q_sc_bestSwitch.2.1 0 = .ok (.iload_n 1, 1) := by decide +kernel
theorem d_sc_bestSwitch_1 : decode q_sc_bestSwitch.2.1 1 = .ok (.iconst 1, 1) := by decide +kernel
theorem d_sc_bestSwitch_2 : decode q_sc_bestSwitch.2.1 2 = .ok (.if_icmp .lt 9, 3) := by decide +kernel
theorem d_sc_bestSwitch_5 : decode q_sc_bestSwitch.2.1 5 = .ok (.iload_n 1, 1) := by decide +kernel
theorem d_sc_bestSwitch_6 : decode q_sc_bestSwitch.2.1 6 = .ok (.bipush 60, 2) := by decide +kernel
theorem d_sc_bestSwitch_8 : decode q_sc_bestSwitch.2.1 8 = .ok (.if_icmp .le 6, 3) := by decide +kernel
theorem d_sc_bestSwitch_11 : decode q_sc_bestSwitch.2.1 11 = .ok (.bipush (-2), 2) := by decide +kernel
theorem d_sc_bestSwitch_13 : decode q_sc_bestSwitch.2.1 13 = .ok (.ireturn, 1) := by decide +kernel
theorem d_sc_bestSwitch_14 : decode q_sc_bestSwitch.2.1 14 = .ok (.iconst 0, 1) := by decide +kernel
theorem d_sc_bestSwitch_15 : decode q_sc_bestSwitch.2.1 15 = .ok (.istore_n 2, 1) := by decide +kernel
theorem d_sc_bestSwitch_16 : decode q_sc_bestSwitch.2.1 16 = .ok (.aload_n 0, 1) := by decide +kernel
theorem d_sc_bestSwitch_17 : decode q_sc_bestSwitch.2.1 17 = .ok (.iconst 0, 1) := by decide +kernel
theorem d_sc_bestSwitch_18 : decode q_sc_bestSwitch.2.1 18 = .ok (.iconst 0, 1) := by decide +kernel
theorem d_sc_bestSwitch_19 : decode q_sc_bestSwitch.2.1 19 = .ok (.iload_n 1, 1) := by decide +kernel
theorem d_sc_bestSwitch_20 : decode q_sc_bestSwitch.2.1 20 = .ok (.invokevirtual 320, 3) := by decide +kernel
theorem d_sc_bestSwitch_23 : decode q_sc_bestSwitch.2.1 23 = .ok (.istore_n 3, 1) := by decide +kernel
theorem d_sc_bestSwitch_24 : decode q_sc_bestSwitch.2.1 24 = .ok (.aload_n 0, 1) := by decide +kernel
theorem d_sc_bestSwitch_25 : decode q_sc_bestSwitch.2.1 25 = .ok (.getfield 24, 3) := by decide +kernel
theorem d_sc_bestSwitch_28 : decode q_sc_bestSwitch.2.1 28 = .ok (.getfield 70, 3) := by decide +kernel
theorem d_sc_bestSwitch_31 : decode q_sc_bestSwitch.2.1 31 = .ok (.getfield 86, 3) := by decide +kernel
theorem d_sc_bestSwitch_34 : decode q_sc_bestSwitch.2.1 34 = .ok (.istore 4, 2) := by decide +kernel
theorem d_sc_bestSwitch_36 : decode q_sc_bestSwitch.2.1 36 = .ok (.iconst 0, 1) := by decide +kernel
theorem d_sc_bestSwitch_37 : decode q_sc_bestSwitch.2.1 37 = .ok (.istore 5, 2) := by decide +kernel
theorem d_sc_bestSwitch_39 : decode q_sc_bestSwitch.2.1 39 = .ok (.iload 5, 2) := by decide +kernel
theorem d_sc_bestSwitch_41 : decode q_sc_bestSwitch.2.1 41 = .ok (.iload 4, 2) := by decide +kernel
theorem d_sc_bestSwitch_43 : decode q_sc_bestSwitch.2.1 43 = .ok (.aload_n 0, 1) := by decide +kernel
theorem d_sc_bestSwitch_44 : decode q_sc_bestSwitch.2.1 44 = .ok (.getfield 24, 3) := by decide +kernel
theorem d_sc_bestSwitch_47 : decode q_sc_bestSwitch.2.1 47 = .ok (.getfield 70, 3) := by decide +kernel
theorem d_sc_bestSwitch_50 : decode q_sc_bestSwitch.2.1 50 = .ok (.getfield 89, 3) := by decide +kernel
theorem d_sc_bestSwitch_53 : decode q_sc_bestSwitch.2.1 53 = .ok (.iadd, 1) := by decide +kernel
theorem d_sc_bestSwitch_54 : decode q_sc_bestSwitch.2.1 54 = .ok (.if_icmp .ge 77, 3) := by decide +kernel
theorem d_sc_bestSwitch_57 : decode q_sc_bestSwitch.2.1 57 = .ok (.iload 5, 2) := by decide +kernel
theorem d_sc_bestSwitch_59 : decode q_sc_bestSwitch.2.1 59 = .ok (.iload 4, 2) := by decide +kernel
theorem d_sc_bestSwitch_61 : decode q_sc_bestSwitch.2.1 61 = .ok (.if_icmp .ge 8, 3) := by decide +kernel
theorem d_sc_bestSwitch_64 : decode q_sc_bestSwitch.2.1 64 = .ok (.iload 5, 2) := by decide +kernel
theorem d_sc_bestSwitch_66 : decode q_sc_bestSwitch.2.1 66 = .ok (.goto 11, 3) := by decide +kernel
theorem d_sc_bestSwitch_69 : decode q_sc_bestSwitch.2.1 69 = .ok (.bipush 16, 2) := by decide +kernel
theorem d_sc_bestSwitch_71 : decode q_sc_bestSwitch.2.1 71 = .ok (.iload 5, 2) := by decide +kernel
theorem d_sc_bestSwitch_73 : decode q_sc_bestSwitch.2.1 73 = .ok (.iadd, 1) := by decide +kernel
theorem d_sc_bestSwitch_74 : decode q_sc_bestSwitch.2.1 74 = .ok (.iload 4, 2) := by decide +kernel
theorem d_sc_bestSwitch_76 : decode q_sc_bestSwitch.2.1 76 = .ok (.isub, 1) := by decide +kernel
theorem d_sc_bestSwitch_77 : decode q_sc_bestSwitch.2.1 77 = .ok (.istore 6, 2) := by decide +kernel
theorem d_sc_bestSwitch_79 : decode q_sc_bestSwitch.2.1 79 = .ok (.iconst 1, 1) := by decide +kernel
theorem d_sc_bestSwitch_80 : decode q_sc_bestSwitch.2.1 80 = .ok (.istore 7, 2) := by decide +kernel
theorem d_sc_bestSwitch_82 : decode q_sc_bestSwitch.2.1 82 = .ok (.iload 7, 2) := by decide +kernel
theorem d_sc_bestSwitch_84 : decode q_sc_bestSwitch.2.1 84 = .ok (.iconst 2, 1) := by decide +kernel
theorem d_sc_bestSwitch_85 : decode q_sc_bestSwitch.2.1 85 = .ok (.if_icmp .gt 40, 3) := by decide +kernel
theorem d_sc_bestSwitch_88 : decode q_sc_bestSwitch.2.1 88 = .ok (.aload_n 0, 1) := by decide +kernel
theorem d_sc_bestSwitch_89 : decode q_sc_bestSwitch.2.1 89 = .ok (.iload 6, 2) := by decide +kernel
theorem d_sc_bestSwitch_91 : decode q_sc_bestSwitch.2.1 91 = .ok (.iload 7, 2) := by decide +kernel
theorem d_sc_bestSwitch_93 : decode q_sc_bestSwitch.2.1 93 = .ok (.iload_n 1, 1) := by decide +kernel
theorem d_sc_bestSwitch_94 : decode q_sc_bestSwitch.2.1 94 = .ok (.invokevirtual 320, 3) := by decide +kernel
theorem d_sc_bestSwitch_97 : decode q_sc_bestSwitch.2.1 97 = .ok (.istore 8, 2) := by decide +kernel
theorem d_sc_bestSwitch_99 : decode q_sc_bestSwitch.2.1 99 = .ok (.iload 8, 2) := by decide +kernel
theorem d_sc_bestSwitch_101 : decode q_sc_bestSwitch.2.1 101 = .ok (.iload_n 3, 1) := by decide +kernel
theorem d_sc_bestSwitch_102 : decode q_sc_bestSwitch.2.1 102 = .ok (.if_icmp .ge 17, 3) := by decide +kernel
theorem d_sc_bestSwitch_105 : decode q_sc_bestSwitch.2.1 105 = .ok (.iload 8, 2) := by decide +kernel
theorem d_sc_bestSwitch_107 : decode q_sc_bestSwitch.2.1 107 = .ok (.istore_n 3, 1) := by decide +kernel
theorem d_sc_bestSwitch_108 : decode q_sc_bestSwitch.2.1 108 = .ok (.bipush 10, 2) := by decide +kernel
theorem d_sc_bestSwitch_110 : decode q_sc_bestSwitch.2.1 110 = .ok (.iconst 1, 1) := by decide +kernel
theorem d_sc_bestSwitch_111 : decode q_sc_bestSwitch.2.1 111 = .ok (.iload 5, 2) := by decide +kernel
theorem d_sc_bestSwitch_113 : decode q_sc_bestSwitch.2.1 113 = .ok (.iadd, 1) := by decide +kernel
theorem d_sc_bestSwitch_114 : decode q_sc_bestSwitch.2.1 114 = .ok (.imul, 1) := by decide +kernel
theorem d_sc_bestSwitch_115 : decode q_sc_bestSwitch.2.1 115 = .ok (.iload 7, 2) := by decide +kernel
theorem d_sc_bestSwitch_117 : decode q_sc_bestSwitch.2.1 117 = .ok (.iadd, 1) := by decide +kernel
theorem d_sc_bestSwitch_118 : decode q_sc_bestSwitch.2.1 118 = .ok (.istore_n 2, 1) := by decide +kernel
theorem d_sc_bestSwitch_119 : decode q_sc_bestSwitch.2.1 119 = .ok (.iinc 7 1, 3) := by decide +kernel
theorem d_sc_bestSwitch_122 : decode q_sc_bestSwitch.2.1 122 = .ok (.goto (-40), 3) := by decide +kernel
theorem d_sc_bestSwitch_125 : decode q_sc_bestSwitch.2.1 125 = .ok (.iinc 5 1, 3) := by decide +kernel
theorem d_sc_bestSwitch_128 : decode q_sc_bestSwitch.2.1 128 = .ok (.goto (-89), 3) := by decide +kernel
theorem d_sc_bestSwitch_131 : decode q_sc_bestSwitch.2.1 131 = .ok (.iload_n 2, 1) := by decide +kernel
theorem d_sc_bestSwitch_132 : decode q_sc_bestSwitch.2.1 132 = .ok (.ireturn, 1) := by decide +kernel
theorem w_sc_bestSwitch_L11 (l : Launch) (lo hi d : Nat) (hS : sm_has lo hi) {h' : sm_H} {r0 : Int32} (h : sm_H) (hf : f_sc_bestSwitch_L11 h = some (r0, h')) : sm_W l lo hi (d + 7) q_sc_bestSwitch 11 [] [] h (some (.int r0)) h' := by
  unfold f_sc_bestSwitch_L11 at hf
  refine sm_bipush (v := (-2)) (by decide) d_sc_bestSwitch_11 ?_
  obtain ⟨rfl, rfl⟩ := sm_ret2 hf
  exact sm_iret d_sc_bestSwitch_13 rfl
theorem w_sc_bestSwitch_L131 (l : Launch) (lo hi d : Nat) (hS : sm_has lo hi) {h' : sm_H} {r0 : Int32} (a2 : Int32) (h : sm_H) (hf : f_sc_bestSwitch_L131 a2 h = some (r0, h')) : sm_W l lo hi (d + 7) q_sc_bestSwitch 131 [(2, .int a2)] [] h (some (.int r0)) h' := by
  unfold f_sc_bestSwitch_L131 at hf
  refine sm_iload_n 0 rfl d_sc_bestSwitch_131 ?_
  obtain ⟨rfl, rfl⟩ := sm_ret2 hf
  exact sm_iret d_sc_bestSwitch_132 rfl
theorem w_sc_bestSwitch_L125 (l : Launch) (lo hi d : Nat) (hS : sm_has lo hi) {k39 : Nat → Int32 → Int32 → Int32 → Int32 → Int32 → sm_H → Option (Int32 × sm_H)} {h' : sm_H} {r0 : Int32} (hk39 : ∀ (a0 : Nat) (a1 : Int32) (a2 : Int32) (a3 : Int32) (a4 : Int32) (a5 : Int32) (h : sm_H) (_ : sm_at lo hi (0, 9, 0) a0) , k39 a0 a1 a2 a3 a4 a5 h = some (r0, h') → sm_W l lo hi (d + 7) q_sc_bestSwitch 39 [(0, .ref a0), (1, .int a1), (2, .int a2), (3, .int a3), (4, .int a4), (5, .int a5)] [] h (some (.int r0)) h') (a0 : Nat) (a1 : Int32) (a2 : Int32) (a3 : Int32) (a4 : Int32) (a5 : Int32) (h : sm_H) (e0 : sm_at lo hi (0, 9, 0) a0) (hf : f_sc_bestSwitch_L125 k39 a0 a1 a2 a3 a4 a5 h = some (r0, h')) : sm_W l lo hi (d + 7) q_sc_bestSwitch 125 [(0, .ref a0), (1, .int a1), (2, .int a2), (3, .int a3), (4, .int a4), (5, .int a5)] [] h (some (.int r0)) h' := by
  unfold f_sc_bestSwitch_L125 at hf
  obtain ⟨x29, w30⟩ : ∃ v : Int32, v = a5 + 1 := ⟨_, rfl⟩
  have hf := sm_letV w30 hf
  refine sm_iinc (v := x29) (lv' := [(5, .int x29), (0, .ref a0), (1, .int a1), (2, .int a2), (3, .int a3), (4, .int a4)]) 5 rfl (by rw [w30]; rfl) d_sc_bestSwitch_125 rfl rfl ?_
  refine sm_goto 39 d_sc_bestSwitch_128 rfl ?_
  refine sm_sub [1, 2, 3, 4, 5, 0] rfl ?_
  exact hk39 _ _ _ _ _ _ _ e0 hf
theorem w_sc_bestSwitch_L119 (l : Launch) (lo hi d : Nat) (hS : sm_has lo hi) {k82 : Nat → Int32 → Int32 → Int32 → Int32 → Int32 → Int32 → Int32 → sm_H → Option (Int32 × sm_H)} {h' : sm_H} {r0 : Int32} (hk82 : ∀ (a0 : Nat) (a1 : Int32) (a2 : Int32) (a3 : Int32) (a4 : Int32) (a5 : Int32) (a6 : Int32) (a7 : Int32) (h : sm_H) (_ : sm_at lo hi (0, 9, 0) a0) , k82 a0 a1 a2 a3 a4 a5 a6 a7 h = some (r0, h') → sm_W l lo hi (d + 7) q_sc_bestSwitch 82 [(0, .ref a0), (1, .int a1), (2, .int a2), (3, .int a3), (4, .int a4), (5, .int a5), (6, .int a6), (7, .int a7)] [] h (some (.int r0)) h') (a0 : Nat) (a1 : Int32) (a2 : Int32) (a3 : Int32) (a4 : Int32) (a5 : Int32) (a6 : Int32) (a7 : Int32) (h : sm_H) (e0 : sm_at lo hi (0, 9, 0) a0) (hf : f_sc_bestSwitch_L119 k82 a0 a1 a2 a3 a4 a5 a6 a7 h = some (r0, h')) : sm_W l lo hi (d + 7) q_sc_bestSwitch 119 [(0, .ref a0), (1, .int a1), (2, .int a2), (3, .int a3), (4, .int a4), (5, .int a5), (6, .int a6), (7, .int a7)] [] h (some (.int r0)) h' := by
  unfold f_sc_bestSwitch_L119 at hf
  obtain ⟨x27, w28⟩ : ∃ v : Int32, v = a7 + 1 := ⟨_, rfl⟩
  have hf := sm_letV w28 hf
  refine sm_iinc (v := x27) (lv' := [(7, .int x27), (0, .ref a0), (1, .int a1), (2, .int a2), (3, .int a3), (4, .int a4), (5, .int a5), (6, .int a6)]) 7 rfl (by rw [w28]; rfl) d_sc_bestSwitch_119 rfl rfl ?_
  refine sm_goto 82 d_sc_bestSwitch_122 rfl ?_
  refine sm_sub [1, 2, 3, 4, 5, 6, 7, 0] rfl ?_
  exact hk82 _ _ _ _ _ _ _ _ _ e0 hf
theorem w_sc_bestSwitch_L82 (l : Launch) (lo hi d : Nat) (hS : sm_has lo hi) {k39 : Nat → Int32 → Int32 → Int32 → Int32 → Int32 → sm_H → Option (Int32 × sm_H)} {h' : sm_H} {r0 : Int32} (hk39 : ∀ (a0 : Nat) (a1 : Int32) (a2 : Int32) (a3 : Int32) (a4 : Int32) (a5 : Int32) (h : sm_H) (_ : sm_at lo hi (0, 9, 0) a0) , k39 a0 a1 a2 a3 a4 a5 h = some (r0, h') → sm_W l lo hi (d + 7) q_sc_bestSwitch 39 [(0, .ref a0), (1, .int a1), (2, .int a2), (3, .int a3), (4, .int a4), (5, .int a5)] [] h (some (.int r0)) h') : ∀ (n : Nat) (a0 : Nat) (a1 : Int32) (a2 : Int32) (a3 : Int32) (a4 : Int32) (a5 : Int32) (a6 : Int32) (a7 : Int32) (h : sm_H) (e0 : sm_at lo hi (0, 9, 0) a0) (hf : f_sc_bestSwitch_L82 k39 n a0 a1 a2 a3 a4 a5 a6 a7 h = some (r0, h')), sm_W l lo hi (d + 7) q_sc_bestSwitch 82 [(0, .ref a0), (1, .int a1), (2, .int a2), (3, .int a3), (4, .int a4), (5, .int a5), (6, .int a6), (7, .int a7)] [] h (some (.int r0)) h' := by
  intro n
  induction n with
  | zero =>
    intro a0 a1 a2 a3 a4 a5 a6 a7 h e0 hf
    have z : (none : Option (Int32 × sm_H)) = some _ := hf
    cases z
  | succ n ih =>
    intro a0 a1 a2 a3 a4 a5 a6 a7 h e0 hf
    unfold f_sc_bestSwitch_L82 at hf
    refine sm_iload 7 rfl d_sc_bestSwitch_82 ?_
    refine sm_iconst (v := 2) (by decide) d_sc_bestSwitch_84 ?_
    refine sm_icmp_gt 125 d_sc_bestSwitch_85 rfl (fun c20 => ?_) (fun c20 => ?_)
    · have hf := sm_ifT c20 hf
      refine sm_sub [0, 1, 2, 3, 4, 5] rfl ?_
      exact w_sc_bestSwitch_L125 l lo hi d hS hk39 _ _ _ _ _ _ _ e0 hf
    · have hf := sm_ifF c20 hf
      refine sm_aload_n 0 rfl d_sc_bestSwitch_88 ?_
      refine sm_iload 6 rfl d_sc_bestSwitch_89 ?_
      refine sm_iload 7 rfl d_sc_bestSwitch_91 ?_
      refine sm_iload_n 1 rfl d_sc_bestSwitch_93 ?_
      obtain ⟨r21, g22, c23, hf⟩ := sm_b2E hf
      refine sm_callV (As := [.int a6, .int a7, .int a1]) (rv := some (.int r21)) (h1 := g22) (c := 9) cvv_sc_320 rfl rfl e0 (m_sc_smokeWithSwitch l lo hi _ hS e0 c23) rfl rfl d_sc_bestSwitch_94 ?_
      refine sm_istore (lv' := [(8, .int r21), (0, .ref a0), (1, .int a1), (2, .int a2), (3, .int a3), (4, .int a4), (5, .int a5), (6, .int a6), (7, .int a7)]) d_sc_bestSwitch_97 rfl rfl ?_
      refine sm_iload 0 rfl d_sc_bestSwitch_99 ?_
      refine sm_iload_n 4 rfl d_sc_bestSwitch_101 ?_
      refine sm_icmp_ge 119 d_sc_bestSwitch_102 rfl (fun c24 => ?_) (fun c24 => ?_)
      · have hf := sm_ifT c24 hf
        refine sm_sub [1, 2, 3, 4, 5, 6, 7, 8] rfl ?_
        exact w_sc_bestSwitch_L119 l lo hi d hS ih _ _ _ _ _ _ _ _ _ e0 hf
      · have hf := sm_ifF c24 hf
        refine sm_iload 0 rfl d_sc_bestSwitch_105 ?_
        refine sm_istore_n (lv' := [(3, .int r21), (8, .int r21), (0, .ref a0), (1, .int a1), (2, .int a2), (4, .int a4), (5, .int a5), (6, .int a6), (7, .int a7)]) d_sc_bestSwitch_107 rfl rfl ?_
        refine sm_bipush (v := 10) (by decide) d_sc_bestSwitch_108 ?_
        refine sm_iconst (v := 1) (by decide) d_sc_bestSwitch_110 ?_
        refine sm_iload 6 rfl d_sc_bestSwitch_111 ?_
        refine sm_iadd d_sc_bestSwitch_113 ?_
        refine sm_imul d_sc_bestSwitch_114 ?_
        refine sm_iload 8 rfl d_sc_bestSwitch_115 ?_
        refine sm_iadd d_sc_bestSwitch_117 ?_
        refine sm_nmI (fun x25 w26 => ?_)
        have hf := sm_letV w26 hf
        refine sm_istore_n (lv' := [(2, .int x25), (3, .int r21), (8, .int r21), (0, .ref a0), (1, .int a1), (4, .int a4), (5, .int a5), (6, .int a6), (7, .int a7)]) d_sc_bestSwitch_118 rfl rfl ?_
        refine sm_sub [3, 4, 0, 1, 5, 6, 7, 8] rfl ?_
        exact w_sc_bestSwitch_L119 l lo hi d hS ih _ _ _ _ _ _ _ _ _ e0 hf
theorem w_sc_bestSwitch_L77 (l : Launch) (lo hi d : Nat) (hS : sm_has lo hi) {k39 : Nat → Int32 → Int32 → Int32 → Int32 → Int32 → sm_H → Option (Int32 × sm_H)} {h' : sm_H} {r0 : Int32} (hk39 : ∀ (a0 : Nat) (a1 : Int32) (a2 : Int32) (a3 : Int32) (a4 : Int32) (a5 : Int32) (h : sm_H) (_ : sm_at lo hi (0, 9, 0) a0) , k39 a0 a1 a2 a3 a4 a5 h = some (r0, h') → sm_W l lo hi (d + 7) q_sc_bestSwitch 39 [(0, .ref a0), (1, .int a1), (2, .int a2), (3, .int a3), (4, .int a4), (5, .int a5)] [] h (some (.int r0)) h') (a0 : Nat) (a1 : Int32) (a2 : Int32) (a3 : Int32) (a4 : Int32) (a5 : Int32) (s0 : Int32) (h : sm_H) (e0 : sm_at lo hi (0, 9, 0) a0) (hf : f_sc_bestSwitch_L77 k39 a0 a1 a2 a3 a4 a5 s0 h = some (r0, h')) : sm_W l lo hi (d + 7) q_sc_bestSwitch 77 [(0, .ref a0), (1, .int a1), (2, .int a2), (3, .int a3), (4, .int a4), (5, .int a5)] [.int s0] h (some (.int r0)) h' := by
  unfold f_sc_bestSwitch_L77 at hf
  refine sm_istore (lv' := [(6, .int s0), (0, .ref a0), (1, .int a1), (2, .int a2), (3, .int a3), (4, .int a4), (5, .int a5)]) d_sc_bestSwitch_77 rfl rfl ?_
  refine sm_iconst (v := 1) (by decide) d_sc_bestSwitch_79 ?_
  refine sm_istore (lv' := [(7, .int 1), (6, .int s0), (0, .ref a0), (1, .int a1), (2, .int a2), (3, .int a3), (4, .int a4), (5, .int a5)]) d_sc_bestSwitch_80 rfl rfl ?_
  refine sm_sub [2, 3, 4, 5, 6, 7, 1, 0] rfl ?_
  exact w_sc_bestSwitch_L82 l lo hi d hS hk39 sm_N _ _ _ _ _ _ _ _ _ e0 hf
theorem w_sc_bestSwitch_L39 (l : Launch) (lo hi d : Nat) (hS : sm_has lo hi) {h' : sm_H} {r0 : Int32} : ∀ (n : Nat) (a0 : Nat) (a1 : Int32) (a2 : Int32) (a3 : Int32) (a4 : Int32) (a5 : Int32) (h : sm_H) (e0 : sm_at lo hi (0, 9, 0) a0) (hf : f_sc_bestSwitch_L39 n a0 a1 a2 a3 a4 a5 h = some (r0, h')), sm_W l lo hi (d + 7) q_sc_bestSwitch 39 [(0, .ref a0), (1, .int a1), (2, .int a2), (3, .int a3), (4, .int a4), (5, .int a5)] [] h (some (.int r0)) h' := by
  intro n
  induction n with
  | zero =>
    intro a0 a1 a2 a3 a4 a5 h e0 hf
    have z : (none : Option (Int32 × sm_H)) = some _ := hf
    cases z
  | succ n ih =>
    intro a0 a1 a2 a3 a4 a5 h e0 hf
    unfold f_sc_bestSwitch_L39 at hf
    refine sm_iload 5 rfl d_sc_bestSwitch_39 ?_
    refine sm_iload 4 rfl d_sc_bestSwitch_41 ?_
    refine sm_aload_n 0 rfl d_sc_bestSwitch_43 ?_
    refine sm_getR (n := 40) fl_sc_24 e0 rfl d_sc_bestSwitch_44 ?_
    obtain ⟨c13, hf⟩ := sm_gdE hf
    obtain ⟨z14, v15⟩ := sm_isP_at hS c13
    refine sm_getD fl_sc_70 (sm_inner e0 1 rfl rfl rfl) rfl z14 d_sc_bestSwitch_47 ?_
    refine sm_nmR (fun p16 w17 => ?_)
    have hf := sm_letV w17 hf
    have v15 := sm_ev w17 v15
    refine sm_getI fl_sc_89 v15 rfl d_sc_bestSwitch_50 ?_
    refine sm_iadd d_sc_bestSwitch_53 ?_
    refine sm_icmp_ge 131 d_sc_bestSwitch_54 rfl (fun c18 => ?_) (fun c18 => ?_)
    · have hf := sm_ifT c18 hf
      refine sm_sub [2] rfl ?_
      exact w_sc_bestSwitch_L131 l lo hi d hS _ _ hf
    · have hf := sm_ifF c18 hf
      refine sm_iload 5 rfl d_sc_bestSwitch_57 ?_
      refine sm_iload 4 rfl d_sc_bestSwitch_59 ?_
      refine sm_icmp_ge 69 d_sc_bestSwitch_61 rfl (fun c19 => ?_) (fun c19 => ?_)
      · have hf := sm_ifT c19 hf
        refine sm_bipush (v := 16) (by decide) d_sc_bestSwitch_69 ?_
        refine sm_iload 5 rfl d_sc_bestSwitch_71 ?_
        refine sm_iadd d_sc_bestSwitch_73 ?_
        refine sm_iload 4 rfl d_sc_bestSwitch_74 ?_
        refine sm_isub d_sc_bestSwitch_76 ?_
        exact w_sc_bestSwitch_L77 l lo hi d hS ih _ _ _ _ _ _ _ _ e0 hf
      · have hf := sm_ifF c19 hf
        refine sm_iload 5 rfl d_sc_bestSwitch_64 ?_
        refine sm_goto 77 d_sc_bestSwitch_66 rfl ?_
        exact w_sc_bestSwitch_L77 l lo hi d hS ih _ _ _ _ _ _ _ _ e0 hf
theorem m_sc_bestSwitch (l : Launch) (lo hi d : Nat) (hS : sm_has lo hi) {a0 : Nat} {a1 : Int32} {r0 : Int32} {h h' : sm_H} (e0 : sm_at lo hi (0, 9, 0) a0) (hf : f_sc_bestSwitch a0 a1 h = some (r0, h')) : sm_Met l lo hi (d + 7) q_sc_bestSwitch [.ref a0, .int a1] h (some (.int r0)) h' := by
  refine sm_Met.of (by decide +kernel) rfl ?_
  show sm_W l lo hi (d + 7) q_sc_bestSwitch 0 [(0, .ref a0), (1, .int a1)] [] h (some (.int r0)) h'
  unfold f_sc_bestSwitch at hf
  refine sm_iload_n 1 rfl d_sc_bestSwitch_0 ?_
  refine sm_iconst (v := 1) (by decide) d_sc_bestSwitch_1 ?_
  refine sm_icmp_lt 11 d_sc_bestSwitch_2 rfl (fun c1 => ?_) (fun c1 => ?_)
  · have hf := sm_ifT c1 hf
    refine sm_sub [] rfl ?_
    exact w_sc_bestSwitch_L11 l lo hi d hS _ hf
  · have hf := sm_ifF c1 hf
    refine sm_iload_n 1 rfl d_sc_bestSwitch_5 ?_
    refine sm_bipush (v := 60) (by decide) d_sc_bestSwitch_6 ?_
    refine sm_icmp_le 14 d_sc_bestSwitch_8 rfl (fun c2 => ?_) (fun c2 => ?_)
    · have hf := sm_ifT c2 hf
      refine sm_iconst (v := 0) (by decide) d_sc_bestSwitch_14 ?_
      refine sm_istore_n (lv' := [(2, .int 0), (0, .ref a0), (1, .int a1)]) d_sc_bestSwitch_15 rfl rfl ?_
      refine sm_aload_n 1 rfl d_sc_bestSwitch_16 ?_
      refine sm_iconst (v := 0) (by decide) d_sc_bestSwitch_17 ?_
      refine sm_iconst (v := 0) (by decide) d_sc_bestSwitch_18 ?_
      refine sm_iload_n 2 rfl d_sc_bestSwitch_19 ?_
      obtain ⟨r3, g4, c5, hf⟩ := sm_b2E hf
      refine sm_callV (As := [.int 0, .int 0, .int a1]) (rv := some (.int r3)) (h1 := g4) (c := 9) cvv_sc_320 rfl rfl e0 (m_sc_smokeWithSwitch l lo hi _ hS e0 c5) rfl rfl d_sc_bestSwitch_20 ?_
      refine sm_istore_n (lv' := [(3, .int r3), (2, .int 0), (0, .ref a0), (1, .int a1)]) d_sc_bestSwitch_23 rfl rfl ?_
      refine sm_aload_n 2 rfl d_sc_bestSwitch_24 ?_
      refine sm_getR (n := 40) fl_sc_24 e0 rfl d_sc_bestSwitch_25 ?_
      obtain ⟨c6, hf⟩ := sm_gdE hf
      obtain ⟨z7, v8⟩ := sm_isP_at hS c6
      refine sm_getD fl_sc_70 (sm_inner e0 1 rfl rfl rfl) rfl z7 d_sc_bestSwitch_28 ?_
      refine sm_nmR (fun p9 w10 => ?_)
      have hf := sm_letV w10 hf
      have v8 := sm_ev w10 v8
      refine sm_getI fl_sc_86 v8 rfl d_sc_bestSwitch_31 ?_
      refine sm_nmI (fun x11 w12 => ?_)
      have hf := sm_letV w12 hf
      refine sm_istore (lv' := [(4, .int x11), (3, .int r3), (2, .int 0), (0, .ref a0), (1, .int a1)]) d_sc_bestSwitch_34 rfl rfl ?_
      refine sm_iconst (v := 0) (by decide) d_sc_bestSwitch_36 ?_
      refine sm_istore (lv' := [(5, .int 0), (4, .int x11), (3, .int r3), (2, .int 0), (0, .ref a0), (1, .int a1)]) d_sc_bestSwitch_37 rfl rfl ?_
      refine sm_sub [4, 5, 3, 2, 1, 0] rfl ?_
      exact w_sc_bestSwitch_L39 l lo hi d hS sm_N _ _ _ _ _ _ _ e0 hf
    · have hf := sm_ifF c2 hf
      refine sm_sub [] rfl ?_
      exact w_sc_bestSwitch_L11 l lo hi d hS _ hf
theorem d_sc_switchZoneOn_0 : decode q_sc_switchZoneOn.2.1 0 = .ok (.aload_n 0, 1) := by decide +kernel
theorem d_sc_switchZoneOn_1 : decode q_sc_switchZoneOn.2.1 1 = .ok (.getfield 28, 3) := by decide +kernel
theorem d_sc_switchZoneOn_4 : decode q_sc_switchZoneOn.2.1 4 = .ok (.getfield 70, 3) := by decide +kernel
theorem d_sc_switchZoneOn_7 : decode q_sc_switchZoneOn.2.1 7 = .ok (.astore_n 2, 1) := by decide +kernel
theorem d_sc_switchZoneOn_8 : decode q_sc_switchZoneOn.2.1 8 = .ok (.iconst 0, 1) := by decide +kernel
theorem d_sc_switchZoneOn_9 : decode q_sc_switchZoneOn.2.1 9 = .ok (.istore_n 3, 1) := by decide +kernel
theorem d_sc_switchZoneOn_10 : decode q_sc_switchZoneOn.2.1 10 = .ok (.iconst 0, 1) := by decide +kernel
theorem d_sc_switchZoneOn_11 : decode q_sc_switchZoneOn.2.1 11 = .ok (.istore 4, 2) := by decide +kernel
theorem d_sc_switchZoneOn_13 : decode q_sc_switchZoneOn.2.1 13 = .ok (.iload 4, 2) := by decide +kernel
theorem d_sc_switchZoneOn_15 : decode q_sc_switchZoneOn.2.1 15 = .ok (.aload_n 2, 1) := by decide +kernel
theorem d_sc_switchZoneOn_16 : decode q_sc_switchZoneOn.2.1 16 = .ok (.getfield 86, 3) := by decide +kernel
theorem d_sc_switchZoneOn_19 : decode q_sc_switchZoneOn.2.1 19 = .ok (.if_icmp .ge 39, 3) := by decide +kernel
theorem d_sc_switchZoneOn_22 : decode q_sc_switchZoneOn.2.1 22 = .ok (.aload_n 2, 1) := by decide +kernel
theorem d_sc_switchZoneOn_23 : decode q_sc_switchZoneOn.2.1 23 = .ok (.getfield 243, 3) := by decide +kernel
theorem d_sc_switchZoneOn_26 : decode q_sc_switchZoneOn.2.1 26 = .ok (.iload 4, 2) := by decide +kernel
theorem d_sc_switchZoneOn_28 : decode q_sc_switchZoneOn.2.1 28 = .ok (.iaload, 1) := by decide +kernel
theorem d_sc_switchZoneOn_29 : decode q_sc_switchZoneOn.2.1 29 = .ok (.iload_n 1, 1) := by decide +kernel
theorem d_sc_switchZoneOn_30 : decode q_sc_switchZoneOn.2.1 30 = .ok (.if_icmp .ne 22, 3) := by decide +kernel
theorem d_sc_switchZoneOn_33 : decode q_sc_switchZoneOn.2.1 33 = .ok (.aload_n 0, 1) := by decide +kernel
theorem d_sc_switchZoneOn_34 : decode q_sc_switchZoneOn.2.1 34 = .ok (.getfield 28, 3) := by decide +kernel
theorem d_sc_switchZoneOn_37 : decode q_sc_switchZoneOn.2.1 37 = .ok (.getfield 170, 3) := by decide +kernel
theorem d_sc_switchZoneOn_40 : decode q_sc_switchZoneOn.2.1 40 = .ok (.iload 4, 2) := by decide +kernel
theorem d_sc_switchZoneOn_42 : decode q_sc_switchZoneOn.2.1 42 = .ok (.iconst 1, 1) := by decide +kernel
theorem d_sc_switchZoneOn_43 : decode q_sc_switchZoneOn.2.1 43 = .ok (.iastore, 1) := by decide +kernel
theorem d_sc_switchZoneOn_44 : decode q_sc_switchZoneOn.2.1 44 = .ok (.iload_n 3, 1) := by decide +kernel
theorem d_sc_switchZoneOn_45 : decode q_sc_switchZoneOn.2.1 45 = .ok (.iload 4, 2) := by decide +kernel
theorem d_sc_switchZoneOn_47 : decode q_sc_switchZoneOn.2.1 47 = .ok (.iconst 1, 1) := by decide +kernel
theorem d_sc_switchZoneOn_48 : decode q_sc_switchZoneOn.2.1 48 = .ok (.invokestatic 133, 3) := by decide +kernel
theorem d_sc_switchZoneOn_51 : decode q_sc_switchZoneOn.2.1 51 = .ok (.istore_n 3, 1) := by decide +kernel
theorem d_sc_switchZoneOn_52 : decode q_sc_switchZoneOn.2.1 52 = .ok (.iinc 4 1, 3) := by decide +kernel
theorem d_sc_switchZoneOn_55 : decode q_sc_switchZoneOn.2.1 55 = .ok (.goto (-42), 3) := by decide +kernel
theorem d_sc_switchZoneOn_58 : decode q_sc_switchZoneOn.2.1 58 = .ok (.iconst 0, 1) := by decide +kernel
theorem d_sc_switchZoneOn_59 : decode q_sc_switchZoneOn.2.1 59 = .ok (.istore 4, 2) := by decide +kernel
theorem d_sc_switchZoneOn_61 : decode q_sc_switchZoneOn.2.1 61 = .ok (.iload 4, 2) := by decide +kernel
theorem d_sc_switchZoneOn_63 : decode q_sc_switchZoneOn.2.1 63 = .ok (.aload_n 2, 1) := by decide +kernel
theorem d_sc_switchZoneOn_64 : decode q_sc_switchZoneOn.2.1 64 = .ok (.getfield 89, 3) := by decide +kernel
theorem d_sc_switchZoneOn_67 : decode q_sc_switchZoneOn.2.1 67 = .ok (.if_icmp .ge 35, 3) := by decide +kernel
theorem d_sc_switchZoneOn_70 : decode q_sc_switchZoneOn.2.1 70 = .ok (.aload_n 2, 1) := by decide +kernel
theorem d_sc_switchZoneOn_71 : decode q_sc_switchZoneOn.2.1 71 = .ok (.getfield 327, 3) := by decide +kernel
theorem d_sc_switchZoneOn_74 : decode q_sc_switchZoneOn.2.1 74 = .ok (.iload 4, 2) := by decide +kernel
theorem d_sc_switchZoneOn_76 : decode q_sc_switchZoneOn.2.1 76 = .ok (.iaload, 1) := by decide +kernel
theorem d_sc_switchZoneOn_77 : decode q_sc_switchZoneOn.2.1 77 = .ok (.iload_n 3, 1) := by decide +kernel
theorem d_sc_switchZoneOn_78 : decode q_sc_switchZoneOn.2.1 78 = .ok (.iand, 1) := by decide +kernel
theorem d_sc_switchZoneOn_79 : decode q_sc_switchZoneOn.2.1 79 = .ok (.ifCond .eq 17, 3) := by decide +kernel
theorem d_sc_switchZoneOn_82 : decode q_sc_switchZoneOn.2.1 82 = .ok (.aload_n 0, 1) := by decide +kernel
theorem d_sc_switchZoneOn_83 : decode q_sc_switchZoneOn.2.1 83 = .ok (.getfield 28, 3) := by decide +kernel
theorem d_sc_switchZoneOn_86 : decode q_sc_switchZoneOn.2.1 86 = .ok (.getfield 170, 3) := by decide +kernel
theorem d_sc_switchZoneOn_89 : decode q_sc_switchZoneOn.2.1 89 = .ok (.bipush 16, 2) := by decide +kernel
theorem d_sc_switchZoneOn_91 : decode q_sc_switchZoneOn.2.1 91 = .ok (.iload 4, 2) := by decide +kernel
theorem d_sc_switchZoneOn_93 : decode q_sc_switchZoneOn.2.1 93 = .ok (.iadd, 1) := by decide +kernel
theorem d_sc_switchZoneOn_94 : decode q_sc_switchZoneOn.2.1 94 = .ok (.iconst 1, 1) := by decide +kernel
theorem d_sc_switchZoneOn_95 : decode q_sc_switchZoneOn.2.1 95 = .ok (.iastore, 1) := by decide +kernel
theorem d_sc_switchZoneOn_96 : decode q_sc_switchZoneOn.2.1 96 = .ok (.iinc 4 1, 3) := by decide +kernel
theorem d_sc_switchZoneOn_99 : decode q_sc_switchZoneOn.2.1 99 = .ok (.goto (-38), 3) := by decide +kernel
theorem d_sc_switchZoneOn_102 : decode q_sc_switchZoneOn.2.1 102 = .ok (.return_, 1) := by decide +kernel
theorem w_sc_switchZoneOn_L96 (l : Launch) (lo hi d : Nat) (hS : sm_has lo hi) {k61 : Nat → Nat → Int32 → Int32 → sm_H → Option sm_H} {h' : sm_H} (hk61 : ∀ (a0 : Nat) (a2 : Nat) (a3 : Int32) (a4 : Int32) (h : sm_H) (_ : sm_at lo hi (0, 9, 0) a0) (_ : sm_at lo hi (0, 4, 0) a2) , k61 a0 a2 a3 a4 h = some h' → sm_W l lo hi (d + 1) q_sc_switchZoneOn 61 [(0, .ref a0), (2, .ref a2), (3, .int a3), (4, .int a4)] [] h none h') (a0 : Nat) (a2 : Nat) (a3 : Int32) (a4 : Int32) (h : sm_H) (e0 : sm_at lo hi (0, 9, 0) a0) (e2 : sm_at lo hi (0, 4, 0) a2) (hf : f_sc_switchZoneOn_L96 k61 a0 a2 a3 a4 h = some h') : sm_W l lo hi (d + 1) q_sc_switchZoneOn 96 [(0, .ref a0), (2, .ref a2), (3, .int a3), (4, .int a4)] [] h none h' := by
  unfold f_sc_switchZoneOn_L96 at hf
  obtain ⟨x23, w24⟩ : ∃ v : Int32, v = a4 + 1 := ⟨_, rfl⟩
  have hf := sm_letV w24 hf
  refine sm_iinc (v := x23) (lv' := [(4, .int x23), (0, .ref a0), (2, .ref a2), (3, .int a3)]) 3 rfl (by rw [w24]; rfl) d_sc_switchZoneOn_96 rfl rfl ?_
  refine sm_goto 61 d_sc_switchZoneOn_99 rfl ?_
  refine sm_sub [1, 2, 3, 0] rfl ?_
  exact hk61 _ _ _ _ _ e0 e2 hf
theorem w_sc_switchZoneOn_L61 (l : Launch) (lo hi d : Nat) (hS : sm_has lo hi) {h' : sm_H} : ∀ (n : Nat) (a0 : Nat) (a2 : Nat) (a3 : Int32) (a4 : Int32) (h : sm_H) (e0 : sm_at lo hi (0, 9, 0) a0) (e2 : sm_at lo hi (0, 4, 0) a2) (hf : f_sc_switchZoneOn_L61 n a0 a2 a3 a4 h = some h'), sm_W l lo hi (d + 1) q_sc_switchZoneOn 61 [(0, .ref a0), (2, .ref a2), (3, .int a3), (4, .int a4)] [] h none h' := by
  intro n
  induction n with
  | zero =>
    intro a0 a2 a3 a4 h e0 e2 hf
    have z : (none : Option sm_H) = some _ := hf
    cases z
  | succ n ih =>
    intro a0 a2 a3 a4 h e0 e2 hf
    unfold f_sc_switchZoneOn_L61 at hf
    refine sm_iload 3 rfl d_sc_switchZoneOn_61 ?_
    refine sm_aload_n 1 rfl d_sc_switchZoneOn_63 ?_
    refine sm_getI fl_sc_89 e2 rfl d_sc_switchZoneOn_64 ?_
    refine sm_icmp_ge 102 d_sc_switchZoneOn_67 rfl (fun c17 => ?_) (fun c17 => ?_)
    · have hf := sm_ifT c17 hf
      obtain rfl := sm_ret1 hf
      exact sm_vret d_sc_switchZoneOn_102 rfl
    · have hf := sm_ifF c17 hf
      refine sm_aload_n 1 rfl d_sc_switchZoneOn_70 ?_
      refine sm_getR (n := 5) fl_sc_327 e2 rfl d_sc_switchZoneOn_71 ?_
      refine sm_iload 3 rfl d_sc_switchZoneOn_74 ?_
      obtain ⟨c18, hf⟩ := sm_gdE hf
      refine sm_iald (sm_at_arr (sm_inner e2 11 rfl rfl rfl)) c18 d_sc_switchZoneOn_76 ?_
      refine sm_iload_n 2 rfl d_sc_switchZoneOn_77 ?_
      refine sm_iand d_sc_switchZoneOn_78 ?_
      refine sm_if_eq 96 d_sc_switchZoneOn_79 rfl (fun c19 => ?_) (fun c19 => ?_)
      · have hf := sm_ifT c19 hf
        exact w_sc_switchZoneOn_L96 l lo hi d hS ih _ _ _ _ _ e0 e2 hf
      · have hf := sm_ifF c19 hf
        refine sm_aload_n 0 rfl d_sc_switchZoneOn_82 ?_
        refine sm_getR (n := 53) fl_sc_28 e0 rfl d_sc_switchZoneOn_83 ?_
        refine sm_getR (n := 4) fl_sc_170 (sm_inner e0 2 rfl rfl rfl) rfl d_sc_switchZoneOn_86 ?_
        refine sm_bipush (v := 16) (by decide) d_sc_switchZoneOn_89 ?_
        refine sm_iload 3 rfl d_sc_switchZoneOn_91 ?_
        refine sm_iadd d_sc_switchZoneOn_93 ?_
        refine sm_iconst (v := 1) (by decide) d_sc_switchZoneOn_94 ?_
        obtain ⟨c20, hf⟩ := sm_gdE hf
        refine sm_iast (sm_at_arr (sm_inner (sm_inner e0 2 rfl rfl rfl) 12 rfl rfl rfl)) c20 d_sc_switchZoneOn_95 ?_
        refine sm_nmH (fun g21 w22 => ?_)
        have hf := sm_letV w22 hf
        exact w_sc_switchZoneOn_L96 l lo hi d hS ih _ _ _ _ _ e0 e2 hf
theorem w_sc_switchZoneOn_L58 (l : Launch) (lo hi d : Nat) (hS : sm_has lo hi) {h' : sm_H} (a0 : Nat) (a2 : Nat) (a3 : Int32) (h : sm_H) (e0 : sm_at lo hi (0, 9, 0) a0) (e2 : sm_at lo hi (0, 4, 0) a2) (hf : f_sc_switchZoneOn_L58 a0 a2 a3 h = some h') : sm_W l lo hi (d + 1) q_sc_switchZoneOn 58 [(0, .ref a0), (2, .ref a2), (3, .int a3)] [] h none h' := by
  unfold f_sc_switchZoneOn_L58 at hf
  refine sm_iconst (v := 0) (by decide) d_sc_switchZoneOn_58 ?_
  refine sm_istore (lv' := [(4, .int 0), (0, .ref a0), (2, .ref a2), (3, .int a3)]) d_sc_switchZoneOn_59 rfl rfl ?_
  refine sm_sub [1, 2, 3, 0] rfl ?_
  exact w_sc_switchZoneOn_L61 l lo hi d hS sm_N _ _ _ _ _ e0 e2 hf
theorem w_sc_switchZoneOn_L52 (l : Launch) (lo hi d : Nat) (hS : sm_has lo hi) {k13 : Nat → Int32 → Nat → Int32 → Int32 → sm_H → Option sm_H} {h' : sm_H} (hk13 : ∀ (a0 : Nat) (a1 : Int32) (a2 : Nat) (a3 : Int32) (a4 : Int32) (h : sm_H) (_ : sm_at lo hi (0, 9, 0) a0) (_ : sm_at lo hi (0, 4, 0) a2) , k13 a0 a1 a2 a3 a4 h = some h' → sm_W l lo hi (d + 1) q_sc_switchZoneOn 13 [(0, .ref a0), (1, .int a1), (2, .ref a2), (3, .int a3), (4, .int a4)] [] h none h') (a0 : Nat) (a1 : Int32) (a2 : Nat) (a3 : Int32) (a4 : Int32) (h : sm_H) (e0 : sm_at lo hi (0, 9, 0) a0) (e2 : sm_at lo hi (0, 4, 0) a2) (hf : f_sc_switchZoneOn_L52 k13 a0 a1 a2 a3 a4 h = some h') : sm_W l lo hi (d + 1) q_sc_switchZoneOn 52 [(0, .ref a0), (1, .int a1), (2, .ref a2), (3, .int a3), (4, .int a4)] [] h none h' := by
  unfold f_sc_switchZoneOn_L52 at hf
  obtain ⟨x15, w16⟩ : ∃ v : Int32, v = a4 + 1 := ⟨_, rfl⟩
  have hf := sm_letV w16 hf
  refine sm_iinc (v := x15) (lv' := [(4, .int x15), (0, .ref a0), (1, .int a1), (2, .ref a2), (3, .int a3)]) 4 rfl (by rw [w16]; rfl) d_sc_switchZoneOn_52 rfl rfl ?_
  refine sm_goto 13 d_sc_switchZoneOn_55 rfl ?_
  refine sm_sub [1, 2, 3, 4, 0] rfl ?_
  exact hk13 _ _ _ _ _ _ e0 e2 hf
theorem w_sc_switchZoneOn_L13 (l : Launch) (lo hi d : Nat) (hS : sm_has lo hi) {h' : sm_H} : ∀ (n : Nat) (a0 : Nat) (a1 : Int32) (a2 : Nat) (a3 : Int32) (a4 : Int32) (h : sm_H) (e0 : sm_at lo hi (0, 9, 0) a0) (e2 : sm_at lo hi (0, 4, 0) a2) (hf : f_sc_switchZoneOn_L13 n a0 a1 a2 a3 a4 h = some h'), sm_W l lo hi (d + 1) q_sc_switchZoneOn 13 [(0, .ref a0), (1, .int a1), (2, .ref a2), (3, .int a3), (4, .int a4)] [] h none h' := by
  intro n
  induction n with
  | zero =>
    intro a0 a1 a2 a3 a4 h e0 e2 hf
    have z : (none : Option sm_H) = some _ := hf
    cases z
  | succ n ih =>
    intro a0 a1 a2 a3 a4 h e0 e2 hf
    unfold f_sc_switchZoneOn_L13 at hf
    refine sm_iload 4 rfl d_sc_switchZoneOn_13 ?_
    refine sm_aload_n 2 rfl d_sc_switchZoneOn_15 ?_
    refine sm_getI fl_sc_86 e2 rfl d_sc_switchZoneOn_16 ?_
    refine sm_icmp_ge 58 d_sc_switchZoneOn_19 rfl (fun c6 => ?_) (fun c6 => ?_)
    · have hf := sm_ifT c6 hf
      refine sm_sub [0, 2, 3] rfl ?_
      exact w_sc_switchZoneOn_L58 l lo hi d hS _ _ _ _ e0 e2 hf
    · have hf := sm_ifF c6 hf
      refine sm_aload_n 2 rfl d_sc_switchZoneOn_22 ?_
      refine sm_getR (n := 3) fl_sc_243 e2 rfl d_sc_switchZoneOn_23 ?_
      refine sm_iload 4 rfl d_sc_switchZoneOn_26 ?_
      obtain ⟨c7, hf⟩ := sm_gdE hf
      refine sm_iald (sm_at_arr (sm_inner e2 9 rfl rfl rfl)) c7 d_sc_switchZoneOn_28 ?_
      refine sm_iload_n 1 rfl d_sc_switchZoneOn_29 ?_
      refine sm_icmp_ne 52 d_sc_switchZoneOn_30 rfl (fun c8 => ?_) (fun c8 => ?_)
      · have hf := sm_ifF c8 hf
        exact w_sc_switchZoneOn_L52 l lo hi d hS ih _ _ _ _ _ _ e0 e2 hf
      · have hf := sm_ifT c8 hf
        refine sm_aload_n 0 rfl d_sc_switchZoneOn_33 ?_
        refine sm_getR (n := 53) fl_sc_28 e0 rfl d_sc_switchZoneOn_34 ?_
        refine sm_getR (n := 4) fl_sc_170 (sm_inner e0 2 rfl rfl rfl) rfl d_sc_switchZoneOn_37 ?_
        refine sm_iload 4 rfl d_sc_switchZoneOn_40 ?_
        refine sm_iconst (v := 1) (by decide) d_sc_switchZoneOn_42 ?_
        obtain ⟨c9, hf⟩ := sm_gdE hf
        refine sm_iast (sm_at_arr (sm_inner (sm_inner e0 2 rfl rfl rfl) 12 rfl rfl rfl)) c9 d_sc_switchZoneOn_43 ?_
        refine sm_nmH (fun g10 w11 => ?_)
        have hf := sm_letV w11 hf
        refine sm_iload_n 3 rfl d_sc_switchZoneOn_44 ?_
        refine sm_iload 4 rfl d_sc_switchZoneOn_45 ?_
        refine sm_iconst (v := 1) (by decide) d_sc_switchZoneOn_47 ?_
        obtain ⟨r12, g13, c14, hf⟩ := sm_b2E hf
        refine sm_callS (As := [.int a3, .int a4, .int 1]) (rv := some (.int r12)) (h1 := g13) cvs_sc_133 (m_sc_with l lo hi _ c14) rfl rfl d_sc_switchZoneOn_48 ?_
        refine sm_istore_n (lv' := [(3, .int r12), (0, .ref a0), (1, .int a1), (2, .ref a2), (4, .int a4)]) d_sc_switchZoneOn_51 rfl rfl ?_
        refine sm_sub [1, 2, 3, 0, 4] rfl ?_
        exact w_sc_switchZoneOn_L52 l lo hi d hS ih _ _ _ _ _ _ e0 e2 hf
theorem m_sc_switchZoneOn (l : Launch) (lo hi d : Nat) (hS : sm_has lo hi) {a0 : Nat} {a1 : Int32} {h h' : sm_H} (e0 : sm_at lo hi (0, 9, 0) a0) (hf : f_sc_switchZoneOn a0 a1 h = some h') : sm_Met l lo hi (d + 1) q_sc_switchZoneOn [.ref a0, .int a1] h none h' := by
  refine sm_Met.of (by decide +kernel) rfl ?_
  show sm_W l lo hi (d + 1) q_sc_switchZoneOn 0 [(0, .ref a0), (1, .int a1)] [] h none h'
  unfold f_sc_switchZoneOn at hf
  refine sm_aload_n 0 rfl d_sc_switchZoneOn_0 ?_
  refine sm_getR (n := 53) fl_sc_28 e0 rfl d_sc_switchZoneOn_1 ?_
  obtain ⟨c1, hf⟩ := sm_gdE hf
  obtain ⟨z2, v3⟩ := sm_isP_at hS c1
  refine sm_getD fl_sc_70 (sm_inner e0 2 rfl rfl rfl) rfl z2 d_sc_switchZoneOn_4 ?_
  refine sm_nmR (fun p4 w5 => ?_)
  have hf := sm_letV w5 hf
  have v3 := sm_ev w5 v3
  refine sm_astore_n (lv' := [(2, .ref p4), (0, .ref a0), (1, .int a1)]) d_sc_switchZoneOn_7 rfl rfl ?_
  refine sm_iconst (v := 0) (by decide) d_sc_switchZoneOn_8 ?_
  refine sm_istore_n (lv' := [(3, .int 0), (2, .ref p4), (0, .ref a0), (1, .int a1)]) d_sc_switchZoneOn_9 rfl rfl ?_
  refine sm_iconst (v := 0) (by decide) d_sc_switchZoneOn_10 ?_
  refine sm_istore (lv' := [(4, .int 0), (3, .int 0), (2, .ref p4), (0, .ref a0), (1, .int a1)]) d_sc_switchZoneOn_11 rfl rfl ?_
  refine sm_sub [3, 4, 2, 1, 0] rfl ?_
  exact w_sc_switchZoneOn_L13 l lo hi d hS sm_N _ _ _ _ _ _ e0 v3 hf
theorem d_sc_purgeTime_0 : decode q_sc_purgeTime.2.1 0 = .ok (.aload_n 0, 1) := by decide +kernel
theorem d_sc_purgeTime_1 : decode q_sc_purgeTime.2.1 1 = .ok (.iload_n 1, 1) := by decide +kernel
theorem d_sc_purgeTime_2 : decode q_sc_purgeTime.2.1 2 = .ok (.invokevirtual 112, 3) := by decide +kernel
theorem d_sc_purgeTime_5 : decode q_sc_purgeTime.2.1 5 = .ok (.ifCond .eq 5, 3) := by decide +kernel
theorem d_sc_purgeTime_8 : decode q_sc_purgeTime.2.1 8 = .ok (.iconst (-1), 1) := by decide +kernel
theorem d_sc_purgeTime_9 : decode q_sc_purgeTime.2.1 9 = .ok (.ireturn, 1) := by decide +kernel
theorem d_sc_purgeTime_10 : decode q_sc_purgeTime.2.1 10 = .ok (.aload_n 0, 1) := by decide +kernel
theorem d_sc_purgeTime_11 : decode q_sc_purgeTime.2.1 11 = .ok (.getfield 28, 3) := by decide +kernel
theorem d_sc_purgeTime_14 : decode q_sc_purgeTime.2.1 14 = .ok (.aload_n 0, 1) := by decide +kernel
theorem d_sc_purgeTime_15 : decode q_sc_purgeTime.2.1 15 = .ok (.getfield 24, 3) := by decide +kernel
theorem d_sc_purgeTime_18 : decode q_sc_purgeTime.2.1 18 = .ok (.invokevirtual 314, 3) := by decide +kernel
theorem d_sc_purgeTime_21 : decode q_sc_purgeTime.2.1 21 = .ok (.aload_n 0, 1) := by decide +kernel
theorem d_sc_purgeTime_22 : decode q_sc_purgeTime.2.1 22 = .ok (.getfield 28, 3) := by decide +kernel
theorem d_sc_purgeTime_25 : decode q_sc_purgeTime.2.1 25 = .ok (.iconst 1, 1) := by decide +kernel
theorem d_sc_purgeTime_26 : decode q_sc_purgeTime.2.1 26 = .ok (.putfield 153, 3) := by decide +kernel
theorem d_sc_purgeTime_29 : decode q_sc_purgeTime.2.1 29 = .ok (.aload_n 0, 1) := by decide +kernel
theorem d_sc_purgeTime_30 : decode q_sc_purgeTime.2.1 30 = .ok (.iload_n 1, 1) := by decide +kernel
theorem d_sc_purgeTime_31 : decode q_sc_purgeTime.2.1 31 = .ok (.invokevirtual 324, 3) := by decide +kernel
theorem d_sc_purgeTime_34 : decode q_sc_purgeTime.2.1 34 = .ok (.iconst 0, 1) := by decide +kernel
theorem d_sc_purgeTime_35 : decode q_sc_purgeTime.2.1 35 = .ok (.istore_n 2, 1) := by decide +kernel
theorem d_sc_purgeTime_36 : decode q_sc_purgeTime.2.1 36 = .ok (.iload_n 2, 1) := by decide +kernel
theorem d_sc_purgeTime_37 : decode q_sc_purgeTime.2.1 37 = .ok (.sipush 200, 3) := by decide +kernel
theorem d_sc_purgeTime_40 : decode q_sc_purgeTime.2.1 40 = .ok (.if_icmp .gt 38, 3) := by decide +kernel
theorem d_sc_purgeTime_43 : decode q_sc_purgeTime.2.1 43 = .ok (.aload_n 0, 1) := by decide +kernel
theorem d_sc_purgeTime_44 : decode q_sc_purgeTime.2.1 44 = .ok (.getfield 28, 3) := by decide +kernel
theorem d_sc_purgeTime_47 : decode q_sc_purgeTime.2.1 47 = .ok (.getfield 208, 3) := by decide +kernel
theorem d_sc_purgeTime_50 : decode q_sc_purgeTime.2.1 50 = .ok (.iload_n 1, 1) := by decide +kernel
theorem d_sc_purgeTime_51 : decode q_sc_purgeTime.2.1 51 = .ok (.iaload, 1) := by decide +kernel
theorem d_sc_purgeTime_52 : decode q_sc_purgeTime.2.1 52 = .ok (.bipush 100, 2) := by decide +kernel
theorem d_sc_purgeTime_54 : decode q_sc_purgeTime.2.1 54 = .ok (.if_icmp .ge 5, 3) := by decide +kernel
theorem d_sc_purgeTime_57 : decode q_sc_purgeTime.2.1 57 = .ok (.iload_n 2, 1) := by decide +kernel
theorem d_sc_purgeTime_58 : decode q_sc_purgeTime.2.1 58 = .ok (.ireturn, 1) := by decide +kernel
theorem d_sc_purgeTime_59 : decode q_sc_purgeTime.2.1 59 = .ok (.aload_n 0, 1) := by decide +kernel
theorem d_sc_purgeTime_60 : decode q_sc_purgeTime.2.1 60 = .ok (.getfield 38, 3) := by decide +kernel
theorem d_sc_purgeTime_63 : decode q_sc_purgeTime.2.1 63 = .ok (.aload_n 0, 1) := by decide +kernel
theorem d_sc_purgeTime_64 : decode q_sc_purgeTime.2.1 64 = .ok (.getfield 28, 3) := by decide +kernel
theorem d_sc_purgeTime_67 : decode q_sc_purgeTime.2.1 67 = .ok (.iconst 1, 1) := by decide +kernel
theorem d_sc_purgeTime_68 : decode q_sc_purgeTime.2.1 68 = .ok (.invokevirtual 179, 3) := by decide +kernel
theorem d_sc_purgeTime_71 : decode q_sc_purgeTime.2.1 71 = .ok (.pop, 1) := by decide +kernel
theorem d_sc_purgeTime_72 : decode q_sc_purgeTime.2.1 72 = .ok (.iinc 2 1, 3) := by decide +kernel
theorem d_sc_purgeTime_75 : decode q_sc_purgeTime.2.1 75 = .ok (.goto (-39), 3) := by decide +kernel
theorem d_sc_purgeTime_78 : decode q_sc_purgeTime.2.1 78 = .ok (.bipush (-4), 2) := by decide +kernel
theorem d_sc_purgeTime_80 : decode q_sc_purgeTime.2.1 80 = .ok (.ireturn, 1) := by decide +kernel
theorem w_sc_purgeTime_L78 (l : Launch) (lo hi d : Nat) (hS : sm_has lo hi) {h' : sm_H} {r0 : Int32} (h : sm_H) (hf : f_sc_purgeTime_L78 h = some (r0, h')) : sm_W l lo hi (d + 6) q_sc_purgeTime 78 [] [] h (some (.int r0)) h' := by
  unfold f_sc_purgeTime_L78 at hf
  refine sm_bipush (v := (-4)) (by decide) d_sc_purgeTime_78 ?_
  obtain ⟨rfl, rfl⟩ := sm_ret2 hf
  exact sm_iret d_sc_purgeTime_80 rfl
theorem w_sc_purgeTime_L57 (l : Launch) (lo hi d : Nat) (hS : sm_has lo hi) {h' : sm_H} {r0 : Int32} (a2 : Int32) (h : sm_H) (hf : f_sc_purgeTime_L57 a2 h = some (r0, h')) : sm_W l lo hi (d + 6) q_sc_purgeTime 57 [(2, .int a2)] [] h (some (.int r0)) h' := by
  unfold f_sc_purgeTime_L57 at hf
  refine sm_iload_n 0 rfl d_sc_purgeTime_57 ?_
  obtain ⟨rfl, rfl⟩ := sm_ret2 hf
  exact sm_iret d_sc_purgeTime_58 rfl
theorem w_sc_purgeTime_L36 (l : Launch) (lo hi d : Nat) (hS : sm_has lo hi) {h' : sm_H} {r0 : Int32} : ∀ (n : Nat) (a0 : Nat) (a1 : Int32) (a2 : Int32) (h : sm_H) (e0 : sm_at lo hi (0, 9, 0) a0) (hf : f_sc_purgeTime_L36 n a0 a1 a2 h = some (r0, h')), sm_W l lo hi (d + 6) q_sc_purgeTime 36 [(0, .ref a0), (1, .int a1), (2, .int a2)] [] h (some (.int r0)) h' := by
  intro n
  induction n with
  | zero =>
    intro a0 a1 a2 h e0 hf
    have z : (none : Option (Int32 × sm_H)) = some _ := hf
    cases z
  | succ n ih =>
    intro a0 a1 a2 h e0 hf
    unfold f_sc_purgeTime_L36 at hf
    refine sm_iload_n 2 rfl d_sc_purgeTime_36 ?_
    refine sm_sipush (v := 200) (by decide) d_sc_purgeTime_37 ?_
    refine sm_icmp_gt 78 d_sc_purgeTime_40 rfl (fun c11 => ?_) (fun c11 => ?_)
    · have hf := sm_ifT c11 hf
      refine sm_sub [] rfl ?_
      exact w_sc_purgeTime_L78 l lo hi d hS _ hf
    · have hf := sm_ifF c11 hf
      refine sm_aload_n 0 rfl d_sc_purgeTime_43 ?_
      refine sm_getR (n := 53) fl_sc_28 e0 rfl d_sc_purgeTime_44 ?_
      refine sm_getR (n := 1) fl_sc_208 (sm_inner e0 2 rfl rfl rfl) rfl d_sc_purgeTime_47 ?_
      refine sm_iload_n 1 rfl d_sc_purgeTime_50 ?_
      obtain ⟨c12, hf⟩ := sm_gdE hf
      refine sm_iald (sm_at_arr (sm_inner (sm_inner e0 2 rfl rfl rfl) 9 rfl rfl rfl)) c12 d_sc_purgeTime_51 ?_
      refine sm_bipush (v := 100) (by decide) d_sc_purgeTime_52 ?_
      refine sm_icmp_ge 59 d_sc_purgeTime_54 rfl (fun c13 => ?_) (fun c13 => ?_)
      · have hf := sm_ifT c13 hf
        refine sm_aload_n 0 rfl d_sc_purgeTime_59 ?_
        refine sm_getR (n := 106) fl_sc_38 e0 rfl d_sc_purgeTime_60 ?_
        refine sm_aload_n 0 rfl d_sc_purgeTime_63 ?_
        refine sm_getR (n := 53) fl_sc_28 e0 rfl d_sc_purgeTime_64 ?_
        refine sm_iconst (v := 1) (by decide) d_sc_purgeTime_67 ?_
        obtain ⟨r14, g15, c16, hf⟩ := sm_b2E hf
        refine sm_callV (As := [.ref (a0 + 53), .int 1]) (rv := some (.int r14)) (h1 := g15) (c := 2) cvv_sc_179 rfl rfl (sm_inner e0 5 rfl rfl rfl) (m_en_pass l lo hi _ hS (sm_inner e0 5 rfl rfl rfl) (sm_inner e0 2 rfl rfl rfl) c16) rfl rfl d_sc_purgeTime_68 ?_
        refine sm_pop rfl d_sc_purgeTime_71 ?_
        obtain ⟨x17, w18⟩ : ∃ v : Int32, v = a2 + 1 := ⟨_, rfl⟩
        have hf := sm_letV w18 hf
        refine sm_iinc (v := x17) (lv' := [(2, .int x17), (0, .ref a0), (1, .int a1)]) 2 rfl (by rw [w18]; rfl) d_sc_purgeTime_72 rfl rfl ?_
        refine sm_goto 36 d_sc_purgeTime_75 rfl ?_
        refine sm_sub [1, 2, 0] rfl ?_
        exact ih _ _ _ _ e0 hf
      · have hf := sm_ifF c13 hf
        refine sm_sub [2] rfl ?_
        exact w_sc_purgeTime_L57 l lo hi d hS _ _ hf
theorem m_sc_purgeTime (l : Launch) (lo hi d : Nat) (hS : sm_has lo hi) {a0 : Nat} {a1 : Int32} {r0 : Int32} {h h' : sm_H} (e0 : sm_at lo hi (0, 9, 0) a0) (hf : f_sc_purgeTime a0 a1 h = some (r0, h')) : sm_Met l lo hi (d + 6) q_sc_purgeTime [.ref a0, .int a1] h (some (.int r0)) h' := by
  refine sm_Met.of (by decide +kernel) rfl ?_
  show sm_W l lo hi (d + 6) q_sc_purgeTime 0 [(0, .ref a0), (1, .int a1)] [] h (some (.int r0)) h'
  unfold f_sc_purgeTime at hf
  refine sm_aload_n 0 rfl d_sc_purgeTime_0 ?_
  refine sm_iload_n 1 rfl d_sc_purgeTime_1 ?_
  obtain ⟨r1, g2, c3, hf⟩ := sm_b2E hf
  refine sm_callV (As := [.int a1]) (rv := some (.int r1)) (h1 := g2) (c := 9) cvv_sc_112 rfl rfl e0 (m_sc_lacksZone l lo hi _ hS e0 c3) rfl rfl d_sc_purgeTime_2 ?_
  refine sm_if_eq 10 d_sc_purgeTime_5 rfl (fun c4 => ?_) (fun c4 => ?_)
  · have hf := sm_ifT c4 hf
    refine sm_aload_n 0 rfl d_sc_purgeTime_10 ?_
    refine sm_getR (n := 53) fl_sc_28 e0 rfl d_sc_purgeTime_11 ?_
    refine sm_aload_n 0 rfl d_sc_purgeTime_14 ?_
    refine sm_getR (n := 40) fl_sc_24 e0 rfl d_sc_purgeTime_15 ?_
    obtain ⟨g5, c6, hf⟩ := sm_bindE hf
    refine sm_callV (As := [.ref (a0 + 40)]) (rv := none) (h1 := g5) (c := 7) cvv_sc_314 rfl rfl (sm_inner e0 2 rfl rfl rfl) (m_st_copyFrom l lo hi _ hS (sm_inner e0 2 rfl rfl rfl) (sm_inner e0 1 rfl rfl rfl) c6) rfl rfl d_sc_purgeTime_18 ?_
    refine sm_aload_n 0 rfl d_sc_purgeTime_21 ?_
    refine sm_getR (n := 53) fl_sc_28 e0 rfl d_sc_purgeTime_22 ?_
    refine sm_iconst (v := 1) (by decide) d_sc_purgeTime_25 ?_
    refine sm_putZ fp_sc_153 (sm_inner e0 2 rfl rfl rfl) rfl rfl (by decide) d_sc_purgeTime_26 ?_
    refine sm_nmH (fun g7 w8 => ?_)
    have hf := sm_letV w8 hf
    refine sm_aload_n 0 rfl d_sc_purgeTime_29 ?_
    refine sm_iload_n 1 rfl d_sc_purgeTime_30 ?_
    obtain ⟨g9, c10, hf⟩ := sm_bindE hf
    refine sm_callV (As := [.int a1]) (rv := none) (h1 := g9) (c := 9) cvv_sc_324 rfl rfl e0 (m_sc_switchZoneOn l lo hi _ hS e0 c10) rfl rfl d_sc_purgeTime_31 ?_
    refine sm_iconst (v := 0) (by decide) d_sc_purgeTime_34 ?_
    refine sm_istore_n (lv' := [(2, .int 0), (0, .ref a0), (1, .int a1)]) d_sc_purgeTime_35 rfl rfl ?_
    refine sm_sub [1, 2, 0] rfl ?_
    exact w_sc_purgeTime_L36 l lo hi d hS sm_N _ _ _ _ e0 hf
  · have hf := sm_ifF c4 hf
    refine sm_iconst (v := (-1)) (by decide) d_sc_purgeTime_8 ?_
    obtain ⟨rfl, rfl⟩ := sm_ret2 hf
    exact sm_iret d_sc_purgeTime_9 rfl
theorem d_pl_fullPressure_0 : decode q_pl_fullPressure.2.1 0 = .ok (.iconst 0, 1) := by decide +kernel
theorem d_pl_fullPressure_1 : decode q_pl_fullPressure.2.1 1 = .ok (.istore_n 2, 1) := by decide +kernel
theorem d_pl_fullPressure_2 : decode q_pl_fullPressure.2.1 2 = .ok (.iconst 0, 1) := by decide +kernel
theorem d_pl_fullPressure_3 : decode q_pl_fullPressure.2.1 3 = .ok (.istore_n 3, 1) := by decide +kernel
theorem d_pl_fullPressure_4 : decode q_pl_fullPressure.2.1 4 = .ok (.iload_n 3, 1) := by decide +kernel
theorem d_pl_fullPressure_5 : decode q_pl_fullPressure.2.1 5 = .ok (.aload_n 0, 1) := by decide +kernel
theorem d_pl_fullPressure_6 : decode q_pl_fullPressure.2.1 6 = .ok (.getfield 53, 3) := by decide +kernel
theorem d_pl_fullPressure_9 : decode q_pl_fullPressure.2.1 9 = .ok (.if_icmp .ge 30, 3) := by decide +kernel
theorem d_pl_fullPressure_12 : decode q_pl_fullPressure.2.1 12 = .ok (.iload_n 2, 1) := by decide +kernel
theorem d_pl_fullPressure_13 : decode q_pl_fullPressure.2.1 13 = .ok (.aload_n 0, 1) := by decide +kernel
theorem d_pl_fullPressure_14 : decode q_pl_fullPressure.2.1 14 = .ok (.iload_n 3, 1) := by decide +kernel
theorem d_pl_fullPressure_15 : decode q_pl_fullPressure.2.1 15 = .ok (.invokevirtual 87, 3) := by decide +kernel
theorem d_pl_fullPressure_18 : decode q_pl_fullPressure.2.1 18 = .ok (.ifCond .eq 12, 3) := by decide +kernel
theorem d_pl_fullPressure_21 : decode q_pl_fullPressure.2.1 21 = .ok (.aload_n 0, 1) := by decide +kernel
theorem d_pl_fullPressure_22 : decode q_pl_fullPressure.2.1 22 = .ok (.getfield 21, 3) := by decide +kernel
theorem d_pl_fullPressure_25 : decode q_pl_fullPressure.2.1 25 = .ok (.iload_n 3, 1) := by decide +kernel
theorem d_pl_fullPressure_26 : decode q_pl_fullPressure.2.1 26 = .ok (.iaload, 1) := by decide +kernel
theorem d_pl_fullPressure_27 : decode q_pl_fullPressure.2.1 27 = .ok (.goto 4, 3) := by decide +kernel
theorem d_pl_fullPressure_30 : decode q_pl_fullPressure.2.1 30 = .ok (.iconst 0, 1) := by decide +kernel
theorem d_pl_fullPressure_31 : decode q_pl_fullPressure.2.1 31 = .ok (.iadd, 1) := by decide +kernel
theorem d_pl_fullPressure_32 : decode q_pl_fullPressure.2.1 32 = .ok (.istore_n 2, 1) := by decide +kernel
theorem d_pl_fullPressure_33 : decode q_pl_fullPressure.2.1 33 = .ok (.iinc 3 1, 3) := by decide +kernel
theorem d_pl_fullPressure_36 : decode q_pl_fullPressure.2.1 36 = .ok (.goto (-32), 3) := by decide +kernel
theorem d_pl_fullPressure_39 : decode q_pl_fullPressure.2.1 39 = .ok (.aload_n 0, 1) := by decide +kernel
theorem d_pl_fullPressure_40 : decode q_pl_fullPressure.2.1 40 = .ok (.iload_n 2, 1) := by decide +kernel
theorem d_pl_fullPressure_41 : decode q_pl_fullPressure.2.1 41 = .ok (.iload_n 1, 1) := by decide +kernel
theorem d_pl_fullPressure_42 : decode q_pl_fullPressure.2.1 42 = .ok (.invokevirtual 91, 3) := by decide +kernel
theorem d_pl_fullPressure_45 : decode q_pl_fullPressure.2.1 45 = .ok (.ireturn, 1) := by decide +kernel
theorem w_pl_fullPressure_L39 (l : Launch) (lo hi d : Nat) {h' : sm_H} {r0 : Int32} (a0 : Nat) (a1 : Int32) (a2 : Int32) (h : sm_H) (e0 : sm_at lo hi (0, 4, 0) a0) (hf : f_pl_fullPressure_L39 a0 a1 a2 h = some (r0, h')) : sm_W l lo hi (d + 3) q_pl_fullPressure 39 [(0, .ref a0), (1, .int a1), (2, .int a2)] [] h (some (.int r0)) h' := by
  unfold f_pl_fullPressure_L39 at hf
  refine sm_aload_n 0 rfl d_pl_fullPressure_39 ?_
  refine sm_iload_n 2 rfl d_pl_fullPressure_40 ?_
  refine sm_iload_n 1 rfl d_pl_fullPressure_41 ?_
  obtain ⟨r11, g12, c13, hf⟩ := sm_b2E hf
  refine sm_callV (As := [.int a2, .int a1]) (rv := some (.int r11)) (h1 := g12) (c := 4) cvv_pl_91 rfl rfl e0 (m_pl_pressureOf l lo hi _ e0 c13) rfl rfl d_pl_fullPressure_42 ?_
  obtain ⟨rfl, rfl⟩ := sm_ret2 hf
  exact sm_iret d_pl_fullPressure_45 rfl
theorem w_pl_fullPressure_L31 (l : Launch) (lo hi d : Nat) {k4 : Nat → Int32 → Int32 → Int32 → sm_H → Option (Int32 × sm_H)} {h' : sm_H} {r0 : Int32} (hk4 : ∀ (a0 : Nat) (a1 : Int32) (a2 : Int32) (a3 : Int32) (h : sm_H) (_ : sm_at lo hi (0, 4, 0) a0) , k4 a0 a1 a2 a3 h = some (r0, h') → sm_W l lo hi (d + 3) q_pl_fullPressure 4 [(0, .ref a0), (1, .int a1), (2, .int a2), (3, .int a3)] [] h (some (.int r0)) h') (a0 : Nat) (a1 : Int32) (a3 : Int32) (s0 : Int32) (s1 : Int32) (h : sm_H) (e0 : sm_at lo hi (0, 4, 0) a0) (hf : f_pl_fullPressure_L31 k4 a0 a1 a3 s0 s1 h = some (r0, h')) : sm_W l lo hi (d + 3) q_pl_fullPressure 31 [(0, .ref a0), (1, .int a1), (3, .int a3)] [.int s0, .int s1] h (some (.int r0)) h' := by
  unfold f_pl_fullPressure_L31 at hf
  refine sm_iadd d_pl_fullPressure_31 ?_
  refine sm_nmI (fun x7 w8 => ?_)
  have hf := sm_letV w8 hf
  refine sm_istore_n (lv' := [(2, .int x7), (0, .ref a0), (1, .int a1), (3, .int a3)]) d_pl_fullPressure_32 rfl rfl ?_
  obtain ⟨x9, w10⟩ : ∃ v : Int32, v = a3 + 1 := ⟨_, rfl⟩
  have hf := sm_letV w10 hf
  refine sm_iinc (v := x9) (lv' := [(3, .int x9), (2, .int x7), (0, .ref a0), (1, .int a1)]) 3 rfl (by rw [w10]; rfl) d_pl_fullPressure_33 rfl rfl ?_
  refine sm_goto 4 d_pl_fullPressure_36 rfl ?_
  refine sm_sub [2, 3, 1, 0] rfl ?_
  exact hk4 _ _ _ _ _ e0 hf
theorem w_pl_fullPressure_L4 (l : Launch) (lo hi d : Nat) {h' : sm_H} {r0 : Int32} : ∀ (n : Nat) (a0 : Nat) (a1 : Int32) (a2 : Int32) (a3 : Int32) (h : sm_H) (e0 : sm_at lo hi (0, 4, 0) a0) (hf : f_pl_fullPressure_L4 n a0 a1 a2 a3 h = some (r0, h')), sm_W l lo hi (d + 3) q_pl_fullPressure 4 [(0, .ref a0), (1, .int a1), (2, .int a2), (3, .int a3)] [] h (some (.int r0)) h' := by
  intro n
  induction n with
  | zero =>
    intro a0 a1 a2 a3 h e0 hf
    have z : (none : Option (Int32 × sm_H)) = some _ := hf
    cases z
  | succ n ih =>
    intro a0 a1 a2 a3 h e0 hf
    unfold f_pl_fullPressure_L4 at hf
    refine sm_iload_n 3 rfl d_pl_fullPressure_4 ?_
    refine sm_aload_n 0 rfl d_pl_fullPressure_5 ?_
    refine sm_getI fl_pl_53 e0 rfl d_pl_fullPressure_6 ?_
    refine sm_icmp_ge 39 d_pl_fullPressure_9 rfl (fun c1 => ?_) (fun c1 => ?_)
    · have hf := sm_ifT c1 hf
      refine sm_sub [0, 1, 2] rfl ?_
      exact w_pl_fullPressure_L39 l lo hi d _ _ _ _ e0 hf
    · have hf := sm_ifF c1 hf
      refine sm_iload_n 2 rfl d_pl_fullPressure_12 ?_
      refine sm_aload_n 0 rfl d_pl_fullPressure_13 ?_
      refine sm_iload_n 3 rfl d_pl_fullPressure_14 ?_
      obtain ⟨r2, g3, c4, hf⟩ := sm_b2E hf
      refine sm_callV (As := [.int a3]) (rv := some (.int r2)) (h1 := g3) (c := 4) cvv_pl_87 rfl rfl e0 (m_pl_isStairFan l lo hi _ e0 c4) rfl rfl d_pl_fullPressure_15 ?_
      refine sm_if_eq 30 d_pl_fullPressure_18 rfl (fun c5 => ?_) (fun c5 => ?_)
      · have hf := sm_ifT c5 hf
        refine sm_iconst (v := 0) (by decide) d_pl_fullPressure_30 ?_
        refine sm_sub [0, 1, 3] rfl ?_
        exact w_pl_fullPressure_L31 l lo hi d ih _ _ _ _ _ _ e0 hf
      · have hf := sm_ifF c5 hf
        refine sm_aload_n 0 rfl d_pl_fullPressure_21 ?_
        refine sm_getR (n := 4) fl_pl_21 e0 rfl d_pl_fullPressure_22 ?_
        refine sm_iload_n 3 rfl d_pl_fullPressure_25 ?_
        obtain ⟨c6, hf⟩ := sm_gdE hf
        refine sm_iald (sm_at_arr (sm_inner e0 10 rfl rfl rfl)) c6 d_pl_fullPressure_26 ?_
        refine sm_goto 31 d_pl_fullPressure_27 rfl ?_
        refine sm_sub [0, 1, 3] rfl ?_
        exact w_pl_fullPressure_L31 l lo hi d ih _ _ _ _ _ _ e0 hf
theorem m_pl_fullPressure (l : Launch) (lo hi d : Nat) {a0 : Nat} {a1 : Int32} {r0 : Int32} {h h' : sm_H} (e0 : sm_at lo hi (0, 4, 0) a0) (hf : f_pl_fullPressure a0 a1 h = some (r0, h')) : sm_Met l lo hi (d + 3) q_pl_fullPressure [.ref a0, .int a1] h (some (.int r0)) h' := by
  refine sm_Met.of (by decide +kernel) rfl ?_
  show sm_W l lo hi (d + 3) q_pl_fullPressure 0 [(0, .ref a0), (1, .int a1)] [] h (some (.int r0)) h'
  unfold f_pl_fullPressure at hf
  refine sm_iconst (v := 0) (by decide) d_pl_fullPressure_0 ?_
  refine sm_istore_n (lv' := [(2, .int 0), (0, .ref a0), (1, .int a1)]) d_pl_fullPressure_1 rfl rfl ?_
  refine sm_iconst (v := 0) (by decide) d_pl_fullPressure_2 ?_
  refine sm_istore_n (lv' := [(3, .int 0), (2, .int 0), (0, .ref a0), (1, .int a1)]) d_pl_fullPressure_3 rfl rfl ?_
  refine sm_sub [2, 3, 1, 0] rfl ?_
  exact w_pl_fullPressure_L4 l lo hi d sm_N _ _ _ _ _ e0 hf
theorem d_sc_pressureWith_0 : decode q_sc_pressureWith.2.1 0 = .ok (.iload_n 1, 1) := by decide +kernel
theorem d_sc_pressureWith_1 : decode q_sc_pressureWith.2.1 1 = .ok (.ifCond .lt 19, 3) := by decide +kernel
theorem d_sc_pressureWith_4 : decode q_sc_pressureWith.2.1 4 = .ok (.iload_n 1, 1) := by decide +kernel
theorem d_sc_pressureWith_5 : decode q_sc_pressureWith.2.1 5 = .ok (.iconst 1, 1) := by decide +kernel
theorem d_sc_pressureWith_6 : decode q_sc_pressureWith.2.1 6 = .ok (.aload_n 0, 1) := by decide +kernel
theorem d_sc_pressureWith_7 : decode q_sc_pressureWith.2.1 7 = .ok (.getfield 24, 3) := by decide +kernel
theorem d_sc_pressureWith_10 : decode q_sc_pressureWith.2.1 10 = .ok (.getfield 70, 3) := by decide +kernel
theorem d_sc_pressureWith_13 : decode q_sc_pressureWith.2.1 13 = .ok (.getfield 92, 3) := by decide +kernel
theorem d_sc_pressureWith_16 : decode q_sc_pressureWith.2.1 16 = .ok (.ishl, 1) := by decide +kernel
theorem d_sc_pressureWith_17 : decode q_sc_pressureWith.2.1 17 = .ok (.if_icmp .lt 6, 3) := by decide +kernel
theorem d_sc_pressureWith_20 : decode q_sc_pressureWith.2.1 20 = .ok (.bipush (-2), 2) := by decide +kernel
theorem d_sc_pressureWith_22 : decode q_sc_pressureWith.2.1 22 = .ok (.ireturn, 1) := by decide +kernel
theorem d_sc_pressureWith_23 : decode q_sc_pressureWith.2.1 23 = .ok (.aload_n 0, 1) := by decide +kernel
theorem d_sc_pressureWith_24 : decode q_sc_pressureWith.2.1 24 = .ok (.getfield 24, 3) := by decide +kernel
theorem d_sc_pressureWith_27 : decode q_sc_pressureWith.2.1 27 = .ok (.getfield 70, 3) := by decide +kernel
theorem d_sc_pressureWith_30 : decode q_sc_pressureWith.2.1 30 = .ok (.iload_n 1, 1) := by decide +kernel
theorem d_sc_pressureWith_31 : decode q_sc_pressureWith.2.1 31 = .ok (.invokevirtual 330, 3) := by decide +kernel
theorem d_sc_pressureWith_34 : decode q_sc_pressureWith.2.1 34 = .ok (.ireturn, 1) := by decide +kernel
theorem w_sc_pressureWith_L20 (l : Launch) (lo hi d : Nat) (hS : sm_has lo hi) {h' : sm_H} {r0 : Int32} (h : sm_H) (hf : f_sc_pressureWith_L20 h = some (r0, h')) : sm_W l lo hi (d + 4) q_sc_pressureWith 20 [] [] h (some (.int r0)) h' := by
  unfold f_sc_pressureWith_L20 at hf
  refine sm_bipush (v := (-2)) (by decide) d_sc_pressureWith_20 ?_
  obtain ⟨rfl, rfl⟩ := sm_ret2 hf
  exact sm_iret d_sc_pressureWith_22 rfl
theorem m_sc_pressureWith (l : Launch) (lo hi d : Nat) (hS : sm_has lo hi) {a0 : Nat} {a1 : Int32} {r0 : Int32} {h h' : sm_H} (e0 : sm_at lo hi (0, 9, 0) a0) (hf : f_sc_pressureWith a0 a1 h = some (r0, h')) : sm_Met l lo hi (d + 4) q_sc_pressureWith [.ref a0, .int a1] h (some (.int r0)) h' := by
  refine sm_Met.of (by decide +kernel) rfl ?_
  show sm_W l lo hi (d + 4) q_sc_pressureWith 0 [(0, .ref a0), (1, .int a1)] [] h (some (.int r0)) h'
  unfold f_sc_pressureWith at hf
  refine sm_iload_n 1 rfl d_sc_pressureWith_0 ?_
  refine sm_if_lt 20 d_sc_pressureWith_1 rfl (fun c1 => ?_) (fun c1 => ?_)
  · have hf := sm_ifT c1 hf
    refine sm_sub [] rfl ?_
    exact w_sc_pressureWith_L20 l lo hi d hS _ hf
  · have hf := sm_ifF c1 hf
    refine sm_iload_n 1 rfl d_sc_pressureWith_4 ?_
    refine sm_iconst (v := 1) (by decide) d_sc_pressureWith_5 ?_
    refine sm_aload_n 0 rfl d_sc_pressureWith_6 ?_
    refine sm_getR (n := 40) fl_sc_24 e0 rfl d_sc_pressureWith_7 ?_
    obtain ⟨c2, hf⟩ := sm_gdE hf
    obtain ⟨z3, v4⟩ := sm_isP_at hS c2
    refine sm_getD fl_sc_70 (sm_inner e0 1 rfl rfl rfl) rfl z3 d_sc_pressureWith_10 ?_
    refine sm_nmR (fun p5 w6 => ?_)
    have hf := sm_letV w6 hf
    have v4 := sm_ev w6 v4
    refine sm_getI fl_sc_92 v4 rfl d_sc_pressureWith_13 ?_
    refine sm_ishl d_sc_pressureWith_16 ?_
    refine sm_icmp_lt 23 d_sc_pressureWith_17 rfl (fun c7 => ?_) (fun c7 => ?_)
    · have hf := sm_ifT c7 hf
      refine sm_aload_n 0 rfl d_sc_pressureWith_23 ?_
      refine sm_getR (n := 40) fl_sc_24 e0 rfl d_sc_pressureWith_24 ?_
      obtain ⟨c8, hf⟩ := sm_gdE hf
      obtain ⟨z9, v10⟩ := sm_isP_at hS c8
      refine sm_getD fl_sc_70 (sm_inner e0 1 rfl rfl rfl) rfl z9 d_sc_pressureWith_27 ?_
      refine sm_nmR (fun p11 w12 => ?_)
      have hf := sm_letV w12 hf
      have v10 := sm_ev w12 v10
      refine sm_iload_n 1 rfl d_sc_pressureWith_30 ?_
      obtain ⟨r13, g14, c15, hf⟩ := sm_b2E hf
      refine sm_callV (As := [.int a1]) (rv := some (.int r13)) (h1 := g14) (c := 4) cvv_sc_330 rfl rfl v10 (m_pl_fullPressure l lo hi _ v10 c15) rfl rfl d_sc_pressureWith_31 ?_
      obtain ⟨rfl, rfl⟩ := sm_ret2 hf
      exact sm_iret d_sc_pressureWith_34 rfl
    · have hf := sm_ifF c7 hf
      refine sm_sub [] rfl ?_
      exact w_sc_pressureWith_L20 l lo hi d hS _ hf
theorem d_pl_narrowestDoor_0 : decode q_pl_narrowestDoor.2.1 0 = .ok (.iconst 0, 1) := by decide +kernel
theorem d_pl_narrowestDoor_1 : decode q_pl_narrowestDoor.2.1 1 = .ok (.istore_n 2, 1) := by decide +kernel
theorem d_pl_narrowestDoor_2 : decode q_pl_narrowestDoor.2.1 2 = .ok (.sipush 500, 3) := by decide +kernel
theorem d_pl_narrowestDoor_5 : decode q_pl_narrowestDoor.2.1 5 = .ok (.istore_n 3, 1) := by decide +kernel
theorem d_pl_narrowestDoor_6 : decode q_pl_narrowestDoor.2.1 6 = .ok (.iconst 0, 1) := by decide +kernel
theorem d_pl_narrowestDoor_7 : decode q_pl_narrowestDoor.2.1 7 = .ok (.istore 4, 2) := by decide +kernel
theorem d_pl_narrowestDoor_9 : decode q_pl_narrowestDoor.2.1 9 = .ok (.iload 4, 2) := by decide +kernel
theorem d_pl_narrowestDoor_11 : decode q_pl_narrowestDoor.2.1 11 = .ok (.aload_n 0, 1) := by decide +kernel
theorem d_pl_narrowestDoor_12 : decode q_pl_narrowestDoor.2.1 12 = .ok (.getfield 56, 3) := by decide +kernel
theorem d_pl_narrowestDoor_15 : decode q_pl_narrowestDoor.2.1 15 = .ok (.if_icmp .ge 47, 3) := by decide +kernel
theorem d_pl_narrowestDoor_18 : decode q_pl_narrowestDoor.2.1 18 = .ok (.aload_n 0, 1) := by decide +kernel
theorem d_pl_narrowestDoor_19 : decode q_pl_narrowestDoor.2.1 19 = .ok (.getfield 33, 3) := by decide +kernel
theorem d_pl_narrowestDoor_22 : decode q_pl_narrowestDoor.2.1 22 = .ok (.iload 4, 2) := by decide +kernel
theorem d_pl_narrowestDoor_24 : decode q_pl_narrowestDoor.2.1 24 = .ok (.iaload, 1) := by decide +kernel
theorem d_pl_narrowestDoor_25 : decode q_pl_narrowestDoor.2.1 25 = .ok (.aload_n 0, 1) := by decide +kernel
theorem d_pl_narrowestDoor_26 : decode q_pl_narrowestDoor.2.1 26 = .ok (.getfield 30, 3) := by decide +kernel
theorem d_pl_narrowestDoor_29 : decode q_pl_narrowestDoor.2.1 29 = .ok (.iload 4, 2) := by decide +kernel
theorem d_pl_narrowestDoor_31 : decode q_pl_narrowestDoor.2.1 31 = .ok (.iaload, 1) := by decide +kernel
theorem d_pl_narrowestDoor_32 : decode q_pl_narrowestDoor.2.1 32 = .ok (.isub, 1) := by decide +kernel
theorem d_pl_narrowestDoor_33 : decode q_pl_narrowestDoor.2.1 33 = .ok (.istore 5, 2) := by decide +kernel
theorem d_pl_narrowestDoor_35 : decode q_pl_narrowestDoor.2.1 35 = .ok (.iload_n 1, 1) := by decide +kernel
theorem d_pl_narrowestDoor_36 : decode q_pl_narrowestDoor.2.1 36 = .ok (.iload 4, 2) := by decide +kernel
theorem d_pl_narrowestDoor_38 : decode q_pl_narrowestDoor.2.1 38 = .ok (.invokestatic 73, 3) := by decide +kernel
theorem d_pl_narrowestDoor_41 : decode q_pl_narrowestDoor.2.1 41 = .ok (.ifCond .ne 15, 3) := by decide +kernel
theorem d_pl_narrowestDoor_44 : decode q_pl_narrowestDoor.2.1 44 = .ok (.iload 5, 2) := by decide +kernel
theorem d_pl_narrowestDoor_46 : decode q_pl_narrowestDoor.2.1 46 = .ok (.iload_n 3, 1) := by decide +kernel
theorem d_pl_narrowestDoor_47 : decode q_pl_narrowestDoor.2.1 47 = .ok (.if_icmp .ge 9, 3) := by decide +kernel
theorem d_pl_narrowestDoor_50 : decode q_pl_narrowestDoor.2.1 50 = .ok (.iload 5, 2) := by decide +kernel
theorem d_pl_narrowestDoor_52 : decode q_pl_narrowestDoor.2.1 52 = .ok (.istore_n 3, 1) := by decide +kernel
theorem d_pl_narrowestDoor_53 : decode q_pl_narrowestDoor.2.1 53 = .ok (.iload 4, 2) := by decide +kernel
theorem d_pl_narrowestDoor_55 : decode q_pl_narrowestDoor.2.1 55 = .ok (.istore_n 2, 1) := by decide +kernel
theorem d_pl_narrowestDoor_56 : decode q_pl_narrowestDoor.2.1 56 = .ok (.iinc 4 1, 3) := by decide +kernel
theorem d_pl_narrowestDoor_59 : decode q_pl_narrowestDoor.2.1 59 = .ok (.goto (-50), 3) := by decide +kernel
theorem d_pl_narrowestDoor_62 : decode q_pl_narrowestDoor.2.1 62 = .ok (.iload_n 2, 1) := by decide +kernel
theorem d_pl_narrowestDoor_63 : decode q_pl_narrowestDoor.2.1 63 = .ok (.ireturn, 1) := by decide +kernel
theorem w_pl_narrowestDoor_L62 (l : Launch) (lo hi d : Nat) {h' : sm_H} {r0 : Int32} (a2 : Int32) (h : sm_H) (hf : f_pl_narrowestDoor_L62 a2 h = some (r0, h')) : sm_W l lo hi (d + 1) q_pl_narrowestDoor 62 [(2, .int a2)] [] h (some (.int r0)) h' := by
  unfold f_pl_narrowestDoor_L62 at hf
  refine sm_iload_n 0 rfl d_pl_narrowestDoor_62 ?_
  obtain ⟨rfl, rfl⟩ := sm_ret2 hf
  exact sm_iret d_pl_narrowestDoor_63 rfl
theorem w_pl_narrowestDoor_L56 (l : Launch) (lo hi d : Nat) {k9 : Nat → Int32 → Int32 → Int32 → Int32 → sm_H → Option (Int32 × sm_H)} {h' : sm_H} {r0 : Int32} (hk9 : ∀ (a0 : Nat) (a1 : Int32) (a2 : Int32) (a3 : Int32) (a4 : Int32) (h : sm_H) (_ : sm_at lo hi (0, 4, 0) a0) , k9 a0 a1 a2 a3 a4 h = some (r0, h') → sm_W l lo hi (d + 1) q_pl_narrowestDoor 9 [(0, .ref a0), (1, .int a1), (2, .int a2), (3, .int a3), (4, .int a4)] [] h (some (.int r0)) h') (a0 : Nat) (a1 : Int32) (a2 : Int32) (a3 : Int32) (a4 : Int32) (h : sm_H) (e0 : sm_at lo hi (0, 4, 0) a0) (hf : f_pl_narrowestDoor_L56 k9 a0 a1 a2 a3 a4 h = some (r0, h')) : sm_W l lo hi (d + 1) q_pl_narrowestDoor 56 [(0, .ref a0), (1, .int a1), (2, .int a2), (3, .int a3), (4, .int a4)] [] h (some (.int r0)) h' := by
  unfold f_pl_narrowestDoor_L56 at hf
  obtain ⟨x11, w12⟩ : ∃ v : Int32, v = a4 + 1 := ⟨_, rfl⟩
  have hf := sm_letV w12 hf
  refine sm_iinc (v := x11) (lv' := [(4, .int x11), (0, .ref a0), (1, .int a1), (2, .int a2), (3, .int a3)]) 4 rfl (by rw [w12]; rfl) d_pl_narrowestDoor_56 rfl rfl ?_
  refine sm_goto 9 d_pl_narrowestDoor_59 rfl ?_
  refine sm_sub [1, 2, 3, 4, 0] rfl ?_
  exact hk9 _ _ _ _ _ _ e0 hf
theorem w_pl_narrowestDoor_L9 (l : Launch) (lo hi d : Nat) {h' : sm_H} {r0 : Int32} : ∀ (n : Nat) (a0 : Nat) (a1 : Int32) (a2 : Int32) (a3 : Int32) (a4 : Int32) (h : sm_H) (e0 : sm_at lo hi (0, 4, 0) a0) (hf : f_pl_narrowestDoor_L9 n a0 a1 a2 a3 a4 h = some (r0, h')), sm_W l lo hi (d + 1) q_pl_narrowestDoor 9 [(0, .ref a0), (1, .int a1), (2, .int a2), (3, .int a3), (4, .int a4)] [] h (some (.int r0)) h' := by
  intro n
  induction n with
  | zero =>
    intro a0 a1 a2 a3 a4 h e0 hf
    have z : (none : Option (Int32 × sm_H)) = some _ := hf
    cases z
  | succ n ih =>
    intro a0 a1 a2 a3 a4 h e0 hf
    unfold f_pl_narrowestDoor_L9 at hf
    refine sm_iload 4 rfl d_pl_narrowestDoor_9 ?_
    refine sm_aload_n 0 rfl d_pl_narrowestDoor_11 ?_
    refine sm_getI fl_pl_56 e0 rfl d_pl_narrowestDoor_12 ?_
    refine sm_icmp_ge 62 d_pl_narrowestDoor_15 rfl (fun c1 => ?_) (fun c1 => ?_)
    · have hf := sm_ifT c1 hf
      refine sm_sub [2] rfl ?_
      exact w_pl_narrowestDoor_L62 l lo hi d _ _ hf
    · have hf := sm_ifF c1 hf
      refine sm_aload_n 0 rfl d_pl_narrowestDoor_18 ?_
      refine sm_getR (n := 8) fl_pl_33 e0 rfl d_pl_narrowestDoor_19 ?_
      refine sm_iload 4 rfl d_pl_narrowestDoor_22 ?_
      obtain ⟨c2, hf⟩ := sm_gdE hf
      refine sm_iald (sm_at_arr (sm_inner e0 14 rfl rfl rfl)) c2 d_pl_narrowestDoor_24 ?_
      refine sm_aload_n 0 rfl d_pl_narrowestDoor_25 ?_
      refine sm_getR (n := 7) fl_pl_30 e0 rfl d_pl_narrowestDoor_26 ?_
      refine sm_iload 4 rfl d_pl_narrowestDoor_29 ?_
      obtain ⟨c3, hf⟩ := sm_gdE hf
      refine sm_iald (sm_at_arr (sm_inner e0 13 rfl rfl rfl)) c3 d_pl_narrowestDoor_31 ?_
      refine sm_isub d_pl_narrowestDoor_32 ?_
      refine sm_nmI (fun x4 w5 => ?_)
      have hf := sm_letV w5 hf
      refine sm_istore (lv' := [(5, .int x4), (0, .ref a0), (1, .int a1), (2, .int a2), (3, .int a3), (4, .int a4)]) d_pl_narrowestDoor_33 rfl rfl ?_
      refine sm_iload_n 2 rfl d_pl_narrowestDoor_35 ?_
      refine sm_iload 5 rfl d_pl_narrowestDoor_36 ?_
      obtain ⟨r6, g7, c8, hf⟩ := sm_b2E hf
      refine sm_callN (As := [.int a1, .int a4]) (rv := some (.int r6)) (h1 := g7) cvn_pl_73 (m_sc_has l lo hi _ c8) rfl rfl d_pl_narrowestDoor_38 ?_
      refine sm_if_ne 56 d_pl_narrowestDoor_41 rfl (fun c9 => ?_) (fun c9 => ?_)
      · have hf := sm_ifF c9 hf
        refine sm_sub [1, 2, 3, 4, 5] rfl ?_
        exact w_pl_narrowestDoor_L56 l lo hi d ih _ _ _ _ _ _ e0 hf
      · have hf := sm_ifT c9 hf
        refine sm_iload 0 rfl d_pl_narrowestDoor_44 ?_
        refine sm_iload_n 4 rfl d_pl_narrowestDoor_46 ?_
        refine sm_icmp_ge 56 d_pl_narrowestDoor_47 rfl (fun c10 => ?_) (fun c10 => ?_)
        · have hf := sm_ifT c10 hf
          refine sm_sub [1, 2, 3, 4, 5] rfl ?_
          exact w_pl_narrowestDoor_L56 l lo hi d ih _ _ _ _ _ _ e0 hf
        · have hf := sm_ifF c10 hf
          refine sm_iload 0 rfl d_pl_narrowestDoor_50 ?_
          refine sm_istore_n (lv' := [(3, .int x4), (5, .int x4), (0, .ref a0), (1, .int a1), (2, .int a2), (4, .int a4)]) d_pl_narrowestDoor_52 rfl rfl ?_
          refine sm_iload 5 rfl d_pl_narrowestDoor_53 ?_
          refine sm_istore_n (lv' := [(2, .int a4), (3, .int x4), (5, .int x4), (0, .ref a0), (1, .int a1), (4, .int a4)]) d_pl_narrowestDoor_55 rfl rfl ?_
          refine sm_sub [3, 4, 0, 1, 5] rfl ?_
          exact w_pl_narrowestDoor_L56 l lo hi d ih _ _ _ _ _ _ e0 hf
theorem m_pl_narrowestDoor (l : Launch) (lo hi d : Nat) {a0 : Nat} {a1 : Int32} {r0 : Int32} {h h' : sm_H} (e0 : sm_at lo hi (0, 4, 0) a0) (hf : f_pl_narrowestDoor a0 a1 h = some (r0, h')) : sm_Met l lo hi (d + 1) q_pl_narrowestDoor [.ref a0, .int a1] h (some (.int r0)) h' := by
  refine sm_Met.of (by decide +kernel) rfl ?_
  show sm_W l lo hi (d + 1) q_pl_narrowestDoor 0 [(0, .ref a0), (1, .int a1)] [] h (some (.int r0)) h'
  unfold f_pl_narrowestDoor at hf
  refine sm_iconst (v := 0) (by decide) d_pl_narrowestDoor_0 ?_
  refine sm_istore_n (lv' := [(2, .int 0), (0, .ref a0), (1, .int a1)]) d_pl_narrowestDoor_1 rfl rfl ?_
  refine sm_sipush (v := 500) (by decide) d_pl_narrowestDoor_2 ?_
  refine sm_istore_n (lv' := [(3, .int 500), (2, .int 0), (0, .ref a0), (1, .int a1)]) d_pl_narrowestDoor_5 rfl rfl ?_
  refine sm_iconst (v := 0) (by decide) d_pl_narrowestDoor_6 ?_
  refine sm_istore (lv' := [(4, .int 0), (3, .int 500), (2, .int 0), (0, .ref a0), (1, .int a1)]) d_pl_narrowestDoor_7 rfl rfl ?_
  refine sm_sub [3, 4, 2, 1, 0] rfl ?_
  exact w_pl_narrowestDoor_L9 l lo hi d sm_N _ _ _ _ _ _ e0 hf
theorem d_sc_mostOpenDoors_0 : decode q_sc_mostOpenDoors.2.1 0 = .ok (.aload_n 0, 1) := by decide +kernel
theorem d_sc_mostOpenDoors_1 : decode q_sc_mostOpenDoors.2.1 1 = .ok (.getfield 24, 3) := by decide +kernel
theorem d_sc_mostOpenDoors_4 : decode q_sc_mostOpenDoors.2.1 4 = .ok (.getfield 70, 3) := by decide +kernel
theorem d_sc_mostOpenDoors_7 : decode q_sc_mostOpenDoors.2.1 7 = .ok (.astore_n 1, 1) := by decide +kernel
theorem d_sc_mostOpenDoors_8 : decode q_sc_mostOpenDoors.2.1 8 = .ok (.aload_n 1, 1) := by decide +kernel
theorem d_sc_mostOpenDoors_9 : decode q_sc_mostOpenDoors.2.1 9 = .ok (.iconst 0, 1) := by decide +kernel
theorem d_sc_mostOpenDoors_10 : decode q_sc_mostOpenDoors.2.1 10 = .ok (.invokevirtual 330, 3) := by decide +kernel
theorem d_sc_mostOpenDoors_13 : decode q_sc_mostOpenDoors.2.1 13 = .ok (.aload_n 1, 1) := by decide +kernel
theorem d_sc_mostOpenDoors_14 : decode q_sc_mostOpenDoors.2.1 14 = .ok (.getfield 103, 3) := by decide +kernel
theorem d_sc_mostOpenDoors_17 : decode q_sc_mostOpenDoors.2.1 17 = .ok (.if_icmp .ge 6, 3) := by decide +kernel
theorem d_sc_mostOpenDoors_20 : decode q_sc_mostOpenDoors.2.1 20 = .ok (.bipush (-4), 2) := by decide +kernel
theorem d_sc_mostOpenDoors_22 : decode q_sc_mostOpenDoors.2.1 22 = .ok (.ireturn, 1) := by decide +kernel
theorem d_sc_mostOpenDoors_23 : decode q_sc_mostOpenDoors.2.1 23 = .ok (.iconst 0, 1) := by decide +kernel
theorem d_sc_mostOpenDoors_24 : decode q_sc_mostOpenDoors.2.1 24 = .ok (.istore_n 2, 1) := by decide +kernel
theorem d_sc_mostOpenDoors_25 : decode q_sc_mostOpenDoors.2.1 25 = .ok (.iconst 0, 1) := by decide +kernel
theorem d_sc_mostOpenDoors_26 : decode q_sc_mostOpenDoors.2.1 26 = .ok (.istore_n 3, 1) := by decide +kernel
theorem d_sc_mostOpenDoors_27 : decode q_sc_mostOpenDoors.2.1 27 = .ok (.iload_n 3, 1) := by decide +kernel
theorem d_sc_mostOpenDoors_28 : decode q_sc_mostOpenDoors.2.1 28 = .ok (.aload_n 1, 1) := by decide +kernel
theorem d_sc_mostOpenDoors_29 : decode q_sc_mostOpenDoors.2.1 29 = .ok (.getfield 92, 3) := by decide +kernel
theorem d_sc_mostOpenDoors_32 : decode q_sc_mostOpenDoors.2.1 32 = .ok (.if_icmp .ge 39, 3) := by decide +kernel
theorem d_sc_mostOpenDoors_35 : decode q_sc_mostOpenDoors.2.1 35 = .ok (.iload_n 2, 1) := by decide +kernel
theorem d_sc_mostOpenDoors_36 : decode q_sc_mostOpenDoors.2.1 36 = .ok (.aload_n 1, 1) := by decide +kernel
theorem d_sc_mostOpenDoors_37 : decode q_sc_mostOpenDoors.2.1 37 = .ok (.iload_n 2, 1) := by decide +kernel
theorem d_sc_mostOpenDoors_38 : decode q_sc_mostOpenDoors.2.1 38 = .ok (.invokevirtual 333, 3) := by decide +kernel
theorem d_sc_mostOpenDoors_41 : decode q_sc_mostOpenDoors.2.1 41 = .ok (.iconst 1, 1) := by decide +kernel
theorem d_sc_mostOpenDoors_42 : decode q_sc_mostOpenDoors.2.1 42 = .ok (.invokestatic 133, 3) := by decide +kernel
theorem d_sc_mostOpenDoors_45 : decode q_sc_mostOpenDoors.2.1 45 = .ok (.istore 4, 2) := by decide +kernel
theorem d_sc_mostOpenDoors_47 : decode q_sc_mostOpenDoors.2.1 47 = .ok (.aload_n 1, 1) := by decide +kernel
theorem d_sc_mostOpenDoors_48 : decode q_sc_mostOpenDoors.2.1 48 = .ok (.iload 4, 2) := by decide +kernel
theorem d_sc_mostOpenDoors_50 : decode q_sc_mostOpenDoors.2.1 50 = .ok (.invokevirtual 330, 3) := by decide +kernel
theorem d_sc_mostOpenDoors_53 : decode q_sc_mostOpenDoors.2.1 53 = .ok (.aload_n 1, 1) := by decide +kernel
theorem d_sc_mostOpenDoors_54 : decode q_sc_mostOpenDoors.2.1 54 = .ok (.getfield 103, 3) := by decide +kernel
theorem d_sc_mostOpenDoors_57 : decode q_sc_mostOpenDoors.2.1 57 = .ok (.if_icmp .ge 5, 3) := by decide +kernel
theorem d_sc_mostOpenDoors_60 : decode q_sc_mostOpenDoors.2.1 60 = .ok (.iload_n 3, 1) := by decide +kernel
theorem d_sc_mostOpenDoors_61 : decode q_sc_mostOpenDoors.2.1 61 = .ok (.ireturn, 1) := by decide +kernel
theorem d_sc_mostOpenDoors_62 : decode q_sc_mostOpenDoors.2.1 62 = .ok (.iload 4, 2) := by decide +kernel
theorem d_sc_mostOpenDoors_64 : decode q_sc_mostOpenDoors.2.1 64 = .ok (.istore_n 2, 1) := by decide +kernel
theorem d_sc_mostOpenDoors_65 : decode q_sc_mostOpenDoors.2.1 65 = .ok (.iinc 3 1, 3) := by decide +kernel
theorem d_sc_mostOpenDoors_68 : decode q_sc_mostOpenDoors.2.1 68 = .ok (.goto (-41), 3) := by decide +kernel
theorem d_sc_mostOpenDoors_71 : decode q_sc_mostOpenDoors.2.1 71 = .ok (.aload_n 1, 1) := by decide +kernel
theorem d_sc_mostOpenDoors_72 : decode q_sc_mostOpenDoors.2.1 72 = .ok (.getfield 92, 3) := by decide +kernel
theorem d_sc_mostOpenDoors_75 : decode q_sc_mostOpenDoors.2.1 75 = .ok (.ireturn, 1) := by decide +kernel
theorem w_sc_mostOpenDoors_L71 (l : Launch) (lo hi d : Nat) (hS : sm_has lo hi) {h' : sm_H} {r0 : Int32} (a1 : Nat) (h : sm_H) (e1 : sm_at lo hi (0, 4, 0) a1) (hf : f_sc_mostOpenDoors_L71 a1 h = some (r0, h')) : sm_W l lo hi (d + 4) q_sc_mostOpenDoors 71 [(1, .ref a1)] [] h (some (.int r0)) h' := by
  unfold f_sc_mostOpenDoors_L71 at hf
  refine sm_aload_n 0 rfl d_sc_mostOpenDoors_71 ?_
  refine sm_getI fl_sc_92 e1 rfl d_sc_mostOpenDoors_72 ?_
  obtain ⟨rfl, rfl⟩ := sm_ret2 hf
  exact sm_iret d_sc_mostOpenDoors_75 rfl
theorem w_sc_mostOpenDoors_L60 (l : Launch) (lo hi d : Nat) (hS : sm_has lo hi) {h' : sm_H} {r0 : Int32} (a3 : Int32) (h : sm_H) (hf : f_sc_mostOpenDoors_L60 a3 h = some (r0, h')) : sm_W l lo hi (d + 4) q_sc_mostOpenDoors 60 [(3, .int a3)] [] h (some (.int r0)) h' := by
  unfold f_sc_mostOpenDoors_L60 at hf
  refine sm_iload_n 0 rfl d_sc_mostOpenDoors_60 ?_
  obtain ⟨rfl, rfl⟩ := sm_ret2 hf
  exact sm_iret d_sc_mostOpenDoors_61 rfl
theorem w_sc_mostOpenDoors_L27 (l : Launch) (lo hi d : Nat) (hS : sm_has lo hi) {h' : sm_H} {r0 : Int32} : ∀ (n : Nat) (a1 : Nat) (a2 : Int32) (a3 : Int32) (h : sm_H) (e1 : sm_at lo hi (0, 4, 0) a1) (hf : f_sc_mostOpenDoors_L27 n a1 a2 a3 h = some (r0, h')), sm_W l lo hi (d + 4) q_sc_mostOpenDoors 27 [(1, .ref a1), (2, .int a2), (3, .int a3)] [] h (some (.int r0)) h' := by
  intro n
  induction n with
  | zero =>
    intro a1 a2 a3 h e1 hf
    have z : (none : Option (Int32 × sm_H)) = some _ := hf
    cases z
  | succ n ih =>
    intro a1 a2 a3 h e1 hf
    unfold f_sc_mostOpenDoors_L27 at hf
    refine sm_iload_n 2 rfl d_sc_mostOpenDoors_27 ?_
    refine sm_aload_n 0 rfl d_sc_mostOpenDoors_28 ?_
    refine sm_getI fl_sc_92 e1 rfl d_sc_mostOpenDoors_29 ?_
    refine sm_icmp_ge 71 d_sc_mostOpenDoors_32 rfl (fun c10 => ?_) (fun c10 => ?_)
    · have hf := sm_ifT c10 hf
      refine sm_sub [0] rfl ?_
      exact w_sc_mostOpenDoors_L71 l lo hi d hS _ _ e1 hf
    · have hf := sm_ifF c10 hf
      refine sm_iload_n 1 rfl d_sc_mostOpenDoors_35 ?_
      refine sm_aload_n 0 rfl d_sc_mostOpenDoors_36 ?_
      refine sm_iload_n 1 rfl d_sc_mostOpenDoors_37 ?_
      obtain ⟨r11, g12, c13, hf⟩ := sm_b2E hf
      refine sm_callV (As := [.int a2]) (rv := some (.int r11)) (h1 := g12) (c := 4) cvv_sc_333 rfl rfl e1 (m_pl_narrowestDoor l lo hi _ e1 c13) rfl rfl d_sc_mostOpenDoors_38 ?_
      refine sm_iconst (v := 1) (by decide) d_sc_mostOpenDoors_41 ?_
      obtain ⟨r14, g15, c16, hf⟩ := sm_b2E hf
      refine sm_callS (As := [.int a2, .int r11, .int 1]) (rv := some (.int r14)) (h1 := g15) cvs_sc_133 (m_sc_with l lo hi _ c16) rfl rfl d_sc_mostOpenDoors_42 ?_
      refine sm_istore (lv' := [(4, .int r14), (1, .ref a1), (2, .int a2), (3, .int a3)]) d_sc_mostOpenDoors_45 rfl rfl ?_
      refine sm_aload_n 1 rfl d_sc_mostOpenDoors_47 ?_
      refine sm_iload 0 rfl d_sc_mostOpenDoors_48 ?_
      obtain ⟨r17, g18, c19, hf⟩ := sm_b2E hf
      refine sm_callV (As := [.int r14]) (rv := some (.int r17)) (h1 := g18) (c := 4) cvv_sc_330 rfl rfl e1 (m_pl_fullPressure l lo hi _ e1 c19) rfl rfl d_sc_mostOpenDoors_50 ?_
      refine sm_aload_n 1 rfl d_sc_mostOpenDoors_53 ?_
      refine sm_getI fl_sc_103 e1 rfl d_sc_mostOpenDoors_54 ?_
      refine sm_icmp_ge 62 d_sc_mostOpenDoors_57 rfl (fun c20 => ?_) (fun c20 => ?_)
      · have hf := sm_ifT c20 hf
        refine sm_iload 0 rfl d_sc_mostOpenDoors_62 ?_
        refine sm_istore_n (lv' := [(2, .int r14), (4, .int r14), (1, .ref a1), (3, .int a3)]) d_sc_mostOpenDoors_64 rfl rfl ?_
        obtain ⟨x21, w22⟩ : ∃ v : Int32, v = a3 + 1 := ⟨_, rfl⟩
        have hf := sm_letV w22 hf
        refine sm_iinc (v := x21) (lv' := [(3, .int x21), (2, .int r14), (4, .int r14), (1, .ref a1)]) 3 rfl (by rw [w22]; rfl) d_sc_mostOpenDoors_65 rfl rfl ?_
        refine sm_goto 27 d_sc_mostOpenDoors_68 rfl ?_
        refine sm_sub [3, 1, 0] rfl ?_
        exact ih _ _ _ _ e1 hf
      · have hf := sm_ifF c20 hf
        refine sm_sub [3] rfl ?_
        exact w_sc_mostOpenDoors_L60 l lo hi d hS _ _ hf
theorem m_sc_mostOpenDoors (l : Launch) (lo hi d : Nat) (hS : sm_has lo hi) {a0 : Nat} {r0 : Int32} {h h' : sm_H} (e0 : sm_at lo hi (0, 9, 0) a0) (hf : f_sc_mostOpenDoors a0 h = some (r0, h')) : sm_Met l lo hi (d + 4) q_sc_mostOpenDoors [.ref a0] h (some (.int r0)) h' := by
  refine sm_Met.of (by decide +kernel) rfl ?_
  show sm_W l lo hi (d + 4) q_sc_mostOpenDoors 0 [(0, .ref a0)] [] h (some (.int r0)) h'
  unfold f_sc_mostOpenDoors at hf
  refine sm_aload_n 0 rfl d_sc_mostOpenDoors_0 ?_
  refine sm_getR (n := 40) fl_sc_24 e0 rfl d_sc_mostOpenDoors_1 ?_
  obtain ⟨c1, hf⟩ := sm_gdE hf
  obtain ⟨z2, v3⟩ := sm_isP_at hS c1
  refine sm_getD fl_sc_70 (sm_inner e0 1 rfl rfl rfl) rfl z2 d_sc_mostOpenDoors_4 ?_
  refine sm_nmR (fun p4 w5 => ?_)
  have hf := sm_letV w5 hf
  have v3 := sm_ev w5 v3
  refine sm_astore_n (lv' := [(1, .ref p4), (0, .ref a0)]) d_sc_mostOpenDoors_7 rfl rfl ?_
  refine sm_aload_n 0 rfl d_sc_mostOpenDoors_8 ?_
  refine sm_iconst (v := 0) (by decide) d_sc_mostOpenDoors_9 ?_
  obtain ⟨r6, g7, c8, hf⟩ := sm_b2E hf
  refine sm_callV (As := [.int 0]) (rv := some (.int r6)) (h1 := g7) (c := 4) cvv_sc_330 rfl rfl v3 (m_pl_fullPressure l lo hi _ v3 c8) rfl rfl d_sc_mostOpenDoors_10 ?_
  refine sm_aload_n 0 rfl d_sc_mostOpenDoors_13 ?_
  refine sm_getI fl_sc_103 v3 rfl d_sc_mostOpenDoors_14 ?_
  refine sm_icmp_ge 23 d_sc_mostOpenDoors_17 rfl (fun c9 => ?_) (fun c9 => ?_)
  · have hf := sm_ifT c9 hf
    refine sm_iconst (v := 0) (by decide) d_sc_mostOpenDoors_23 ?_
    refine sm_istore_n (lv' := [(2, .int 0), (1, .ref p4), (0, .ref a0)]) d_sc_mostOpenDoors_24 rfl rfl ?_
    refine sm_iconst (v := 0) (by decide) d_sc_mostOpenDoors_25 ?_
    refine sm_istore_n (lv' := [(3, .int 0), (2, .int 0), (1, .ref p4), (0, .ref a0)]) d_sc_mostOpenDoors_26 rfl rfl ?_
    refine sm_sub [2, 1, 0] rfl ?_
    exact w_sc_mostOpenDoors_L27 l lo hi d hS sm_N _ _ _ _ v3 hf
  · have hf := sm_ifF c9 hf
    refine sm_bipush (v := (-4)) (by decide) d_sc_mostOpenDoors_20 ?_
    obtain ⟨rfl, rfl⟩ := sm_ret2 hf
    exact sm_iret d_sc_mostOpenDoors_22 rfl
theorem d_sc_worstDoor_0 : decode q_sc_worstDoor.2.1 0 = .ok (.bipush (-4), 2) := by decide +kernel
theorem d_sc_worstDoor_2 : decode q_sc_worstDoor.2.1 2 = .ok (.istore_n 1, 1) := by decide +kernel
theorem d_sc_worstDoor_3 : decode q_sc_worstDoor.2.1 3 = .ok (.sipush 1000, 3) := by decide +kernel
theorem d_sc_worstDoor_6 : decode q_sc_worstDoor.2.1 6 = .ok (.istore_n 2, 1) := by decide +kernel
theorem d_sc_worstDoor_7 : decode q_sc_worstDoor.2.1 7 = .ok (.iconst 0, 1) := by decide +kernel
theorem d_sc_worstDoor_8 : decode q_sc_worstDoor.2.1 8 = .ok (.istore_n 3, 1) := by decide +kernel
theorem d_sc_worstDoor_9 : decode q_sc_worstDoor.2.1 9 = .ok (.iload_n 3, 1) := by decide +kernel
theorem d_sc_worstDoor_10 : decode q_sc_worstDoor.2.1 10 = .ok (.aload_n 0, 1) := by decide +kernel
theorem d_sc_worstDoor_11 : decode q_sc_worstDoor.2.1 11 = .ok (.getfield 24, 3) := by decide +kernel
theorem d_sc_worstDoor_14 : decode q_sc_worstDoor.2.1 14 = .ok (.getfield 70, 3) := by decide +kernel
theorem d_sc_worstDoor_17 : decode q_sc_worstDoor.2.1 17 = .ok (.getfield 92, 3) := by decide +kernel
theorem d_sc_worstDoor_20 : decode q_sc_worstDoor.2.1 20 = .ok (.if_icmp .ge 58, 3) := by decide +kernel
theorem d_sc_worstDoor_23 : decode q_sc_worstDoor.2.1 23 = .ok (.aload_n 0, 1) := by decide +kernel
theorem d_sc_worstDoor_24 : decode q_sc_worstDoor.2.1 24 = .ok (.getfield 24, 3) := by decide +kernel
theorem d_sc_worstDoor_27 : decode q_sc_worstDoor.2.1 27 = .ok (.getfield 137, 3) := by decide +kernel
theorem d_sc_worstDoor_30 : decode q_sc_worstDoor.2.1 30 = .ok (.iload_n 3, 1) := by decide +kernel
theorem d_sc_worstDoor_31 : decode q_sc_worstDoor.2.1 31 = .ok (.invokestatic 227, 3) := by decide +kernel
theorem d_sc_worstDoor_34 : decode q_sc_worstDoor.2.1 34 = .ok (.ifCond .ne 38, 3) := by decide +kernel
theorem d_sc_worstDoor_37 : decode q_sc_worstDoor.2.1 37 = .ok (.aload_n 0, 1) := by decide +kernel
theorem d_sc_worstDoor_38 : decode q_sc_worstDoor.2.1 38 = .ok (.getfield 24, 3) := by decide +kernel
theorem d_sc_worstDoor_41 : decode q_sc_worstDoor.2.1 41 = .ok (.getfield 70, 3) := by decide +kernel
theorem d_sc_worstDoor_44 : decode q_sc_worstDoor.2.1 44 = .ok (.aload_n 0, 1) := by decide +kernel
theorem d_sc_worstDoor_45 : decode q_sc_worstDoor.2.1 45 = .ok (.getfield 24, 3) := by decide +kernel
theorem d_sc_worstDoor_48 : decode q_sc_worstDoor.2.1 48 = .ok (.getfield 137, 3) := by decide +kernel
theorem d_sc_worstDoor_51 : decode q_sc_worstDoor.2.1 51 = .ok (.iload_n 3, 1) := by decide +kernel
theorem d_sc_worstDoor_52 : decode q_sc_worstDoor.2.1 52 = .ok (.iconst 1, 1) := by decide +kernel
theorem d_sc_worstDoor_53 : decode q_sc_worstDoor.2.1 53 = .ok (.invokestatic 133, 3) := by decide +kernel
theorem d_sc_worstDoor_56 : decode q_sc_worstDoor.2.1 56 = .ok (.invokevirtual 330, 3) := by decide +kernel
theorem d_sc_worstDoor_59 : decode q_sc_worstDoor.2.1 59 = .ok (.istore 4, 2) := by decide +kernel
theorem d_sc_worstDoor_61 : decode q_sc_worstDoor.2.1 61 = .ok (.iload 4, 2) := by decide +kernel
theorem d_sc_worstDoor_63 : decode q_sc_worstDoor.2.1 63 = .ok (.iload_n 2, 1) := by decide +kernel
theorem d_sc_worstDoor_64 : decode q_sc_worstDoor.2.1 64 = .ok (.if_icmp .ge 8, 3) := by decide +kernel
theorem d_sc_worstDoor_67 : decode q_sc_worstDoor.2.1 67 = .ok (.iload 4, 2) := by decide +kernel
theorem d_sc_worstDoor_69 : decode q_sc_worstDoor.2.1 69 = .ok (.istore_n 2, 1) := by decide +kernel
theorem d_sc_worstDoor_70 : decode q_sc_worstDoor.2.1 70 = .ok (.iload_n 3, 1) := by decide +kernel
theorem d_sc_worstDoor_71 : decode q_sc_worstDoor.2.1 71 = .ok (.istore_n 1, 1) := by decide +kernel
theorem d_sc_worstDoor_72 : decode q_sc_worstDoor.2.1 72 = .ok (.iinc 3 1, 3) := by decide +kernel
theorem d_sc_worstDoor_75 : decode q_sc_worstDoor.2.1 75 = .ok (.goto (-66), 3) := by decide +kernel
theorem d_sc_worstDoor_78 : decode q_sc_worstDoor.2.1 78 = .ok (.iload_n 1, 1) := by decide +kernel
theorem d_sc_worstDoor_79 : decode q_sc_worstDoor.2.1 79 = .ok (.ireturn, 1) := by decide +kernel
theorem w_sc_worstDoor_L78 (l : Launch) (lo hi d : Nat) (hS : sm_has lo hi) {h' : sm_H} {r0 : Int32} (a1 : Int32) (h : sm_H) (hf : f_sc_worstDoor_L78 a1 h = some (r0, h')) : sm_W l lo hi (d + 4) q_sc_worstDoor 78 [(1, .int a1)] [] h (some (.int r0)) h' := by
  unfold f_sc_worstDoor_L78 at hf
  refine sm_iload_n 0 rfl d_sc_worstDoor_78 ?_
  obtain ⟨rfl, rfl⟩ := sm_ret2 hf
  exact sm_iret d_sc_worstDoor_79 rfl
theorem w_sc_worstDoor_L72 (l : Launch) (lo hi d : Nat) (hS : sm_has lo hi) {k9 : Nat → Int32 → Int32 → Int32 → sm_H → Option (Int32 × sm_H)} {h' : sm_H} {r0 : Int32} (hk9 : ∀ (a0 : Nat) (a1 : Int32) (a2 : Int32) (a3 : Int32) (h : sm_H) (_ : sm_at lo hi (0, 9, 0) a0) , k9 a0 a1 a2 a3 h = some (r0, h') → sm_W l lo hi (d + 4) q_sc_worstDoor 9 [(0, .ref a0), (1, .int a1), (2, .int a2), (3, .int a3)] [] h (some (.int r0)) h') (a0 : Nat) (a1 : Int32) (a2 : Int32) (a3 : Int32) (h : sm_H) (e0 : sm_at lo hi (0, 9, 0) a0) (hf : f_sc_worstDoor_L72 k9 a0 a1 a2 a3 h = some (r0, h')) : sm_W l lo hi (d + 4) q_sc_worstDoor 72 [(0, .ref a0), (1, .int a1), (2, .int a2), (3, .int a3)] [] h (some (.int r0)) h' := by
  unfold f_sc_worstDoor_L72 at hf
  obtain ⟨x23, w24⟩ : ∃ v : Int32, v = a3 + 1 := ⟨_, rfl⟩
  have hf := sm_letV w24 hf
  refine sm_iinc (v := x23) (lv' := [(3, .int x23), (0, .ref a0), (1, .int a1), (2, .int a2)]) 3 rfl (by rw [w24]; rfl) d_sc_worstDoor_72 rfl rfl ?_
  refine sm_goto 9 d_sc_worstDoor_75 rfl ?_
  refine sm_sub [1, 2, 3, 0] rfl ?_
  exact hk9 _ _ _ _ _ e0 hf
theorem w_sc_worstDoor_L9 (l : Launch) (lo hi d : Nat) (hS : sm_has lo hi) {h' : sm_H} {r0 : Int32} : ∀ (n : Nat) (a0 : Nat) (a1 : Int32) (a2 : Int32) (a3 : Int32) (h : sm_H) (e0 : sm_at lo hi (0, 9, 0) a0) (hf : f_sc_worstDoor_L9 n a0 a1 a2 a3 h = some (r0, h')), sm_W l lo hi (d + 4) q_sc_worstDoor 9 [(0, .ref a0), (1, .int a1), (2, .int a2), (3, .int a3)] [] h (some (.int r0)) h' := by
  intro n
  induction n with
  | zero =>
    intro a0 a1 a2 a3 h e0 hf
    have z : (none : Option (Int32 × sm_H)) = some _ := hf
    cases z
  | succ n ih =>
    intro a0 a1 a2 a3 h e0 hf
    unfold f_sc_worstDoor_L9 at hf
    refine sm_iload_n 3 rfl d_sc_worstDoor_9 ?_
    refine sm_aload_n 0 rfl d_sc_worstDoor_10 ?_
    refine sm_getR (n := 40) fl_sc_24 e0 rfl d_sc_worstDoor_11 ?_
    obtain ⟨c1, hf⟩ := sm_gdE hf
    obtain ⟨z2, v3⟩ := sm_isP_at hS c1
    refine sm_getD fl_sc_70 (sm_inner e0 1 rfl rfl rfl) rfl z2 d_sc_worstDoor_14 ?_
    refine sm_nmR (fun p4 w5 => ?_)
    have hf := sm_letV w5 hf
    have v3 := sm_ev w5 v3
    refine sm_getI fl_sc_92 v3 rfl d_sc_worstDoor_17 ?_
    refine sm_icmp_ge 78 d_sc_worstDoor_20 rfl (fun c6 => ?_) (fun c6 => ?_)
    · have hf := sm_ifT c6 hf
      refine sm_sub [1] rfl ?_
      exact w_sc_worstDoor_L78 l lo hi d hS _ _ hf
    · have hf := sm_ifF c6 hf
      refine sm_aload_n 0 rfl d_sc_worstDoor_23 ?_
      refine sm_getR (n := 40) fl_sc_24 e0 rfl d_sc_worstDoor_24 ?_
      refine sm_getI fl_sc_137 (sm_inner e0 1 rfl rfl rfl) rfl d_sc_worstDoor_27 ?_
      refine sm_iload_n 3 rfl d_sc_worstDoor_30 ?_
      obtain ⟨r7, g8, c9, hf⟩ := sm_b2E hf
      refine sm_callS (As := [.int (h (a0 + 40) 6), .int a3]) (rv := some (.int r7)) (h1 := g8) cvs_sc_227 (m_sc_has l lo hi _ c9) rfl rfl d_sc_worstDoor_31 ?_
      refine sm_if_ne 72 d_sc_worstDoor_34 rfl (fun c10 => ?_) (fun c10 => ?_)
      · have hf := sm_ifF c10 hf
        exact w_sc_worstDoor_L72 l lo hi d hS ih _ _ _ _ _ e0 hf
      · have hf := sm_ifT c10 hf
        refine sm_aload_n 0 rfl d_sc_worstDoor_37 ?_
        refine sm_getR (n := 40) fl_sc_24 e0 rfl d_sc_worstDoor_38 ?_
        obtain ⟨c11, hf⟩ := sm_gdE hf
        obtain ⟨z12, v13⟩ := sm_isP_at hS c11
        refine sm_getD fl_sc_70 (sm_inner e0 1 rfl rfl rfl) rfl z12 d_sc_worstDoor_41 ?_
        refine sm_nmR (fun p14 w15 => ?_)
        have hf := sm_letV w15 hf
        have v13 := sm_ev w15 v13
        refine sm_aload_n 0 rfl d_sc_worstDoor_44 ?_
        refine sm_getR (n := 40) fl_sc_24 e0 rfl d_sc_worstDoor_45 ?_
        refine sm_getI fl_sc_137 (sm_inner e0 1 rfl rfl rfl) rfl d_sc_worstDoor_48 ?_
        refine sm_iload_n 3 rfl d_sc_worstDoor_51 ?_
        refine sm_iconst (v := 1) (by decide) d_sc_worstDoor_52 ?_
        obtain ⟨r16, g17, c18, hf⟩ := sm_b2E hf
        refine sm_callS (As := [.int (g8 (a0 + 40) 6), .int a3, .int 1]) (rv := some (.int r16)) (h1 := g17) cvs_sc_133 (m_sc_with l lo hi _ c18) rfl rfl d_sc_worstDoor_53 ?_
        obtain ⟨r19, g20, c21, hf⟩ := sm_b2E hf
        refine sm_callV (As := [.int r16]) (rv := some (.int r19)) (h1 := g20) (c := 4) cvv_sc_330 rfl rfl v13 (m_pl_fullPressure l lo hi _ v13 c21) rfl rfl d_sc_worstDoor_56 ?_
        refine sm_istore (lv' := [(4, .int r19), (0, .ref a0), (1, .int a1), (2, .int a2), (3, .int a3)]) d_sc_worstDoor_59 rfl rfl ?_
        refine sm_iload 0 rfl d_sc_worstDoor_61 ?_
        refine sm_iload_n 3 rfl d_sc_worstDoor_63 ?_
        refine sm_icmp_ge 72 d_sc_worstDoor_64 rfl (fun c22 => ?_) (fun c22 => ?_)
        · have hf := sm_ifT c22 hf
          refine sm_sub [1, 2, 3, 4] rfl ?_
          exact w_sc_worstDoor_L72 l lo hi d hS ih _ _ _ _ _ e0 hf
        · have hf := sm_ifF c22 hf
          refine sm_iload 0 rfl d_sc_worstDoor_67 ?_
          refine sm_istore_n (lv' := [(2, .int r19), (4, .int r19), (0, .ref a0), (1, .int a1), (3, .int a3)]) d_sc_worstDoor_69 rfl rfl ?_
          refine sm_iload_n 4 rfl d_sc_worstDoor_70 ?_
          refine sm_istore_n (lv' := [(1, .int a3), (2, .int r19), (4, .int r19), (0, .ref a0), (3, .int a3)]) d_sc_worstDoor_71 rfl rfl ?_
          refine sm_sub [3, 0, 1, 4] rfl ?_
          exact w_sc_worstDoor_L72 l lo hi d hS ih _ _ _ _ _ e0 hf
theorem m_sc_worstDoor (l : Launch) (lo hi d : Nat) (hS : sm_has lo hi) {a0 : Nat} {r0 : Int32} {h h' : sm_H} (e0 : sm_at lo hi (0, 9, 0) a0) (hf : f_sc_worstDoor a0 h = some (r0, h')) : sm_Met l lo hi (d + 4) q_sc_worstDoor [.ref a0] h (some (.int r0)) h' := by
  refine sm_Met.of (by decide +kernel) rfl ?_
  show sm_W l lo hi (d + 4) q_sc_worstDoor 0 [(0, .ref a0)] [] h (some (.int r0)) h'
  unfold f_sc_worstDoor at hf
  refine sm_bipush (v := (-4)) (by decide) d_sc_worstDoor_0 ?_
  refine sm_istore_n (lv' := [(1, .int (-4)), (0, .ref a0)]) d_sc_worstDoor_2 rfl rfl ?_
  refine sm_sipush (v := 1000) (by decide) d_sc_worstDoor_3 ?_
  refine sm_istore_n (lv' := [(2, .int 1000), (1, .int (-4)), (0, .ref a0)]) d_sc_worstDoor_6 rfl rfl ?_
  refine sm_iconst (v := 0) (by decide) d_sc_worstDoor_7 ?_
  refine sm_istore_n (lv' := [(3, .int 0), (2, .int 1000), (1, .int (-4)), (0, .ref a0)]) d_sc_worstDoor_8 rfl rfl ?_
  refine sm_sub [3, 2, 1, 0] rfl ?_
  exact w_sc_worstDoor_L9 l lo hi d hS sm_N _ _ _ _ _ e0 hf
theorem d_sc_keep_0 : decode q_sc_keep.2.1 0 = .ok (.iload_n 1, 1) := by decide +kernel
theorem d_sc_keep_1 : decode q_sc_keep.2.1 1 = .ok (.ifCond .lt 8, 3) := by decide +kernel
theorem d_sc_keep_4 : decode q_sc_keep.2.1 4 = .ok (.iload_n 1, 1) := by decide +kernel
theorem d_sc_keep_5 : decode q_sc_keep.2.1 5 = .ok (.iconst 3, 1) := by decide +kernel
theorem d_sc_keep_6 : decode q_sc_keep.2.1 6 = .ok (.if_icmp .lt 5, 3) := by decide +kernel
theorem d_sc_keep_9 : decode q_sc_keep.2.1 9 = .ok (.iconst (-1), 1) := by decide +kernel
theorem d_sc_keep_10 : decode q_sc_keep.2.1 10 = .ok (.ireturn, 1) := by decide +kernel
theorem d_sc_keep_11 : decode q_sc_keep.2.1 11 = .ok (.aload_n 0, 1) := by decide +kernel
theorem d_sc_keep_12 : decode q_sc_keep.2.1 12 = .ok (.getfield 31, 3) := by decide +kernel
theorem d_sc_keep_15 : decode q_sc_keep.2.1 15 = .ok (.iload_n 1, 1) := by decide +kernel
theorem d_sc_keep_16 : decode q_sc_keep.2.1 16 = .ok (.aaload, 1) := by decide +kernel
theorem d_sc_keep_17 : decode q_sc_keep.2.1 17 = .ok (.aload_n 0, 1) := by decide +kernel
theorem d_sc_keep_18 : decode q_sc_keep.2.1 18 = .ok (.getfield 24, 3) := by decide +kernel
theorem d_sc_keep_21 : decode q_sc_keep.2.1 21 = .ok (.invokevirtual 314, 3) := by decide +kernel
theorem d_sc_keep_24 : decode q_sc_keep.2.1 24 = .ok (.aload_n 0, 1) := by decide +kernel
theorem d_sc_keep_25 : decode q_sc_keep.2.1 25 = .ok (.aload_n 0, 1) := by decide +kernel
theorem d_sc_keep_26 : decode q_sc_keep.2.1 26 = .ok (.getfield 77, 3) := by decide +kernel
theorem d_sc_keep_29 : decode q_sc_keep.2.1 29 = .ok (.iload_n 1, 1) := by decide +kernel
theorem d_sc_keep_30 : decode q_sc_keep.2.1 30 = .ok (.iconst 1, 1) := by decide +kernel
theorem d_sc_keep_31 : decode q_sc_keep.2.1 31 = .ok (.invokestatic 133, 3) := by decide +kernel
theorem d_sc_keep_34 : decode q_sc_keep.2.1 34 = .ok (.putfield 77, 3) := by decide +kernel
theorem d_sc_keep_37 : decode q_sc_keep.2.1 37 = .ok (.aload_n 0, 1) := by decide +kernel
theorem d_sc_keep_38 : decode q_sc_keep.2.1 38 = .ok (.getfield 24, 3) := by decide +kernel
theorem d_sc_keep_41 : decode q_sc_keep.2.1 41 = .ok (.getfield 161, 3) := by decide +kernel
theorem d_sc_keep_44 : decode q_sc_keep.2.1 44 = .ok (.ireturn, 1) := by decide +kernel
theorem m_sc_keep (l : Launch) (lo hi d : Nat) (hS : sm_has lo hi) {a0 : Nat} {a1 : Int32} {r0 : Int32} {h h' : sm_H} (e0 : sm_at lo hi (0, 9, 0) a0) (hf : f_sc_keep a0 a1 h = some (r0, h')) : sm_Met l lo hi (d + 4) q_sc_keep [.ref a0, .int a1] h (some (.int r0)) h' := by
  refine sm_Met.of (by decide +kernel) rfl ?_
  show sm_W l lo hi (d + 4) q_sc_keep 0 [(0, .ref a0), (1, .int a1)] [] h (some (.int r0)) h'
  unfold f_sc_keep at hf
  refine sm_iload_n 1 rfl d_sc_keep_0 ?_
  refine sm_if_lt 9 d_sc_keep_1 rfl (fun c1 => ?_) (fun c1 => ?_)
  · have hf := sm_ifT c1 hf
    refine sm_iconst (v := (-1)) (by decide) d_sc_keep_9 ?_
    obtain ⟨rfl, rfl⟩ := sm_ret2 hf
    exact sm_iret d_sc_keep_10 rfl
  · have hf := sm_ifF c1 hf
    refine sm_iload_n 1 rfl d_sc_keep_4 ?_
    refine sm_iconst (v := 3) (by decide) d_sc_keep_5 ?_
    refine sm_icmp_lt 11 d_sc_keep_6 rfl (fun c2 => ?_) (fun c2 => ?_)
    · have hf := sm_ifT c2 hf
      refine sm_aload_n 0 rfl d_sc_keep_11 ?_
      refine sm_getR (n := 66) fl_sc_31 e0 rfl d_sc_keep_12 ?_
      refine sm_iload_n 1 rfl d_sc_keep_15 ?_
      obtain ⟨c3, hf⟩ := sm_gdE hf
      obtain ⟨c4, hf⟩ := sm_gdE hf
      refine sm_aald (sm_inner e0 3 rfl rfl rfl) c3 c4 (sm_slotB c3) d_sc_keep_16 ?_
      refine sm_aload_n 0 rfl d_sc_keep_17 ?_
      refine sm_getR (n := 40) fl_sc_24 e0 rfl d_sc_keep_18 ?_
      obtain ⟨g5, c6, hf⟩ := sm_bindE hf
      refine sm_callV (As := [.ref (a0 + 40)]) (rv := none) (h1 := g5) (c := 7) cvv_sc_314 rfl rfl (sm_slot (sm_inner e0 3 rfl rfl rfl) c3 (sm_scHi e0)) (m_st_copyFrom l lo hi _ hS (sm_slot (sm_inner e0 3 rfl rfl rfl) c3 (sm_scHi e0)) (sm_inner e0 1 rfl rfl rfl) c6) rfl rfl d_sc_keep_21 ?_
      refine sm_aload_n 0 rfl d_sc_keep_24 ?_
      refine sm_aload_n 0 rfl d_sc_keep_25 ?_
      refine sm_getI fl_sc_77 e0 rfl d_sc_keep_26 ?_
      refine sm_iload_n 1 rfl d_sc_keep_29 ?_
      refine sm_iconst (v := 1) (by decide) d_sc_keep_30 ?_
      obtain ⟨r7, g8, c9, hf⟩ := sm_b2E hf
      refine sm_callS (As := [.int (g5 a0 4), .int a1, .int 1]) (rv := some (.int r7)) (h1 := g8) cvs_sc_133 (m_sc_with l lo hi _ c9) rfl rfl d_sc_keep_31 ?_
      refine sm_putI fp_sc_77 e0 rfl rfl d_sc_keep_34 ?_
      refine sm_nmH (fun g10 w11 => ?_)
      have hf := sm_letV w11 hf
      refine sm_aload_n 0 rfl d_sc_keep_37 ?_
      refine sm_getR (n := 40) fl_sc_24 e0 rfl d_sc_keep_38 ?_
      refine sm_getI fl_sc_161 (sm_inner e0 1 rfl rfl rfl) rfl d_sc_keep_41 ?_
      obtain ⟨rfl, rfl⟩ := sm_ret2 hf
      exact sm_iret d_sc_keep_44 rfl
    · have hf := sm_ifF c2 hf
      refine sm_iconst (v := (-1)) (by decide) d_sc_keep_9 ?_
      obtain ⟨rfl, rfl⟩ := sm_ret2 hf
      exact sm_iret d_sc_keep_10 rfl
theorem d_sc_restore_0 : decode q_sc_restore.2.1 0 = .ok (.iload_n 1, 1) := by decide +kernel
theorem d_sc_restore_1 : decode q_sc_restore.2.1 1 = .ok (.ifCond .lt 8, 3) := by decide +kernel
theorem d_sc_restore_4 : decode q_sc_restore.2.1 4 = .ok (.iload_n 1, 1) := by decide +kernel
theorem d_sc_restore_5 : decode q_sc_restore.2.1 5 = .ok (.iconst 3, 1) := by decide +kernel
theorem d_sc_restore_6 : decode q_sc_restore.2.1 6 = .ok (.if_icmp .lt 5, 3) := by decide +kernel
theorem d_sc_restore_9 : decode q_sc_restore.2.1 9 = .ok (.iconst (-1), 1) := by decide +kernel
theorem d_sc_restore_10 : decode q_sc_restore.2.1 10 = .ok (.ireturn, 1) := by decide +kernel
theorem d_sc_restore_11 : decode q_sc_restore.2.1 11 = .ok (.aload_n 0, 1) := by decide +kernel
theorem d_sc_restore_12 : decode q_sc_restore.2.1 12 = .ok (.getfield 77, 3) := by decide +kernel
theorem d_sc_restore_15 : decode q_sc_restore.2.1 15 = .ok (.iload_n 1, 1) := by decide +kernel
theorem d_sc_restore_16 : decode q_sc_restore.2.1 16 = .ok (.invokestatic 227, 3) := by decide +kernel
theorem d_sc_restore_19 : decode q_sc_restore.2.1 19 = .ok (.ifCond .ne 6, 3) := by decide +kernel
theorem d_sc_restore_22 : decode q_sc_restore.2.1 22 = .ok (.bipush (-4), 2) := by decide +kernel
theorem d_sc_restore_24 : decode q_sc_restore.2.1 24 = .ok (.ireturn, 1) := by decide +kernel
theorem d_sc_restore_25 : decode q_sc_restore.2.1 25 = .ok (.aload_n 0, 1) := by decide +kernel
theorem d_sc_restore_26 : decode q_sc_restore.2.1 26 = .ok (.getfield 24, 3) := by decide +kernel
theorem d_sc_restore_29 : decode q_sc_restore.2.1 29 = .ok (.aload_n 0, 1) := by decide +kernel
theorem d_sc_restore_30 : decode q_sc_restore.2.1 30 = .ok (.getfield 31, 3) := by decide +kernel
theorem d_sc_restore_33 : decode q_sc_restore.2.1 33 = .ok (.iload_n 1, 1) := by decide +kernel
theorem d_sc_restore_34 : decode q_sc_restore.2.1 34 = .ok (.aaload, 1) := by decide +kernel
theorem d_sc_restore_35 : decode q_sc_restore.2.1 35 = .ok (.invokevirtual 314, 3) := by decide +kernel
theorem d_sc_restore_38 : decode q_sc_restore.2.1 38 = .ok (.aload_n 0, 1) := by decide +kernel
theorem d_sc_restore_39 : decode q_sc_restore.2.1 39 = .ok (.getfield 24, 3) := by decide +kernel
theorem d_sc_restore_42 : decode q_sc_restore.2.1 42 = .ok (.getfield 161, 3) := by decide +kernel
theorem d_sc_restore_45 : decode q_sc_restore.2.1 45 = .ok (.ireturn, 1) := by decide +kernel
theorem m_sc_restore (l : Launch) (lo hi d : Nat) (hS : sm_has lo hi) {a0 : Nat} {a1 : Int32} {r0 : Int32} {h h' : sm_H} (e0 : sm_at lo hi (0, 9, 0) a0) (hf : f_sc_restore a0 a1 h = some (r0, h')) : sm_Met l lo hi (d + 4) q_sc_restore [.ref a0, .int a1] h (some (.int r0)) h' := by
  refine sm_Met.of (by decide +kernel) rfl ?_
  show sm_W l lo hi (d + 4) q_sc_restore 0 [(0, .ref a0), (1, .int a1)] [] h (some (.int r0)) h'
  unfold f_sc_restore at hf
  refine sm_iload_n 1 rfl d_sc_restore_0 ?_
  refine sm_if_lt 9 d_sc_restore_1 rfl (fun c1 => ?_) (fun c1 => ?_)
  · have hf := sm_ifT c1 hf
    refine sm_iconst (v := (-1)) (by decide) d_sc_restore_9 ?_
    obtain ⟨rfl, rfl⟩ := sm_ret2 hf
    exact sm_iret d_sc_restore_10 rfl
  · have hf := sm_ifF c1 hf
    refine sm_iload_n 1 rfl d_sc_restore_4 ?_
    refine sm_iconst (v := 3) (by decide) d_sc_restore_5 ?_
    refine sm_icmp_lt 11 d_sc_restore_6 rfl (fun c2 => ?_) (fun c2 => ?_)
    · have hf := sm_ifT c2 hf
      refine sm_aload_n 0 rfl d_sc_restore_11 ?_
      refine sm_getI fl_sc_77 e0 rfl d_sc_restore_12 ?_
      refine sm_iload_n 1 rfl d_sc_restore_15 ?_
      obtain ⟨r3, g4, c5, hf⟩ := sm_b2E hf
      refine sm_callS (As := [.int (h a0 4), .int a1]) (rv := some (.int r3)) (h1 := g4) cvs_sc_227 (m_sc_has l lo hi _ c5) rfl rfl d_sc_restore_16 ?_
      refine sm_if_ne 25 d_sc_restore_19 rfl (fun c6 => ?_) (fun c6 => ?_)
      · have hf := sm_ifF c6 hf
        refine sm_aload_n 0 rfl d_sc_restore_25 ?_
        refine sm_getR (n := 40) fl_sc_24 e0 rfl d_sc_restore_26 ?_
        refine sm_aload_n 0 rfl d_sc_restore_29 ?_
        refine sm_getR (n := 66) fl_sc_31 e0 rfl d_sc_restore_30 ?_
        refine sm_iload_n 1 rfl d_sc_restore_33 ?_
        obtain ⟨c7, hf⟩ := sm_gdE hf
        obtain ⟨c8, hf⟩ := sm_gdE hf
        refine sm_aald (sm_inner e0 3 rfl rfl rfl) c7 c8 (sm_slotB c7) d_sc_restore_34 ?_
        obtain ⟨g9, c10, hf⟩ := sm_bindE hf
        refine sm_callV (As := [.ref (67 + 13 * (a1 : Int32).toNatClampNeg)]) (rv := none) (h1 := g9) (c := 7) cvv_sc_314 rfl rfl (sm_inner e0 1 rfl rfl rfl) (m_st_copyFrom l lo hi _ hS (sm_inner e0 1 rfl rfl rfl) (sm_slot (sm_inner e0 3 rfl rfl rfl) c7 (sm_scHi e0)) c10) rfl rfl d_sc_restore_35 ?_
        refine sm_aload_n 0 rfl d_sc_restore_38 ?_
        refine sm_getR (n := 40) fl_sc_24 e0 rfl d_sc_restore_39 ?_
        refine sm_getI fl_sc_161 (sm_inner e0 1 rfl rfl rfl) rfl d_sc_restore_42 ?_
        obtain ⟨rfl, rfl⟩ := sm_ret2 hf
        exact sm_iret d_sc_restore_45 rfl
      · have hf := sm_ifT c6 hf
        refine sm_bipush (v := (-4)) (by decide) d_sc_restore_22 ?_
        obtain ⟨rfl, rfl⟩ := sm_ret2 hf
        exact sm_iret d_sc_restore_24 rfl
    · have hf := sm_ifF c2 hf
      refine sm_iconst (v := (-1)) (by decide) d_sc_restore_9 ?_
      obtain ⟨rfl, rfl⟩ := sm_ret2 hf
      exact sm_iret d_sc_restore_10 rfl
theorem d_mo_clearPlan_0 : decode q_mo_clearPlan.2.1 0 = .ok (.iconst 0, 1) := by decide +kernel
theorem d_mo_clearPlan_1 : decode q_mo_clearPlan.2.1 1 = .ok (.istore_n 1, 1) := by decide +kernel
theorem d_mo_clearPlan_2 : decode q_mo_clearPlan.2.1 2 = .ok (.iload_n 1, 1) := by decide +kernel
theorem d_mo_clearPlan_3 : decode q_mo_clearPlan.2.1 3 = .ok (.sipush 1268, 3) := by decide +kernel
theorem d_mo_clearPlan_6 : decode q_mo_clearPlan.2.1 6 = .ok (.if_icmp .ge 13, 3) := by decide +kernel
theorem d_mo_clearPlan_9 : decode q_mo_clearPlan.2.1 9 = .ok (.aload_n 0, 1) := by decide +kernel
theorem d_mo_clearPlan_10 : decode q_mo_clearPlan.2.1 10 = .ok (.iload_n 1, 1) := by decide +kernel
theorem d_mo_clearPlan_11 : decode q_mo_clearPlan.2.1 11 = .ok (.iconst 0, 1) := by decide +kernel
theorem d_mo_clearPlan_12 : decode q_mo_clearPlan.2.1 12 = .ok (.iastore, 1) := by decide +kernel
theorem d_mo_clearPlan_13 : decode q_mo_clearPlan.2.1 13 = .ok (.iinc 1 1, 3) := by decide +kernel
theorem d_mo_clearPlan_16 : decode q_mo_clearPlan.2.1 16 = .ok (.goto (-14), 3) := by decide +kernel
theorem d_mo_clearPlan_19 : decode q_mo_clearPlan.2.1 19 = .ok (.aload_n 0, 1) := by decide +kernel
theorem d_mo_clearPlan_20 : decode q_mo_clearPlan.2.1 20 = .ok (.iconst 0, 1) := by decide +kernel
theorem d_mo_clearPlan_21 : decode q_mo_clearPlan.2.1 21 = .ok (.iconst 1, 1) := by decide +kernel
theorem d_mo_clearPlan_22 : decode q_mo_clearPlan.2.1 22 = .ok (.iastore, 1) := by decide +kernel
theorem d_mo_clearPlan_23 : decode q_mo_clearPlan.2.1 23 = .ok (.aload_n 0, 1) := by decide +kernel
theorem d_mo_clearPlan_24 : decode q_mo_clearPlan.2.1 24 = .ok (.iconst 5, 1) := by decide +kernel
theorem d_mo_clearPlan_25 : decode q_mo_clearPlan.2.1 25 = .ok (.bipush 50, 2) := by decide +kernel
theorem d_mo_clearPlan_27 : decode q_mo_clearPlan.2.1 27 = .ok (.iastore, 1) := by decide +kernel
theorem d_mo_clearPlan_28 : decode q_mo_clearPlan.2.1 28 = .ok (.aload_n 0, 1) := by decide +kernel
theorem d_mo_clearPlan_29 : decode q_mo_clearPlan.2.1 29 = .ok (.bipush 6, 2) := by decide +kernel
theorem d_mo_clearPlan_31 : decode q_mo_clearPlan.2.1 31 = .ok (.bipush 10, 2) := by decide +kernel
theorem d_mo_clearPlan_33 : decode q_mo_clearPlan.2.1 33 = .ok (.iastore, 1) := by decide +kernel
theorem d_mo_clearPlan_34 : decode q_mo_clearPlan.2.1 34 = .ok (.return_, 1) := by decide +kernel
theorem w_mo_clearPlan_L19 (l : Launch) (lo hi d : Nat) {h' : sm_H} (a0 : Nat) (h : sm_H) (e0 : sm_arr lo hi 0 (sm_len a0) a0) (hf : f_mo_clearPlan_L19 a0 h = some h') : sm_W l lo hi (d) q_mo_clearPlan 19 [(0, .ref a0)] [] h none h' := by
  unfold f_mo_clearPlan_L19 at hf
  refine sm_aload_n 0 rfl d_mo_clearPlan_19 ?_
  refine sm_iconst (v := 0) (by decide) d_mo_clearPlan_20 ?_
  refine sm_iconst (v := 1) (by decide) d_mo_clearPlan_21 ?_
  obtain ⟨c7, hf⟩ := sm_gdE hf
  refine sm_iast e0 c7 d_mo_clearPlan_22 ?_
  refine sm_nmH (fun g8 w9 => ?_)
  have hf := sm_letV w9 hf
  refine sm_aload_n 0 rfl d_mo_clearPlan_23 ?_
  refine sm_iconst (v := 5) (by decide) d_mo_clearPlan_24 ?_
  refine sm_bipush (v := 50) (by decide) d_mo_clearPlan_25 ?_
  obtain ⟨c10, hf⟩ := sm_gdE hf
  refine sm_iast e0 c10 d_mo_clearPlan_27 ?_
  refine sm_nmH (fun g11 w12 => ?_)
  have hf := sm_letV w12 hf
  refine sm_aload_n 0 rfl d_mo_clearPlan_28 ?_
  refine sm_bipush (v := 6) (by decide) d_mo_clearPlan_29 ?_
  refine sm_bipush (v := 10) (by decide) d_mo_clearPlan_31 ?_
  obtain ⟨c13, hf⟩ := sm_gdE hf
  refine sm_iast e0 c13 d_mo_clearPlan_33 ?_
  refine sm_nmH (fun g14 w15 => ?_)
  have hf := sm_letV w15 hf
  obtain rfl := sm_ret1 hf
  exact sm_vret d_mo_clearPlan_34 rfl
theorem w_mo_clearPlan_L2 (l : Launch) (lo hi d : Nat) {h' : sm_H} : ∀ (n : Nat) (a0 : Nat) (a1 : Int32) (h : sm_H) (e0 : sm_arr lo hi 0 (sm_len a0) a0) (hf : f_mo_clearPlan_L2 n a0 a1 h = some h'), sm_W l lo hi (d) q_mo_clearPlan 2 [(0, .ref a0), (1, .int a1)] [] h none h' := by
  intro n
  induction n with
  | zero =>
    intro a0 a1 h e0 hf
    have z : (none : Option sm_H) = some _ := hf
    cases z
  | succ n ih =>
    intro a0 a1 h e0 hf
    unfold f_mo_clearPlan_L2 at hf
    refine sm_iload_n 1 rfl d_mo_clearPlan_2 ?_
    refine sm_sipush (v := 1268) (by decide) d_mo_clearPlan_3 ?_
    refine sm_icmp_ge 19 d_mo_clearPlan_6 rfl (fun c1 => ?_) (fun c1 => ?_)
    · have hf := sm_ifT c1 hf
      refine sm_sub [0] rfl ?_
      exact w_mo_clearPlan_L19 l lo hi d _ _ e0 hf
    · have hf := sm_ifF c1 hf
      refine sm_aload_n 0 rfl d_mo_clearPlan_9 ?_
      refine sm_iload_n 1 rfl d_mo_clearPlan_10 ?_
      refine sm_iconst (v := 0) (by decide) d_mo_clearPlan_11 ?_
      obtain ⟨c2, hf⟩ := sm_gdE hf
      refine sm_iast e0 c2 d_mo_clearPlan_12 ?_
      refine sm_nmH (fun g3 w4 => ?_)
      have hf := sm_letV w4 hf
      obtain ⟨x5, w6⟩ : ∃ v : Int32, v = a1 + 1 := ⟨_, rfl⟩
      have hf := sm_letV w6 hf
      refine sm_iinc (v := x5) (lv' := [(1, .int x5), (0, .ref a0)]) 1 rfl (by rw [w6]; rfl) d_mo_clearPlan_13 rfl rfl ?_
      refine sm_goto 2 d_mo_clearPlan_16 rfl ?_
      refine sm_sub [1, 0] rfl ?_
      exact ih _ _ _ e0 hf
theorem m_mo_clearPlan (l : Launch) (lo hi d : Nat) {a0 : Nat} {h h' : sm_H} (e0 : sm_arr lo hi 0 (sm_len a0) a0) (hf : f_mo_clearPlan a0 h = some h') : sm_Met l lo hi (d) q_mo_clearPlan [.ref a0] h none h' := by
  refine sm_Met.of (by decide +kernel) rfl ?_
  show sm_W l lo hi (d) q_mo_clearPlan 0 [(0, .ref a0)] [] h none h'
  unfold f_mo_clearPlan at hf
  refine sm_iconst (v := 0) (by decide) d_mo_clearPlan_0 ?_
  refine sm_istore_n (lv' := [(1, .int 0), (0, .ref a0)]) d_mo_clearPlan_1 rfl rfl ?_
  refine sm_sub [1, 0] rfl ?_
  exact w_mo_clearPlan_L2 l lo hi d sm_N _ _ _ e0 hf
theorem d_mo_damperOf_0 : decode q_mo_damperOf.2.1 0 = .ok (.aload_n 0, 1) := by decide +kernel
theorem d_mo_damperOf_1 : decode q_mo_damperOf.2.1 1 = .ok (.getfield 7, 3) := by decide +kernel
theorem d_mo_damperOf_4 : decode q_mo_damperOf.2.1 4 = .ok (.bipush 10, 2) := by decide +kernel
theorem d_mo_damperOf_6 : decode q_mo_damperOf.2.1 6 = .ok (.iconst 4, 1) := by decide +kernel
theorem d_mo_damperOf_7 : decode q_mo_damperOf.2.1 7 = .ok (.iload_n 1, 1) := by decide +kernel
theorem d_mo_damperOf_8 : decode q_mo_damperOf.2.1 8 = .ok (.imul, 1) := by decide +kernel
theorem d_mo_damperOf_9 : decode q_mo_damperOf.2.1 9 = .ok (.iadd, 1) := by decide +kernel
theorem d_mo_damperOf_10 : decode q_mo_damperOf.2.1 10 = .ok (.iload_n 2, 1) := by decide +kernel
theorem d_mo_damperOf_11 : decode q_mo_damperOf.2.1 11 = .ok (.iadd, 1) := by decide +kernel
theorem d_mo_damperOf_12 : decode q_mo_damperOf.2.1 12 = .ok (.iaload, 1) := by decide +kernel
theorem d_mo_damperOf_13 : decode q_mo_damperOf.2.1 13 = .ok (.ireturn, 1) := by decide +kernel
theorem m_mo_damperOf (l : Launch) (lo hi d : Nat) {a0 : Nat} {a1 : Int32} {a2 : Int32} {r0 : Int32} {h h' : sm_H} (e0 : sm_at lo hi (0, 10, 0) a0) (hf : f_mo_damperOf a0 a1 a2 h = some (r0, h')) : sm_Met l lo hi (d) q_mo_damperOf [.ref a0, .int a1, .int a2] h (some (.int r0)) h' := by
  refine sm_Met.of (by decide +kernel) rfl ?_
  show sm_W l lo hi (d) q_mo_damperOf 0 [(0, .ref a0), (1, .int a1), (2, .int a2)] [] h (some (.int r0)) h'
  unfold f_mo_damperOf at hf
  refine sm_aload_n 0 rfl d_mo_damperOf_0 ?_
  refine sm_getR (n := 1) fl_mo_7 e0 rfl d_mo_damperOf_1 ?_
  refine sm_bipush (v := 10) (by decide) d_mo_damperOf_4 ?_
  refine sm_iconst (v := 4) (by decide) d_mo_damperOf_6 ?_
  refine sm_iload_n 1 rfl d_mo_damperOf_7 ?_
  refine sm_imul d_mo_damperOf_8 ?_
  refine sm_iadd d_mo_damperOf_9 ?_
  refine sm_iload_n 2 rfl d_mo_damperOf_10 ?_
  refine sm_iadd d_mo_damperOf_11 ?_
  obtain ⟨c1, hf⟩ := sm_gdE hf
  refine sm_iald (sm_at_arr (sm_inner e0 0 rfl rfl rfl)) c1 d_mo_damperOf_12 ?_
  obtain ⟨rfl, rfl⟩ := sm_ret2 hf
  exact sm_iret d_mo_damperOf_13 rfl
theorem d_mo_put_0 : decode q_mo_put.2.1 0 = .ok (.aload_n 0, 1) := by decide +kernel
theorem d_mo_put_1 : decode q_mo_put.2.1 1 = .ok (.getfield 16, 3) := by decide +kernel
theorem d_mo_put_4 : decode q_mo_put.2.1 4 = .ok (.bipush 42, 2) := by decide +kernel
theorem d_mo_put_6 : decode q_mo_put.2.1 6 = .ok (.bipush 7, 2) := by decide +kernel
theorem d_mo_put_8 : decode q_mo_put.2.1 8 = .ok (.iload_n 1, 1) := by decide +kernel
theorem d_mo_put_9 : decode q_mo_put.2.1 9 = .ok (.imul, 1) := by decide +kernel
theorem d_mo_put_10 : decode q_mo_put.2.1 10 = .ok (.iadd, 1) := by decide +kernel
theorem d_mo_put_11 : decode q_mo_put.2.1 11 = .ok (.iload_n 2, 1) := by decide +kernel
theorem d_mo_put_12 : decode q_mo_put.2.1 12 = .ok (.iadd, 1) := by decide +kernel
theorem d_mo_put_13 : decode q_mo_put.2.1 13 = .ok (.iload_n 3, 1) := by decide +kernel
theorem d_mo_put_14 : decode q_mo_put.2.1 14 = .ok (.iastore, 1) := by decide +kernel
theorem d_mo_put_15 : decode q_mo_put.2.1 15 = .ok (.return_, 1) := by decide +kernel
theorem m_mo_put (l : Launch) (lo hi d : Nat) {a0 : Nat} {a1 : Int32} {a2 : Int32} {a3 : Int32} {h h' : sm_H} (e0 : sm_at lo hi (0, 10, 0) a0) (hf : f_mo_put a0 a1 a2 a3 h = some h') : sm_Met l lo hi (d) q_mo_put [.ref a0, .int a1, .int a2, .int a3] h none h' := by
  refine sm_Met.of (by decide +kernel) rfl ?_
  show sm_W l lo hi (d) q_mo_put 0 [(0, .ref a0), (1, .int a1), (2, .int a2), (3, .int a3)] [] h none h'
  unfold f_mo_put at hf
  refine sm_aload_n 0 rfl d_mo_put_0 ?_
  refine sm_getR (n := 3) fl_mo_16 e0 rfl d_mo_put_1 ?_
  refine sm_bipush (v := 42) (by decide) d_mo_put_4 ?_
  refine sm_bipush (v := 7) (by decide) d_mo_put_6 ?_
  refine sm_iload_n 1 rfl d_mo_put_8 ?_
  refine sm_imul d_mo_put_9 ?_
  refine sm_iadd d_mo_put_10 ?_
  refine sm_iload_n 2 rfl d_mo_put_11 ?_
  refine sm_iadd d_mo_put_12 ?_
  refine sm_iload_n 3 rfl d_mo_put_13 ?_
  obtain ⟨c1, hf⟩ := sm_gdE hf
  refine sm_iast (sm_at_arr (sm_inner e0 2 rfl rfl rfl)) c1 d_mo_put_14 ?_
  refine sm_nmH (fun g2 w3 => ?_)
  have hf := sm_letV w3 hf
  obtain rfl := sm_ret1 hf
  exact sm_vret d_mo_put_15 rfl
theorem d_mo_begin_0 : decode q_mo_begin.2.1 0 = .ok (.iconst 0, 1) := by decide +kernel
theorem d_mo_begin_1 : decode q_mo_begin.2.1 1 = .ok (.istore_n 1, 1) := by decide +kernel
theorem d_mo_begin_2 : decode q_mo_begin.2.1 2 = .ok (.iload_n 1, 1) := by decide +kernel
theorem d_mo_begin_3 : decode q_mo_begin.2.1 3 = .ok (.sipush 350, 3) := by decide +kernel
theorem d_mo_begin_6 : decode q_mo_begin.2.1 6 = .ok (.if_icmp .ge 16, 3) := by decide +kernel
theorem d_mo_begin_9 : decode q_mo_begin.2.1 9 = .ok (.aload_n 0, 1) := by decide +kernel
theorem d_mo_begin_10 : decode q_mo_begin.2.1 10 = .ok (.getfield 16, 3) := by decide +kernel
theorem d_mo_begin_13 : decode q_mo_begin.2.1 13 = .ok (.iload_n 1, 1) := by decide +kernel
theorem d_mo_begin_14 : decode q_mo_begin.2.1 14 = .ok (.iconst 0, 1) := by decide +kernel
theorem d_mo_begin_15 : decode q_mo_begin.2.1 15 = .ok (.iastore, 1) := by decide +kernel
theorem d_mo_begin_16 : decode q_mo_begin.2.1 16 = .ok (.iinc 1 1, 3) := by decide +kernel
theorem d_mo_begin_19 : decode q_mo_begin.2.1 19 = .ok (.goto (-17), 3) := by decide +kernel
theorem d_mo_begin_22 : decode q_mo_begin.2.1 22 = .ok (.aload_n 0, 1) := by decide +kernel
theorem d_mo_begin_23 : decode q_mo_begin.2.1 23 = .ok (.getfield 16, 3) := by decide +kernel
theorem d_mo_begin_26 : decode q_mo_begin.2.1 26 = .ok (.iconst 2, 1) := by decide +kernel
theorem d_mo_begin_27 : decode q_mo_begin.2.1 27 = .ok (.bipush 100, 2) := by decide +kernel
theorem d_mo_begin_29 : decode q_mo_begin.2.1 29 = .ok (.iastore, 1) := by decide +kernel
theorem d_mo_begin_30 : decode q_mo_begin.2.1 30 = .ok (.aload_n 0, 1) := by decide +kernel
theorem d_mo_begin_31 : decode q_mo_begin.2.1 31 = .ok (.getfield 16, 3) := by decide +kernel
theorem d_mo_begin_34 : decode q_mo_begin.2.1 34 = .ok (.bipush 7, 2) := by decide +kernel
theorem d_mo_begin_36 : decode q_mo_begin.2.1 36 = .ok (.iconst (-1), 1) := by decide +kernel
theorem d_mo_begin_37 : decode q_mo_begin.2.1 37 = .ok (.iastore, 1) := by decide +kernel
theorem d_mo_begin_38 : decode q_mo_begin.2.1 38 = .ok (.iconst 0, 1) := by decide +kernel
theorem d_mo_begin_39 : decode q_mo_begin.2.1 39 = .ok (.istore_n 1, 1) := by decide +kernel
theorem d_mo_begin_40 : decode q_mo_begin.2.1 40 = .ok (.iload_n 1, 1) := by decide +kernel
theorem d_mo_begin_41 : decode q_mo_begin.2.1 41 = .ok (.aload_n 0, 1) := by decide +kernel
theorem d_mo_begin_42 : decode q_mo_begin.2.1 42 = .ok (.getfield 7, 3) := by decide +kernel
theorem d_mo_begin_45 : decode q_mo_begin.2.1 45 = .ok (.iconst 1, 1) := by decide +kernel
theorem d_mo_begin_46 : decode q_mo_begin.2.1 46 = .ok (.iaload, 1) := by decide +kernel
theorem d_mo_begin_47 : decode q_mo_begin.2.1 47 = .ok (.if_icmp .ge 42, 3) := by decide +kernel
theorem d_mo_begin_50 : decode q_mo_begin.2.1 50 = .ok (.aload_n 0, 1) := by decide +kernel
theorem d_mo_begin_51 : decode q_mo_begin.2.1 51 = .ok (.iload_n 1, 1) := by decide +kernel
theorem d_mo_begin_52 : decode q_mo_begin.2.1 52 = .ok (.iconst 0, 1) := by decide +kernel
theorem d_mo_begin_53 : decode q_mo_begin.2.1 53 = .ok (.aload_n 0, 1) := by decide +kernel
theorem d_mo_begin_54 : decode q_mo_begin.2.1 54 = .ok (.iload_n 1, 1) := by decide +kernel
theorem d_mo_begin_55 : decode q_mo_begin.2.1 55 = .ok (.iconst 3, 1) := by decide +kernel
theorem d_mo_begin_56 : decode q_mo_begin.2.1 56 = .ok (.invokevirtual 73, 3) := by decide +kernel
theorem d_mo_begin_59 : decode q_mo_begin.2.1 59 = .ok (.iconst 1, 1) := by decide +kernel
theorem d_mo_begin_60 : decode q_mo_begin.2.1 60 = .ok (.if_icmp .ne 12, 3) := by decide +kernel
theorem d_mo_begin_63 : decode q_mo_begin.2.1 63 = .ok (.aload_n 0, 1) := by decide +kernel
theorem d_mo_begin_64 : decode q_mo_begin.2.1 64 = .ok (.iload_n 1, 1) := by decide +kernel
theorem d_mo_begin_65 : decode q_mo_begin.2.1 65 = .ok (.iconst 2, 1) := by decide +kernel
theorem d_mo_begin_66 : decode q_mo_begin.2.1 66 = .ok (.invokevirtual 73, 3) := by decide +kernel
theorem d_mo_begin_69 : decode q_mo_begin.2.1 69 = .ok (.goto 4, 3) := by decide +kernel
theorem d_mo_begin_72 : decode q_mo_begin.2.1 72 = .ok (.iconst 0, 1) := by decide +kernel
theorem d_mo_begin_73 : decode q_mo_begin.2.1 73 = .ok (.invokevirtual 77, 3) := by decide +kernel
theorem d_mo_begin_76 : decode q_mo_begin.2.1 76 = .ok (.aload_n 0, 1) := by decide +kernel
theorem d_mo_begin_77 : decode q_mo_begin.2.1 77 = .ok (.iload_n 1, 1) := by decide +kernel
theorem d_mo_begin_78 : decode q_mo_begin.2.1 78 = .ok (.iconst 4, 1) := by decide +kernel
theorem d_mo_begin_79 : decode q_mo_begin.2.1 79 = .ok (.iconst (-1), 1) := by decide +kernel
theorem d_mo_begin_80 : decode q_mo_begin.2.1 80 = .ok (.invokevirtual 77, 3) := by decide +kernel
theorem d_mo_begin_83 : decode q_mo_begin.2.1 83 = .ok (.iinc 1 1, 3) := by decide +kernel
theorem d_mo_begin_86 : decode q_mo_begin.2.1 86 = .ok (.goto (-46), 3) := by decide +kernel
theorem d_mo_begin_89 : decode q_mo_begin.2.1 89 = .ok (.aload_n 0, 1) := by decide +kernel
theorem d_mo_begin_90 : decode q_mo_begin.2.1 90 = .ok (.iconst 0, 1) := by decide +kernel
theorem d_mo_begin_91 : decode q_mo_begin.2.1 91 = .ok (.putfield 81, 3) := by decide +kernel
theorem d_mo_begin_94 : decode q_mo_begin.2.1 94 = .ok (.aload_n 0, 1) := by decide +kernel
theorem d_mo_begin_95 : decode q_mo_begin.2.1 95 = .ok (.iconst 0, 1) := by decide +kernel
theorem d_mo_begin_96 : decode q_mo_begin.2.1 96 = .ok (.putfield 85, 3) := by decide +kernel
theorem d_mo_begin_99 : decode q_mo_begin.2.1 99 = .ok (.aload_n 0, 1) := by decide +kernel
theorem d_mo_begin_100 : decode q_mo_begin.2.1 100 = .ok (.iconst 0, 1) := by decide +kernel
theorem d_mo_begin_101 : decode q_mo_begin.2.1 101 = .ok (.putfield 88, 3) := by decide +kernel
theorem d_mo_begin_104 : decode q_mo_begin.2.1 104 = .ok (.return_, 1) := by decide +kernel
theorem w_mo_begin_L89 (l : Launch) (lo hi d : Nat) {h' : sm_H} (a0 : Nat) (h : sm_H) (e0 : sm_at lo hi (0, 10, 0) a0) (hf : f_mo_begin_L89 a0 h = some h') : sm_W l lo hi (d + 1) q_mo_begin 89 [(0, .ref a0)] [] h none h' := by
  unfold f_mo_begin_L89 at hf
  refine sm_aload_n 0 rfl d_mo_begin_89 ?_
  refine sm_iconst (v := 0) (by decide) d_mo_begin_90 ?_
  refine sm_putZ fp_mo_81 e0 rfl rfl (by decide) d_mo_begin_91 ?_
  refine sm_nmH (fun g28 w29 => ?_)
  have hf := sm_letV w29 hf
  refine sm_aload_n 0 rfl d_mo_begin_94 ?_
  refine sm_iconst (v := 0) (by decide) d_mo_begin_95 ?_
  refine sm_putZ fp_mo_85 e0 rfl rfl (by decide) d_mo_begin_96 ?_
  refine sm_nmH (fun g30 w31 => ?_)
  have hf := sm_letV w31 hf
  refine sm_aload_n 0 rfl d_mo_begin_99 ?_
  refine sm_iconst (v := 0) (by decide) d_mo_begin_100 ?_
  refine sm_putZ fp_mo_88 e0 rfl rfl (by decide) d_mo_begin_101 ?_
  refine sm_nmH (fun g32 w33 => ?_)
  have hf := sm_letV w33 hf
  obtain rfl := sm_ret1 hf
  exact sm_vret d_mo_begin_104 rfl
theorem w_mo_begin_L73 (l : Launch) (lo hi d : Nat) {k40 : Nat → Int32 → sm_H → Option sm_H} {h' : sm_H} (hk40 : ∀ (a0 : Nat) (a1 : Int32) (h : sm_H) (_ : sm_at lo hi (0, 10, 0) a0) , k40 a0 a1 h = some h' → sm_W l lo hi (d + 1) q_mo_begin 40 [(0, .ref a0), (1, .int a1)] [] h none h') (a0 : Nat) (a1 : Int32) (s0 : Int32) (s1 : Int32) (s2 : Int32) (s3 : Nat) (h : sm_H) (e0 : sm_at lo hi (0, 10, 0) a0) (t3 : sm_at lo hi (0, 10, 0) s3) (hf : f_mo_begin_L73 k40 a0 a1 s0 s1 s2 s3 h = some h') : sm_W l lo hi (d + 1) q_mo_begin 73 [(0, .ref a0), (1, .int a1)] [.int s0, .int s1, .int s2, .ref s3] h none h' := by
  unfold f_mo_begin_L73 at hf
  obtain ⟨g22, c23, hf⟩ := sm_bindE hf
  refine sm_callV (As := [.int s2, .int s1, .int s0]) (rv := none) (h1 := g22) (c := 10) cvv_mo_77 rfl rfl t3 (m_mo_put l lo hi _ t3 c23) rfl rfl d_mo_begin_73 ?_
  refine sm_aload_n 0 rfl d_mo_begin_76 ?_
  refine sm_iload_n 1 rfl d_mo_begin_77 ?_
  refine sm_iconst (v := 4) (by decide) d_mo_begin_78 ?_
  refine sm_iconst (v := (-1)) (by decide) d_mo_begin_79 ?_
  obtain ⟨g24, c25, hf⟩ := sm_bindE hf
  refine sm_callV (As := [.int a1, .int 4, .int (-1)]) (rv := none) (h1 := g24) (c := 10) cvv_mo_77 rfl rfl e0 (m_mo_put l lo hi _ e0 c25) rfl rfl d_mo_begin_80 ?_
  obtain ⟨x26, w27⟩ : ∃ v : Int32, v = a1 + 1 := ⟨_, rfl⟩
  have hf := sm_letV w27 hf
  refine sm_iinc (v := x26) (lv' := [(1, .int x26), (0, .ref a0)]) 1 rfl (by rw [w27]; rfl) d_mo_begin_83 rfl rfl ?_
  refine sm_goto 40 d_mo_begin_86 rfl ?_
  refine sm_sub [1, 0] rfl ?_
  exact hk40 _ _ _ e0 hf
theorem w_mo_begin_L40 (l : Launch) (lo hi d : Nat) {h' : sm_H} : ∀ (n : Nat) (a0 : Nat) (a1 : Int32) (h : sm_H) (e0 : sm_at lo hi (0, 10, 0) a0) (hf : f_mo_begin_L40 n a0 a1 h = some h'), sm_W l lo hi (d + 1) q_mo_begin 40 [(0, .ref a0), (1, .int a1)] [] h none h' := by
  intro n
  induction n with
  | zero =>
    intro a0 a1 h e0 hf
    have z : (none : Option sm_H) = some _ := hf
    cases z
  | succ n ih =>
    intro a0 a1 h e0 hf
    unfold f_mo_begin_L40 at hf
    refine sm_iload_n 1 rfl d_mo_begin_40 ?_
    refine sm_aload_n 0 rfl d_mo_begin_41 ?_
    refine sm_getR (n := 1) fl_mo_7 e0 rfl d_mo_begin_42 ?_
    refine sm_iconst (v := 1) (by decide) d_mo_begin_45 ?_
    obtain ⟨c13, hf⟩ := sm_gdE hf
    refine sm_iald (sm_at_arr (sm_inner e0 0 rfl rfl rfl)) c13 d_mo_begin_46 ?_
    refine sm_icmp_ge 89 d_mo_begin_47 rfl (fun c14 => ?_) (fun c14 => ?_)
    · have hf := sm_ifT c14 hf
      refine sm_sub [0] rfl ?_
      exact w_mo_begin_L89 l lo hi d _ _ e0 hf
    · have hf := sm_ifF c14 hf
      refine sm_aload_n 0 rfl d_mo_begin_50 ?_
      refine sm_iload_n 1 rfl d_mo_begin_51 ?_
      refine sm_iconst (v := 0) (by decide) d_mo_begin_52 ?_
      refine sm_aload_n 0 rfl d_mo_begin_53 ?_
      refine sm_iload_n 1 rfl d_mo_begin_54 ?_
      refine sm_iconst (v := 3) (by decide) d_mo_begin_55 ?_
      obtain ⟨r15, g16, c17, hf⟩ := sm_b2E hf
      refine sm_callV (As := [.int a1, .int 3]) (rv := some (.int r15)) (h1 := g16) (c := 10) cvv_mo_73 rfl rfl e0 (m_mo_damperOf l lo hi _ e0 c17) rfl rfl d_mo_begin_56 ?_
      refine sm_iconst (v := 1) (by decide) d_mo_begin_59 ?_
      refine sm_icmp_ne 72 d_mo_begin_60 rfl (fun c18 => ?_) (fun c18 => ?_)
      · have hf := sm_ifF c18 hf
        refine sm_iconst (v := 0) (by decide) d_mo_begin_72 ?_
        exact w_mo_begin_L73 l lo hi d ih _ _ _ _ _ _ _ e0 e0 hf
      · have hf := sm_ifT c18 hf
        refine sm_aload_n 0 rfl d_mo_begin_63 ?_
        refine sm_iload_n 1 rfl d_mo_begin_64 ?_
        refine sm_iconst (v := 2) (by decide) d_mo_begin_65 ?_
        obtain ⟨r19, g20, c21, hf⟩ := sm_b2E hf
        refine sm_callV (As := [.int a1, .int 2]) (rv := some (.int r19)) (h1 := g20) (c := 10) cvv_mo_73 rfl rfl e0 (m_mo_damperOf l lo hi _ e0 c21) rfl rfl d_mo_begin_66 ?_
        refine sm_goto 73 d_mo_begin_69 rfl ?_
        exact w_mo_begin_L73 l lo hi d ih _ _ _ _ _ _ _ e0 e0 hf
theorem w_mo_begin_L22 (l : Launch) (lo hi d : Nat) {h' : sm_H} (a0 : Nat) (h : sm_H) (e0 : sm_at lo hi (0, 10, 0) a0) (hf : f_mo_begin_L22 a0 h = some h') : sm_W l lo hi (d + 1) q_mo_begin 22 [(0, .ref a0)] [] h none h' := by
  unfold f_mo_begin_L22 at hf
  refine sm_aload_n 0 rfl d_mo_begin_22 ?_
  refine sm_getR (n := 3) fl_mo_16 e0 rfl d_mo_begin_23 ?_
  refine sm_iconst (v := 2) (by decide) d_mo_begin_26 ?_
  refine sm_bipush (v := 100) (by decide) d_mo_begin_27 ?_
  obtain ⟨c7, hf⟩ := sm_gdE hf
  refine sm_iast (sm_at_arr (sm_inner e0 2 rfl rfl rfl)) c7 d_mo_begin_29 ?_
  refine sm_nmH (fun g8 w9 => ?_)
  have hf := sm_letV w9 hf
  refine sm_aload_n 0 rfl d_mo_begin_30 ?_
  refine sm_getR (n := 3) fl_mo_16 e0 rfl d_mo_begin_31 ?_
  refine sm_bipush (v := 7) (by decide) d_mo_begin_34 ?_
  refine sm_iconst (v := (-1)) (by decide) d_mo_begin_36 ?_
  obtain ⟨c10, hf⟩ := sm_gdE hf
  refine sm_iast (sm_at_arr (sm_inner e0 2 rfl rfl rfl)) c10 d_mo_begin_37 ?_
  refine sm_nmH (fun g11 w12 => ?_)
  have hf := sm_letV w12 hf
  refine sm_iconst (v := 0) (by decide) d_mo_begin_38 ?_
  refine sm_istore_n (lv' := [(1, .int 0), (0, .ref a0)]) d_mo_begin_39 rfl rfl ?_
  refine sm_sub [1, 0] rfl ?_
  exact w_mo_begin_L40 l lo hi d sm_N _ _ _ e0 hf
theorem w_mo_begin_L2 (l : Launch) (lo hi d : Nat) {h' : sm_H} : ∀ (n : Nat) (a0 : Nat) (a1 : Int32) (h : sm_H) (e0 : sm_at lo hi (0, 10, 0) a0) (hf : f_mo_begin_L2 n a0 a1 h = some h'), sm_W l lo hi (d + 1) q_mo_begin 2 [(0, .ref a0), (1, .int a1)] [] h none h' := by
  intro n
  induction n with
  | zero =>
    intro a0 a1 h e0 hf
    have z : (none : Option sm_H) = some _ := hf
    cases z
  | succ n ih =>
    intro a0 a1 h e0 hf
    unfold f_mo_begin_L2 at hf
    refine sm_iload_n 1 rfl d_mo_begin_2 ?_
    refine sm_sipush (v := 350) (by decide) d_mo_begin_3 ?_
    refine sm_icmp_ge 22 d_mo_begin_6 rfl (fun c1 => ?_) (fun c1 => ?_)
    · have hf := sm_ifT c1 hf
      refine sm_sub [0] rfl ?_
      exact w_mo_begin_L22 l lo hi d _ _ e0 hf
    · have hf := sm_ifF c1 hf
      refine sm_aload_n 0 rfl d_mo_begin_9 ?_
      refine sm_getR (n := 3) fl_mo_16 e0 rfl d_mo_begin_10 ?_
      refine sm_iload_n 1 rfl d_mo_begin_13 ?_
      refine sm_iconst (v := 0) (by decide) d_mo_begin_14 ?_
      obtain ⟨c2, hf⟩ := sm_gdE hf
      refine sm_iast (sm_at_arr (sm_inner e0 2 rfl rfl rfl)) c2 d_mo_begin_15 ?_
      refine sm_nmH (fun g3 w4 => ?_)
      have hf := sm_letV w4 hf
      obtain ⟨x5, w6⟩ : ∃ v : Int32, v = a1 + 1 := ⟨_, rfl⟩
      have hf := sm_letV w6 hf
      refine sm_iinc (v := x5) (lv' := [(1, .int x5), (0, .ref a0)]) 1 rfl (by rw [w6]; rfl) d_mo_begin_16 rfl rfl ?_
      refine sm_goto 2 d_mo_begin_19 rfl ?_
      refine sm_sub [1, 0] rfl ?_
      exact ih _ _ _ e0 hf
theorem m_mo_begin (l : Launch) (lo hi d : Nat) {a0 : Nat} {h h' : sm_H} (e0 : sm_at lo hi (0, 10, 0) a0) (hf : f_mo_begin a0 h = some h') : sm_Met l lo hi (d + 1) q_mo_begin [.ref a0] h none h' := by
  refine sm_Met.of (by decide +kernel) rfl ?_
  show sm_W l lo hi (d + 1) q_mo_begin 0 [(0, .ref a0)] [] h none h'
  unfold f_mo_begin at hf
  refine sm_iconst (v := 0) (by decide) d_mo_begin_0 ?_
  refine sm_istore_n (lv' := [(1, .int 0), (0, .ref a0)]) d_mo_begin_1 rfl rfl ?_
  refine sm_sub [1, 0] rfl ?_
  exact w_mo_begin_L2 l lo hi d sm_N _ _ _ e0 hf
