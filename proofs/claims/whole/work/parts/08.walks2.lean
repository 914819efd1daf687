theorem d_sc_errorCode_0 : decode q_sc_errorCode.2.1 0 = .ok (.aload_n 0, 1) := by decide +kernel
theorem d_sc_errorCode_1 : decode q_sc_errorCode.2.1 1 = .ok (.getfield 15, 3) := by decide +kernel
theorem d_sc_errorCode_4 : decode q_sc_errorCode.2.1 4 = .ok (.getfield 67, 3) := by decide +kernel
theorem d_sc_errorCode_7 : decode q_sc_errorCode.2.1 7 = .ok (.ireturn, 1) := by decide +kernel
theorem m_sc_errorCode (l : Launch) (lo hi d : Nat) {a0 : Nat} {r0 : Int32} {h h' : sm_H} (e0 : sm_at lo hi (0, 9, 0) a0) (hf : f_sc_errorCode a0 h = some (r0, h')) : sm_Met l lo hi (d) q_sc_errorCode [.ref a0] h (some (.int r0)) h' := by
  refine sm_Met.of (by decide +kernel) rfl ?_
  show sm_W l lo hi (d) q_sc_errorCode 0 [(0, .ref a0)] [] h (some (.int r0)) h'
  unfold f_sc_errorCode at hf
  refine sm_aload_n 0 rfl d_sc_errorCode_0 ?_
  refine sm_getR (n := 17) fl_sc_15 e0 rfl d_sc_errorCode_1 ?_
  refine sm_getI fl_sc_67 (sm_inner e0 0 rfl rfl rfl) rfl d_sc_errorCode_4 ?_
  obtain ⟨rfl, rfl⟩ := sm_ret2 hf
  exact sm_iret d_sc_errorCode_7 rfl
theorem d_sc_errorPosition_0 : decode q_sc_errorPosition.2.1 0 = .ok (.aload_n 0, 1) := by decide +kernel
theorem d_sc_errorPosition_1 : decode q_sc_errorPosition.2.1 1 = .ok (.getfield 15, 3) := by decide +kernel
theorem d_sc_errorPosition_4 : decode q_sc_errorPosition.2.1 4 = .ok (.getfield 80, 3) := by decide +kernel
theorem d_sc_errorPosition_7 : decode q_sc_errorPosition.2.1 7 = .ok (.ireturn, 1) := by decide +kernel
theorem m_sc_errorPosition (l : Launch) (lo hi d : Nat) {a0 : Nat} {r0 : Int32} {h h' : sm_H} (e0 : sm_at lo hi (0, 9, 0) a0) (hf : f_sc_errorPosition a0 h = some (r0, h')) : sm_Met l lo hi (d) q_sc_errorPosition [.ref a0] h (some (.int r0)) h' := by
  refine sm_Met.of (by decide +kernel) rfl ?_
  show sm_W l lo hi (d) q_sc_errorPosition 0 [(0, .ref a0)] [] h (some (.int r0)) h'
  unfold f_sc_errorPosition at hf
  refine sm_aload_n 0 rfl d_sc_errorPosition_0 ?_
  refine sm_getR (n := 17) fl_sc_15 e0 rfl d_sc_errorPosition_1 ?_
  refine sm_getI fl_sc_80 (sm_inner e0 0 rfl rfl rfl) rfl d_sc_errorPosition_4 ?_
  obtain ⟨rfl, rfl⟩ := sm_ret2 hf
  exact sm_iret d_sc_errorPosition_7 rfl
theorem d_sc_count_0 : decode q_sc_count.2.1 0 = .ok (.aload_n 0, 1) := by decide +kernel
theorem d_sc_count_1 : decode q_sc_count.2.1 1 = .ok (.getfield 24, 3) := by decide +kernel
theorem d_sc_count_4 : decode q_sc_count.2.1 4 = .ok (.getfield 70, 3) := by decide +kernel
theorem d_sc_count_7 : decode q_sc_count.2.1 7 = .ok (.astore_n 2, 1) := by decide +kernel
theorem d_sc_count_8 : decode q_sc_count.2.1 8 = .ok (.iload_n 1, 1) := by decide +kernel
theorem d_sc_count_9 : decode q_sc_count.2.1 9 = .ok (.tableswitch 93 0 7 #[47, 52, 57, 62, 67, 75, 80, 85], 47) := by decide +kernel
theorem d_sc_count_56 : decode q_sc_count.2.1 56 = .ok (.aload_n 2, 1) := by decide +kernel
theorem d_sc_count_57 : decode q_sc_count.2.1 57 = .ok (.getfield 83, 3) := by decide +kernel
theorem d_sc_count_60 : decode q_sc_count.2.1 60 = .ok (.ireturn, 1) := by decide +kernel
theorem d_sc_count_61 : decode q_sc_count.2.1 61 = .ok (.aload_n 2, 1) := by decide +kernel
theorem d_sc_count_62 : decode q_sc_count.2.1 62 = .ok (.getfield 86, 3) := by decide +kernel
theorem d_sc_count_65 : decode q_sc_count.2.1 65 = .ok (.ireturn, 1) := by decide +kernel
theorem d_sc_count_66 : decode q_sc_count.2.1 66 = .ok (.aload_n 2, 1) := by decide +kernel
theorem d_sc_count_67 : decode q_sc_count.2.1 67 = .ok (.getfield 89, 3) := by decide +kernel
theorem d_sc_count_70 : decode q_sc_count.2.1 70 = .ok (.ireturn, 1) := by decide +kernel
theorem d_sc_count_71 : decode q_sc_count.2.1 71 = .ok (.aload_n 2, 1) := by decide +kernel
theorem d_sc_count_72 : decode q_sc_count.2.1 72 = .ok (.getfield 92, 3) := by decide +kernel
theorem d_sc_count_75 : decode q_sc_count.2.1 75 = .ok (.ireturn, 1) := by decide +kernel
theorem d_sc_count_76 : decode q_sc_count.2.1 76 = .ok (.aload_n 2, 1) := by decide +kernel
theorem d_sc_count_77 : decode q_sc_count.2.1 77 = .ok (.getfield 95, 3) := by decide +kernel
theorem d_sc_count_80 : decode q_sc_count.2.1 80 = .ok (.getfield 99, 3) := by decide +kernel
theorem d_sc_count_83 : decode q_sc_count.2.1 83 = .ok (.ireturn, 1) := by decide +kernel
theorem d_sc_count_84 : decode q_sc_count.2.1 84 = .ok (.aload_n 2, 1) := by decide +kernel
theorem d_sc_count_85 : decode q_sc_count.2.1 85 = .ok (.getfield 103, 3) := by decide +kernel
theorem d_sc_count_88 : decode q_sc_count.2.1 88 = .ok (.ireturn, 1) := by decide +kernel
theorem d_sc_count_89 : decode q_sc_count.2.1 89 = .ok (.aload_n 2, 1) := by decide +kernel
theorem d_sc_count_90 : decode q_sc_count.2.1 90 = .ok (.getfield 106, 3) := by decide +kernel
theorem d_sc_count_93 : decode q_sc_count.2.1 93 = .ok (.ireturn, 1) := by decide +kernel
theorem d_sc_count_94 : decode q_sc_count.2.1 94 = .ok (.aload_n 2, 1) := by decide +kernel
theorem d_sc_count_95 : decode q_sc_count.2.1 95 = .ok (.getfield 95, 3) := by decide +kernel
theorem d_sc_count_98 : decode q_sc_count.2.1 98 = .ok (.getfield 109, 3) := by decide +kernel
theorem d_sc_count_101 : decode q_sc_count.2.1 101 = .ok (.ireturn, 1) := by decide +kernel
theorem d_sc_count_102 : decode q_sc_count.2.1 102 = .ok (.bipush (-2), 2) := by decide +kernel
theorem d_sc_count_104 : decode q_sc_count.2.1 104 = .ok (.ireturn, 1) := by decide +kernel
theorem m_sc_count (l : Launch) (lo hi d : Nat) (hS : sm_has lo hi) {a0 : Nat} {a1 : Int32} {r0 : Int32} {h h' : sm_H} (e0 : sm_at lo hi (0, 9, 0) a0) (hf : f_sc_count a0 a1 h = some (r0, h')) : sm_Met l lo hi (d) q_sc_count [.ref a0, .int a1] h (some (.int r0)) h' := by
  refine sm_Met.of (by decide +kernel) rfl ?_
  show sm_W l lo hi (d) q_sc_count 0 [(0, .ref a0), (1, .int a1)] [] h (some (.int r0)) h'
  unfold f_sc_count at hf
  refine sm_aload_n 0 rfl d_sc_count_0 ?_
  refine sm_getR (n := 40) fl_sc_24 e0 rfl d_sc_count_1 ?_
  obtain ⟨c1, hf⟩ := sm_gdE hf
  obtain ⟨z2, v3⟩ := sm_isP_at hS c1
  refine sm_getD fl_sc_70 (sm_inner e0 1 rfl rfl rfl) rfl z2 d_sc_count_4 ?_
  refine sm_nmR (fun p4 w5 => ?_)
  have hf := sm_letV w5 hf
  have v3 := sm_ev w5 v3
  refine sm_astore_n (lv' := [(2, .ref p4), (0, .ref a0), (1, .int a1)]) d_sc_count_7 rfl rfl ?_
  refine sm_iload_n 2 rfl d_sc_count_8 ?_
  by_cases c6 : a1 = 0
  · have hf := sm_ifT c6 hf
    refine sm_tableIn 56 d_sc_count_9 (by rw [c6]; decide) (by rw [c6]; decide) (by rw [c6]; rfl) rfl ?_
    refine sm_aload_n 0 rfl d_sc_count_56 ?_
    refine sm_getI fl_sc_83 v3 rfl d_sc_count_57 ?_
    obtain ⟨rfl, rfl⟩ := sm_ret2 hf
    exact sm_iret d_sc_count_60 rfl
  have hf := sm_ifF c6 hf
  by_cases c7 : a1 = 1
  · have hf := sm_ifT c7 hf
    refine sm_tableIn 61 d_sc_count_9 (by rw [c7]; decide) (by rw [c7]; decide) (by rw [c7]; rfl) rfl ?_
    refine sm_aload_n 0 rfl d_sc_count_61 ?_
    refine sm_getI fl_sc_86 v3 rfl d_sc_count_62 ?_
    obtain ⟨rfl, rfl⟩ := sm_ret2 hf
    exact sm_iret d_sc_count_65 rfl
  have hf := sm_ifF c7 hf
  by_cases c8 : a1 = 2
  · have hf := sm_ifT c8 hf
    refine sm_tableIn 66 d_sc_count_9 (by rw [c8]; decide) (by rw [c8]; decide) (by rw [c8]; rfl) rfl ?_
    refine sm_aload_n 0 rfl d_sc_count_66 ?_
    refine sm_getI fl_sc_89 v3 rfl d_sc_count_67 ?_
    obtain ⟨rfl, rfl⟩ := sm_ret2 hf
    exact sm_iret d_sc_count_70 rfl
  have hf := sm_ifF c8 hf
  by_cases c9 : a1 = 3
  · have hf := sm_ifT c9 hf
    refine sm_tableIn 71 d_sc_count_9 (by rw [c9]; decide) (by rw [c9]; decide) (by rw [c9]; rfl) rfl ?_
    refine sm_aload_n 0 rfl d_sc_count_71 ?_
    refine sm_getI fl_sc_92 v3 rfl d_sc_count_72 ?_
    obtain ⟨rfl, rfl⟩ := sm_ret2 hf
    exact sm_iret d_sc_count_75 rfl
  have hf := sm_ifF c9 hf
  by_cases c10 : a1 = 4
  · have hf := sm_ifT c10 hf
    refine sm_tableIn 76 d_sc_count_9 (by rw [c10]; decide) (by rw [c10]; decide) (by rw [c10]; rfl) rfl ?_
    refine sm_aload_n 0 rfl d_sc_count_76 ?_
    refine sm_getR (n := 9) fl_sc_95 v3 rfl d_sc_count_77 ?_
    refine sm_getI fl_sc_99 (sm_inner v3 15 rfl rfl rfl) rfl d_sc_count_80 ?_
    obtain ⟨rfl, rfl⟩ := sm_ret2 hf
    exact sm_iret d_sc_count_83 rfl
  have hf := sm_ifF c10 hf
  by_cases c11 : a1 = 5
  · have hf := sm_ifT c11 hf
    refine sm_tableIn 84 d_sc_count_9 (by rw [c11]; decide) (by rw [c11]; decide) (by rw [c11]; rfl) rfl ?_
    refine sm_aload_n 0 rfl d_sc_count_84 ?_
    refine sm_getI fl_sc_103 v3 rfl d_sc_count_85 ?_
    obtain ⟨rfl, rfl⟩ := sm_ret2 hf
    exact sm_iret d_sc_count_88 rfl
  have hf := sm_ifF c11 hf
  by_cases c12 : a1 = 6
  · have hf := sm_ifT c12 hf
    refine sm_tableIn 89 d_sc_count_9 (by rw [c12]; decide) (by rw [c12]; decide) (by rw [c12]; rfl) rfl ?_
    refine sm_aload_n 0 rfl d_sc_count_89 ?_
    refine sm_getI fl_sc_106 v3 rfl d_sc_count_90 ?_
    obtain ⟨rfl, rfl⟩ := sm_ret2 hf
    exact sm_iret d_sc_count_93 rfl
  have hf := sm_ifF c12 hf
  by_cases c13 : a1 = 7
  · have hf := sm_ifT c13 hf
    refine sm_tableIn 94 d_sc_count_9 (by rw [c13]; decide) (by rw [c13]; decide) (by rw [c13]; rfl) rfl ?_
    refine sm_aload_n 0 rfl d_sc_count_94 ?_
    refine sm_getR (n := 9) fl_sc_95 v3 rfl d_sc_count_95 ?_
    refine sm_getI fl_sc_109 (sm_inner v3 15 rfl rfl rfl) rfl d_sc_count_98 ?_
    obtain ⟨rfl, rfl⟩ := sm_ret2 hf
    exact sm_iret d_sc_count_101 rfl
  have hf := sm_ifF c13 hf
  refine sm_tableOut 102 d_sc_count_9 (sm_swOut 0 8 (by decide) (by decide) (fun j hj => by match j, hj with | 0, _ => exact c6 | 1, _ => exact c7 | 2, _ => exact c8 | 3, _ => exact c9 | 4, _ => exact c10 | 5, _ => exact c11 | 6, _ => exact c12 | 7, _ => exact c13 | j + 8, hj => exact absurd hj (by omega))) rfl ?_
  refine sm_bipush (v := (-2)) (by decide) d_sc_count_102 ?_
  obtain ⟨rfl, rfl⟩ := sm_ret2 hf
  exact sm_iret d_sc_count_104 rfl
theorem d_sc_exchange_0 : decode q_sc_exchange.2.1 0 = .ok (.iload_n 1, 1) := by decide +kernel
theorem d_sc_exchange_1 : decode q_sc_exchange.2.1 1 = .ok (.ifCond .lt 9, 3) := by decide +kernel
theorem d_sc_exchange_4 : decode q_sc_exchange.2.1 4 = .ok (.iload_n 1, 1) := by decide +kernel
theorem d_sc_exchange_5 : decode q_sc_exchange.2.1 5 = .ok (.aload_n 0, 1) := by decide +kernel
theorem d_sc_exchange_6 : decode q_sc_exchange.2.1 6 = .ok (.arraylength, 1) := by decide +kernel
theorem d_sc_exchange_7 : decode q_sc_exchange.2.1 7 = .ok (.if_icmp .lt 5, 3) := by decide +kernel
theorem d_sc_exchange_10 : decode q_sc_exchange.2.1 10 = .ok (.iconst (-1), 1) := by decide +kernel
theorem d_sc_exchange_11 : decode q_sc_exchange.2.1 11 = .ok (.ireturn, 1) := by decide +kernel
theorem d_sc_exchange_12 : decode q_sc_exchange.2.1 12 = .ok (.aload_n 0, 1) := by decide +kernel
theorem d_sc_exchange_13 : decode q_sc_exchange.2.1 13 = .ok (.iload_n 1, 1) := by decide +kernel
theorem d_sc_exchange_14 : decode q_sc_exchange.2.1 14 = .ok (.iaload, 1) := by decide +kernel
theorem d_sc_exchange_15 : decode q_sc_exchange.2.1 15 = .ok (.istore_n 3, 1) := by decide +kernel
theorem d_sc_exchange_16 : decode q_sc_exchange.2.1 16 = .ok (.aload_n 0, 1) := by decide +kernel
theorem d_sc_exchange_17 : decode q_sc_exchange.2.1 17 = .ok (.iload_n 1, 1) := by decide +kernel
theorem d_sc_exchange_18 : decode q_sc_exchange.2.1 18 = .ok (.iload_n 2, 1) := by decide +kernel
theorem d_sc_exchange_19 : decode q_sc_exchange.2.1 19 = .ok (.iastore, 1) := by decide +kernel
theorem d_sc_exchange_20 : decode q_sc_exchange.2.1 20 = .ok (.iload_n 3, 1) := by decide +kernel
theorem d_sc_exchange_21 : decode q_sc_exchange.2.1 21 = .ok (.ireturn, 1) := by decide +kernel
theorem m_sc_exchange (l : Launch) (lo hi d : Nat) {a0 : Nat} {a1 : Int32} {a2 : Int32} {r0 : Int32} {h h' : sm_H} (e0 : sm_arr lo hi 0 (sm_len a0) a0) (hf : f_sc_exchange a0 a1 a2 h = some (r0, h')) : sm_Met l lo hi (d) q_sc_exchange [.ref a0, .int a1, .int a2] h (some (.int r0)) h' := by
  refine sm_Met.of (by decide +kernel) rfl ?_
  show sm_W l lo hi (d) q_sc_exchange 0 [(0, .ref a0), (1, .int a1), (2, .int a2)] [] h (some (.int r0)) h'
  unfold f_sc_exchange at hf
  refine sm_iload_n 1 rfl d_sc_exchange_0 ?_
  refine sm_if_lt 10 d_sc_exchange_1 rfl (fun c1 => ?_) (fun c1 => ?_)
  · have hf := sm_ifT c1 hf
    refine sm_iconst (v := (-1)) (by decide) d_sc_exchange_10 ?_
    obtain ⟨rfl, rfl⟩ := sm_ret2 hf
    exact sm_iret d_sc_exchange_11 rfl
  · have hf := sm_ifF c1 hf
    refine sm_iload_n 1 rfl d_sc_exchange_4 ?_
    refine sm_aload_n 0 rfl d_sc_exchange_5 ?_
    refine sm_alen e0 rfl d_sc_exchange_6 ?_
    refine sm_icmp_lt 12 d_sc_exchange_7 rfl (fun c2 => ?_) (fun c2 => ?_)
    · have hf := sm_ifT c2 hf
      refine sm_aload_n 0 rfl d_sc_exchange_12 ?_
      refine sm_iload_n 1 rfl d_sc_exchange_13 ?_
      obtain ⟨c3, hf⟩ := sm_gdE hf
      refine sm_iald e0 c3 d_sc_exchange_14 ?_
      refine sm_nmI (fun x4 w5 => ?_)
      have hf := sm_letV w5 hf
      refine sm_istore_n (lv' := [(3, .int x4), (0, .ref a0), (1, .int a1), (2, .int a2)]) d_sc_exchange_15 rfl rfl ?_
      refine sm_aload_n 1 rfl d_sc_exchange_16 ?_
      refine sm_iload_n 2 rfl d_sc_exchange_17 ?_
      refine sm_iload_n 3 rfl d_sc_exchange_18 ?_
      obtain ⟨c6, hf⟩ := sm_gdE hf
      refine sm_iast e0 c6 d_sc_exchange_19 ?_
      refine sm_nmH (fun g7 w8 => ?_)
      have hf := sm_letV w8 hf
      refine sm_iload_n 0 rfl d_sc_exchange_20 ?_
      obtain ⟨rfl, rfl⟩ := sm_ret2 hf
      exact sm_iret d_sc_exchange_21 rfl
    · have hf := sm_ifF c2 hf
      refine sm_iconst (v := (-1)) (by decide) d_sc_exchange_10 ?_
      obtain ⟨rfl, rfl⟩ := sm_ret2 hf
      exact sm_iret d_sc_exchange_11 rfl
theorem d_sc_lacksZone_0 : decode q_sc_lacksZone.2.1 0 = .ok (.iload_n 1, 1) := by decide +kernel
theorem d_sc_lacksZone_1 : decode q_sc_lacksZone.2.1 1 = .ok (.ifCond .lt 17, 3) := by decide +kernel
theorem d_sc_lacksZone_4 : decode q_sc_lacksZone.2.1 4 = .ok (.iload_n 1, 1) := by decide +kernel
theorem d_sc_lacksZone_5 : decode q_sc_lacksZone.2.1 5 = .ok (.aload_n 0, 1) := by decide +kernel
theorem d_sc_lacksZone_6 : decode q_sc_lacksZone.2.1 6 = .ok (.getfield 24, 3) := by decide +kernel
theorem d_sc_lacksZone_9 : decode q_sc_lacksZone.2.1 9 = .ok (.getfield 70, 3) := by decide +kernel
theorem d_sc_lacksZone_12 : decode q_sc_lacksZone.2.1 12 = .ok (.getfield 83, 3) := by decide +kernel
theorem d_sc_lacksZone_15 : decode q_sc_lacksZone.2.1 15 = .ok (.if_icmp .lt 7, 3) := by decide +kernel
theorem d_sc_lacksZone_18 : decode q_sc_lacksZone.2.1 18 = .ok (.iconst 1, 1) := by decide +kernel
theorem d_sc_lacksZone_19 : decode q_sc_lacksZone.2.1 19 = .ok (.goto 4, 3) := by decide +kernel
theorem d_sc_lacksZone_22 : decode q_sc_lacksZone.2.1 22 = .ok (.iconst 0, 1) := by decide +kernel
theorem d_sc_lacksZone_23 : decode q_sc_lacksZone.2.1 23 = .ok (.ireturn, 1) := by decide +kernel
theorem w_sc_lacksZone_L23 (l : Launch) (lo hi d : Nat) (hS : sm_has lo hi) {h' : sm_H} {r0 : Int32} (s0 : Int32) (h : sm_H) (hf : f_sc_lacksZone_L23 s0 h = some (r0, h')) : sm_W l lo hi (d) q_sc_lacksZone 23 [] [.int s0] h (some (.int r0)) h' := by
  unfold f_sc_lacksZone_L23 at hf
  obtain ⟨c8, hf⟩ := sm_gdE hf
  obtain ⟨rfl, rfl⟩ := sm_ret2 hf
  exact sm_bret c8 d_sc_lacksZone_23 rfl
theorem w_sc_lacksZone_L18 (l : Launch) (lo hi d : Nat) (hS : sm_has lo hi) {h' : sm_H} {r0 : Int32} (h : sm_H) (hf : f_sc_lacksZone_L18 h = some (r0, h')) : sm_W l lo hi (d) q_sc_lacksZone 18 [] [] h (some (.int r0)) h' := by
  unfold f_sc_lacksZone_L18 at hf
  refine sm_iconst (v := 1) (by decide) d_sc_lacksZone_18 ?_
  refine sm_goto 23 d_sc_lacksZone_19 rfl ?_
  exact w_sc_lacksZone_L23 l lo hi d hS _ _ hf
theorem m_sc_lacksZone (l : Launch) (lo hi d : Nat) (hS : sm_has lo hi) {a0 : Nat} {a1 : Int32} {r0 : Int32} {h h' : sm_H} (e0 : sm_at lo hi (0, 9, 0) a0) (hf : f_sc_lacksZone a0 a1 h = some (r0, h')) : sm_Met l lo hi (d) q_sc_lacksZone [.ref a0, .int a1] h (some (.int r0)) h' := by
  refine sm_Met.of (by decide +kernel) rfl ?_
  show sm_W l lo hi (d) q_sc_lacksZone 0 [(0, .ref a0), (1, .int a1)] [] h (some (.int r0)) h'
  unfold f_sc_lacksZone at hf
  refine sm_iload_n 1 rfl d_sc_lacksZone_0 ?_
  refine sm_if_lt 18 d_sc_lacksZone_1 rfl (fun c1 => ?_) (fun c1 => ?_)
  · have hf := sm_ifT c1 hf
    refine sm_sub [] rfl ?_
    exact w_sc_lacksZone_L18 l lo hi d hS _ hf
  · have hf := sm_ifF c1 hf
    refine sm_iload_n 1 rfl d_sc_lacksZone_4 ?_
    refine sm_aload_n 0 rfl d_sc_lacksZone_5 ?_
    refine sm_getR (n := 40) fl_sc_24 e0 rfl d_sc_lacksZone_6 ?_
    obtain ⟨c2, hf⟩ := sm_gdE hf
    obtain ⟨z3, v4⟩ := sm_isP_at hS c2
    refine sm_getD fl_sc_70 (sm_inner e0 1 rfl rfl rfl) rfl z3 d_sc_lacksZone_9 ?_
    refine sm_nmR (fun p5 w6 => ?_)
    have hf := sm_letV w6 hf
    have v4 := sm_ev w6 v4
    refine sm_getI fl_sc_83 v4 rfl d_sc_lacksZone_12 ?_
    refine sm_icmp_lt 22 d_sc_lacksZone_15 rfl (fun c7 => ?_) (fun c7 => ?_)
    · have hf := sm_ifT c7 hf
      refine sm_iconst (v := 0) (by decide) d_sc_lacksZone_22 ?_
      refine sm_sub [] rfl ?_
      exact w_sc_lacksZone_L23 l lo hi d hS _ _ hf
    · have hf := sm_ifF c7 hf
      refine sm_sub [] rfl ?_
      exact w_sc_lacksZone_L18 l lo hi d hS _ hf
theorem d_sc_setSource_0 : decode q_sc_setSource.2.1 0 = .ok (.aload_n 0, 1) := by decide +kernel
theorem d_sc_setSource_1 : decode q_sc_setSource.2.1 1 = .ok (.iload_n 1, 1) := by decide +kernel
theorem d_sc_setSource_2 : decode q_sc_setSource.2.1 2 = .ok (.invokevirtual 112, 3) := by decide +kernel
theorem d_sc_setSource_5 : decode q_sc_setSource.2.1 5 = .ok (.ifCond .eq 5, 3) := by decide +kernel
theorem d_sc_setSource_8 : decode q_sc_setSource.2.1 8 = .ok (.iconst (-1), 1) := by decide +kernel
theorem d_sc_setSource_9 : decode q_sc_setSource.2.1 9 = .ok (.ireturn, 1) := by decide +kernel
theorem d_sc_setSource_10 : decode q_sc_setSource.2.1 10 = .ok (.iload_n 2, 1) := by decide +kernel
theorem d_sc_setSource_11 : decode q_sc_setSource.2.1 11 = .ok (.ifCond .lt 9, 3) := by decide +kernel
theorem d_sc_setSource_14 : decode q_sc_setSource.2.1 14 = .ok (.iload_n 2, 1) := by decide +kernel
theorem d_sc_setSource_15 : decode q_sc_setSource.2.1 15 = .ok (.bipush 50, 2) := by decide +kernel
theorem d_sc_setSource_17 : decode q_sc_setSource.2.1 17 = .ok (.if_icmp .le 6, 3) := by decide +kernel
theorem d_sc_setSource_20 : decode q_sc_setSource.2.1 20 = .ok (.bipush (-2), 2) := by decide +kernel
theorem d_sc_setSource_22 : decode q_sc_setSource.2.1 22 = .ok (.ireturn, 1) := by decide +kernel
theorem d_sc_setSource_23 : decode q_sc_setSource.2.1 23 = .ok (.aload_n 0, 1) := by decide +kernel
theorem d_sc_setSource_24 : decode q_sc_setSource.2.1 24 = .ok (.getfield 24, 3) := by decide +kernel
theorem d_sc_setSource_27 : decode q_sc_setSource.2.1 27 = .ok (.getfield 116, 3) := by decide +kernel
theorem d_sc_setSource_30 : decode q_sc_setSource.2.1 30 = .ok (.iload_n 1, 1) := by decide +kernel
theorem d_sc_setSource_31 : decode q_sc_setSource.2.1 31 = .ok (.iload_n 2, 1) := by decide +kernel
theorem d_sc_setSource_32 : decode q_sc_setSource.2.1 32 = .ok (.invokestatic 120, 3) := by decide +kernel
theorem d_sc_setSource_35 : decode q_sc_setSource.2.1 35 = .ok (.ireturn, 1) := by decide +kernel
theorem w_sc_setSource_L20 (l : Launch) (lo hi d : Nat) (hS : sm_has lo hi) {h' : sm_H} {r0 : Int32} (h : sm_H) (hf : f_sc_setSource_L20 h = some (r0, h')) : sm_W l lo hi (d + 1) q_sc_setSource 20 [] [] h (some (.int r0)) h' := by
  unfold f_sc_setSource_L20 at hf
  refine sm_bipush (v := (-2)) (by decide) d_sc_setSource_20 ?_
  obtain ⟨rfl, rfl⟩ := sm_ret2 hf
  exact sm_iret d_sc_setSource_22 rfl
theorem m_sc_setSource (l : Launch) (lo hi d : Nat) (hS : sm_has lo hi) {a0 : Nat} {a1 : Int32} {a2 : Int32} {r0 : Int32} {h h' : sm_H} (e0 : sm_at lo hi (0, 9, 0) a0) (hf : f_sc_setSource a0 a1 a2 h = some (r0, h')) : sm_Met l lo hi (d + 1) q_sc_setSource [.ref a0, .int a1, .int a2] h (some (.int r0)) h' := by
  refine sm_Met.of (by decide +kernel) rfl ?_
  show sm_W l lo hi (d + 1) q_sc_setSource 0 [(0, .ref a0), (1, .int a1), (2, .int a2)] [] h (some (.int r0)) h'
  unfold f_sc_setSource at hf
  refine sm_aload_n 0 rfl d_sc_setSource_0 ?_
  refine sm_iload_n 1 rfl d_sc_setSource_1 ?_
  obtain ⟨r1, g2, c3, hf⟩ := sm_b2E hf
  refine sm_callV (As := [.int a1]) (rv := some (.int r1)) (h1 := g2) (c := 9) cvv_sc_112 rfl rfl e0 (m_sc_lacksZone l lo hi _ hS e0 c3) rfl rfl d_sc_setSource_2 ?_
  refine sm_if_eq 10 d_sc_setSource_5 rfl (fun c4 => ?_) (fun c4 => ?_)
  · have hf := sm_ifT c4 hf
    refine sm_iload_n 2 rfl d_sc_setSource_10 ?_
    refine sm_if_lt 20 d_sc_setSource_11 rfl (fun c5 => ?_) (fun c5 => ?_)
    · have hf := sm_ifT c5 hf
      refine sm_sub [] rfl ?_
      exact w_sc_setSource_L20 l lo hi d hS _ hf
    · have hf := sm_ifF c5 hf
      refine sm_iload_n 2 rfl d_sc_setSource_14 ?_
      refine sm_bipush (v := 50) (by decide) d_sc_setSource_15 ?_
      refine sm_icmp_le 23 d_sc_setSource_17 rfl (fun c6 => ?_) (fun c6 => ?_)
      · have hf := sm_ifT c6 hf
        refine sm_aload_n 0 rfl d_sc_setSource_23 ?_
        refine sm_getR (n := 40) fl_sc_24 e0 rfl d_sc_setSource_24 ?_
        refine sm_getR (n := 2) fl_sc_116 (sm_inner e0 1 rfl rfl rfl) rfl d_sc_setSource_27 ?_
        refine sm_iload_n 1 rfl d_sc_setSource_30 ?_
        refine sm_iload_n 2 rfl d_sc_setSource_31 ?_
        obtain ⟨r7, g8, c9, hf⟩ := sm_b2E hf
        refine sm_callS (As := [.ref (a0 + 40 + 2), .int a1, .int a2]) (rv := some (.int r7)) (h1 := g8) cvs_sc_120 (m_sc_exchange l lo hi _ (sm_arr_self (sm_at_arr (sm_inner (sm_inner e0 1 rfl rfl rfl) 10 rfl rfl rfl))) c9) rfl rfl d_sc_setSource_32 ?_
        obtain ⟨rfl, rfl⟩ := sm_ret2 hf
        exact sm_iret d_sc_setSource_35 rfl
      · have hf := sm_ifF c6 hf
        refine sm_sub [] rfl ?_
        exact w_sc_setSource_L20 l lo hi d hS _ hf
  · have hf := sm_ifF c4 hf
    refine sm_iconst (v := (-1)) (by decide) d_sc_setSource_8 ?_
    obtain ⟨rfl, rfl⟩ := sm_ret2 hf
    exact sm_iret d_sc_setSource_9 rfl
theorem d_sc_setDetector_0 : decode q_sc_setDetector.2.1 0 = .ok (.aload_n 0, 1) := by decide +kernel
theorem d_sc_setDetector_1 : decode q_sc_setDetector.2.1 1 = .ok (.iload_n 1, 1) := by decide +kernel
theorem d_sc_setDetector_2 : decode q_sc_setDetector.2.1 2 = .ok (.invokevirtual 112, 3) := by decide +kernel
theorem d_sc_setDetector_5 : decode q_sc_setDetector.2.1 5 = .ok (.ifCond .eq 5, 3) := by decide +kernel
theorem d_sc_setDetector_8 : decode q_sc_setDetector.2.1 8 = .ok (.iconst (-1), 1) := by decide +kernel
theorem d_sc_setDetector_9 : decode q_sc_setDetector.2.1 9 = .ok (.ireturn, 1) := by decide +kernel
theorem d_sc_setDetector_10 : decode q_sc_setDetector.2.1 10 = .ok (.aload_n 0, 1) := by decide +kernel
theorem d_sc_setDetector_11 : decode q_sc_setDetector.2.1 11 = .ok (.getfield 24, 3) := by decide +kernel
theorem d_sc_setDetector_14 : decode q_sc_setDetector.2.1 14 = .ok (.getfield 124, 3) := by decide +kernel
theorem d_sc_setDetector_17 : decode q_sc_setDetector.2.1 17 = .ok (.getfield 128, 3) := by decide +kernel
theorem d_sc_setDetector_20 : decode q_sc_setDetector.2.1 20 = .ok (.istore_n 3, 1) := by decide +kernel
theorem d_sc_setDetector_21 : decode q_sc_setDetector.2.1 21 = .ok (.aload_n 0, 1) := by decide +kernel
theorem d_sc_setDetector_22 : decode q_sc_setDetector.2.1 22 = .ok (.getfield 24, 3) := by decide +kernel
theorem d_sc_setDetector_25 : decode q_sc_setDetector.2.1 25 = .ok (.getfield 124, 3) := by decide +kernel
theorem d_sc_setDetector_28 : decode q_sc_setDetector.2.1 28 = .ok (.iload_n 3, 1) := by decide +kernel
theorem d_sc_setDetector_29 : decode q_sc_setDetector.2.1 29 = .ok (.iload_n 1, 1) := by decide +kernel
theorem d_sc_setDetector_30 : decode q_sc_setDetector.2.1 30 = .ok (.iload_n 2, 1) := by decide +kernel
theorem d_sc_setDetector_31 : decode q_sc_setDetector.2.1 31 = .ok (.invokestatic 133, 3) := by decide +kernel
theorem d_sc_setDetector_34 : decode q_sc_setDetector.2.1 34 = .ok (.putfield 128, 3) := by decide +kernel
theorem d_sc_setDetector_37 : decode q_sc_setDetector.2.1 37 = .ok (.iload_n 3, 1) := by decide +kernel
theorem d_sc_setDetector_38 : decode q_sc_setDetector.2.1 38 = .ok (.aload_n 0, 1) := by decide +kernel
theorem d_sc_setDetector_39 : decode q_sc_setDetector.2.1 39 = .ok (.getfield 24, 3) := by decide +kernel
theorem d_sc_setDetector_42 : decode q_sc_setDetector.2.1 42 = .ok (.getfield 124, 3) := by decide +kernel
theorem d_sc_setDetector_45 : decode q_sc_setDetector.2.1 45 = .ok (.getfield 128, 3) := by decide +kernel
theorem d_sc_setDetector_48 : decode q_sc_setDetector.2.1 48 = .ok (.if_icmp .eq 7, 3) := by decide +kernel
theorem d_sc_setDetector_51 : decode q_sc_setDetector.2.1 51 = .ok (.iconst 1, 1) := by decide +kernel
theorem d_sc_setDetector_52 : decode q_sc_setDetector.2.1 52 = .ok (.goto 4, 3) := by decide +kernel
theorem d_sc_setDetector_55 : decode q_sc_setDetector.2.1 55 = .ok (.iconst 0, 1) := by decide +kernel
theorem d_sc_setDetector_56 : decode q_sc_setDetector.2.1 56 = .ok (.ireturn, 1) := by decide +kernel
theorem w_sc_setDetector_L56 (l : Launch) (lo hi d : Nat) (hS : sm_has lo hi) {h' : sm_H} {r0 : Int32} (s0 : Int32) (h : sm_H) (hf : f_sc_setDetector_L56 s0 h = some (r0, h')) : sm_W l lo hi (d + 1) q_sc_setDetector 56 [] [.int s0] h (some (.int r0)) h' := by
  unfold f_sc_setDetector_L56 at hf
  obtain ⟨rfl, rfl⟩ := sm_ret2 hf
  exact sm_iret d_sc_setDetector_56 rfl
theorem m_sc_setDetector (l : Launch) (lo hi d : Nat) (hS : sm_has lo hi) {a0 : Nat} {a1 : Int32} {a2 : Int32} {r0 : Int32} {h h' : sm_H} (e0 : sm_at lo hi (0, 9, 0) a0) (hf : f_sc_setDetector a0 a1 a2 h = some (r0, h')) : sm_Met l lo hi (d + 1) q_sc_setDetector [.ref a0, .int a1, .int a2] h (some (.int r0)) h' := by
  refine sm_Met.of (by decide +kernel) rfl ?_
  show sm_W l lo hi (d + 1) q_sc_setDetector 0 [(0, .ref a0), (1, .int a1), (2, .int a2)] [] h (some (.int r0)) h'
  unfold f_sc_setDetector at hf
  refine sm_aload_n 0 rfl d_sc_setDetector_0 ?_
  refine sm_iload_n 1 rfl d_sc_setDetector_1 ?_
  obtain ⟨r1, g2, c3, hf⟩ := sm_b2E hf
  refine sm_callV (As := [.int a1]) (rv := some (.int r1)) (h1 := g2) (c := 9) cvv_sc_112 rfl rfl e0 (m_sc_lacksZone l lo hi _ hS e0 c3) rfl rfl d_sc_setDetector_2 ?_
  refine sm_if_eq 10 d_sc_setDetector_5 rfl (fun c4 => ?_) (fun c4 => ?_)
  · have hf := sm_ifT c4 hf
    refine sm_aload_n 0 rfl d_sc_setDetector_10 ?_
    refine sm_getR (n := 40) fl_sc_24 e0 rfl d_sc_setDetector_11 ?_
    refine sm_getR (n := 8) fl_sc_124 (sm_inner e0 1 rfl rfl rfl) rfl d_sc_setDetector_14 ?_
    refine sm_getI fl_sc_128 (sm_inner (sm_inner e0 1 rfl rfl rfl) 16 rfl rfl rfl) rfl d_sc_setDetector_17 ?_
    refine sm_nmI (fun x5 w6 => ?_)
    have hf := sm_letV w6 hf
    refine sm_istore_n (lv' := [(3, .int x5), (0, .ref a0), (1, .int a1), (2, .int a2)]) d_sc_setDetector_20 rfl rfl ?_
    refine sm_aload_n 1 rfl d_sc_setDetector_21 ?_
    refine sm_getR (n := 40) fl_sc_24 e0 rfl d_sc_setDetector_22 ?_
    refine sm_getR (n := 8) fl_sc_124 (sm_inner e0 1 rfl rfl rfl) rfl d_sc_setDetector_25 ?_
    refine sm_iload_n 0 rfl d_sc_setDetector_28 ?_
    refine sm_iload_n 2 rfl d_sc_setDetector_29 ?_
    refine sm_iload_n 3 rfl d_sc_setDetector_30 ?_
    obtain ⟨r7, g8, c9, hf⟩ := sm_b2E hf
    refine sm_callS (As := [.int x5, .int a1, .int a2]) (rv := some (.int r7)) (h1 := g8) cvs_sc_133 (m_sc_with l lo hi _ c9) rfl rfl d_sc_setDetector_31 ?_
    refine sm_putI fp_sc_128 (sm_inner (sm_inner e0 1 rfl rfl rfl) 16 rfl rfl rfl) rfl rfl d_sc_setDetector_34 ?_
    refine sm_nmH (fun g10 w11 => ?_)
    have hf := sm_letV w11 hf
    refine sm_iload_n 0 rfl d_sc_setDetector_37 ?_
    refine sm_aload_n 1 rfl d_sc_setDetector_38 ?_
    refine sm_getR (n := 40) fl_sc_24 e0 rfl d_sc_setDetector_39 ?_
    refine sm_getR (n := 8) fl_sc_124 (sm_inner e0 1 rfl rfl rfl) rfl d_sc_setDetector_42 ?_
    refine sm_getI fl_sc_128 (sm_inner (sm_inner e0 1 rfl rfl rfl) 16 rfl rfl rfl) rfl d_sc_setDetector_45 ?_
    refine sm_icmp_eq 55 d_sc_setDetector_48 rfl (fun c12 => ?_) (fun c12 => ?_)
    · have hf := sm_ifT c12 hf
      refine sm_iconst (v := 0) (by decide) d_sc_setDetector_55 ?_
      refine sm_sub [] rfl ?_
      exact w_sc_setDetector_L56 l lo hi d hS _ _ hf
    · have hf := sm_ifF c12 hf
      refine sm_iconst (v := 1) (by decide) d_sc_setDetector_51 ?_
      refine sm_goto 56 d_sc_setDetector_52 rfl ?_
      refine sm_sub [] rfl ?_
      exact w_sc_setDetector_L56 l lo hi d hS _ _ hf
  · have hf := sm_ifF c4 hf
    refine sm_iconst (v := (-1)) (by decide) d_sc_setDetector_8 ?_
    obtain ⟨rfl, rfl⟩ := sm_ret2 hf
    exact sm_iret d_sc_setDetector_9 rfl
theorem d_sc_setDoor_0 : decode q_sc_setDoor.2.1 0 = .ok (.iload_n 1, 1) := by decide +kernel
theorem d_sc_setDoor_1 : decode q_sc_setDoor.2.1 1 = .ok (.ifCond .lt 17, 3) := by decide +kernel
theorem d_sc_setDoor_4 : decode q_sc_setDoor.2.1 4 = .ok (.iload_n 1, 1) := by decide +kernel
theorem d_sc_setDoor_5 : decode q_sc_setDoor.2.1 5 = .ok (.aload_n 0, 1) := by decide +kernel
theorem d_sc_setDoor_6 : decode q_sc_setDoor.2.1 6 = .ok (.getfield 24, 3) := by decide +kernel
theorem d_sc_setDoor_9 : decode q_sc_setDoor.2.1 9 = .ok (.getfield 70, 3) := by decide +kernel
theorem d_sc_setDoor_12 : decode q_sc_setDoor.2.1 12 = .ok (.getfield 92, 3) := by decide +kernel
theorem d_sc_setDoor_15 : decode q_sc_setDoor.2.1 15 = .ok (.if_icmp .lt 5, 3) := by decide +kernel
theorem d_sc_setDoor_18 : decode q_sc_setDoor.2.1 18 = .ok (.iconst (-1), 1) := by decide +kernel
theorem d_sc_setDoor_19 : decode q_sc_setDoor.2.1 19 = .ok (.ireturn, 1) := by decide +kernel
theorem d_sc_setDoor_20 : decode q_sc_setDoor.2.1 20 = .ok (.aload_n 0, 1) := by decide +kernel
theorem d_sc_setDoor_21 : decode q_sc_setDoor.2.1 21 = .ok (.getfield 24, 3) := by decide +kernel
theorem d_sc_setDoor_24 : decode q_sc_setDoor.2.1 24 = .ok (.getfield 137, 3) := by decide +kernel
theorem d_sc_setDoor_27 : decode q_sc_setDoor.2.1 27 = .ok (.istore_n 3, 1) := by decide +kernel
theorem d_sc_setDoor_28 : decode q_sc_setDoor.2.1 28 = .ok (.aload_n 0, 1) := by decide +kernel
theorem d_sc_setDoor_29 : decode q_sc_setDoor.2.1 29 = .ok (.getfield 24, 3) := by decide +kernel
theorem d_sc_setDoor_32 : decode q_sc_setDoor.2.1 32 = .ok (.iload_n 3, 1) := by decide +kernel
theorem d_sc_setDoor_33 : decode q_sc_setDoor.2.1 33 = .ok (.iload_n 1, 1) := by decide +kernel
theorem d_sc_setDoor_34 : decode q_sc_setDoor.2.1 34 = .ok (.iload_n 2, 1) := by decide +kernel
theorem d_sc_setDoor_35 : decode q_sc_setDoor.2.1 35 = .ok (.invokestatic 133, 3) := by decide +kernel
theorem d_sc_setDoor_38 : decode q_sc_setDoor.2.1 38 = .ok (.putfield 137, 3) := by decide +kernel
theorem d_sc_setDoor_41 : decode q_sc_setDoor.2.1 41 = .ok (.iload_n 3, 1) := by decide +kernel
theorem d_sc_setDoor_42 : decode q_sc_setDoor.2.1 42 = .ok (.aload_n 0, 1) := by decide +kernel
theorem d_sc_setDoor_43 : decode q_sc_setDoor.2.1 43 = .ok (.getfield 24, 3) := by decide +kernel
theorem d_sc_setDoor_46 : decode q_sc_setDoor.2.1 46 = .ok (.getfield 137, 3) := by decide +kernel
theorem d_sc_setDoor_49 : decode q_sc_setDoor.2.1 49 = .ok (.if_icmp .eq 7, 3) := by decide +kernel
theorem d_sc_setDoor_52 : decode q_sc_setDoor.2.1 52 = .ok (.iconst 1, 1) := by decide +kernel
theorem d_sc_setDoor_53 : decode q_sc_setDoor.2.1 53 = .ok (.goto 4, 3) := by decide +kernel
theorem d_sc_setDoor_56 : decode q_sc_setDoor.2.1 56 = .ok (.iconst 0, 1) := by decide +kernel
theorem d_sc_setDoor_57 : decode q_sc_setDoor.2.1 57 = .ok (.ireturn, 1) := by decide +kernel
theorem w_sc_setDoor_L57 (l : Launch) (lo hi d : Nat) (hS : sm_has lo hi) {h' : sm_H} {r0 : Int32} (s0 : Int32) (h : sm_H) (hf : f_sc_setDoor_L57 s0 h = some (r0, h')) : sm_W l lo hi (d + 1) q_sc_setDoor 57 [] [.int s0] h (some (.int r0)) h' := by
  unfold f_sc_setDoor_L57 at hf
  obtain ⟨rfl, rfl⟩ := sm_ret2 hf
  exact sm_iret d_sc_setDoor_57 rfl
theorem m_sc_setDoor (l : Launch) (lo hi d : Nat) (hS : sm_has lo hi) {a0 : Nat} {a1 : Int32} {a2 : Int32} {r0 : Int32} {h h' : sm_H} (e0 : sm_at lo hi (0, 9, 0) a0) (hf : f_sc_setDoor a0 a1 a2 h = some (r0, h')) : sm_Met l lo hi (d + 1) q_sc_setDoor [.ref a0, .int a1, .int a2] h (some (.int r0)) h' := by
  refine sm_Met.of (by decide +kernel) rfl ?_
  show sm_W l lo hi (d + 1) q_sc_setDoor 0 [(0, .ref a0), (1, .int a1), (2, .int a2)] [] h (some (.int r0)) h'
  unfold f_sc_setDoor at hf
  refine sm_iload_n 1 rfl d_sc_setDoor_0 ?_
  refine sm_if_lt 18 d_sc_setDoor_1 rfl (fun c1 => ?_) (fun c1 => ?_)
  · have hf := sm_ifT c1 hf
    refine sm_iconst (v := (-1)) (by decide) d_sc_setDoor_18 ?_
    obtain ⟨rfl, rfl⟩ := sm_ret2 hf
    exact sm_iret d_sc_setDoor_19 rfl
  · have hf := sm_ifF c1 hf
    refine sm_iload_n 1 rfl d_sc_setDoor_4 ?_
    refine sm_aload_n 0 rfl d_sc_setDoor_5 ?_
    refine sm_getR (n := 40) fl_sc_24 e0 rfl d_sc_setDoor_6 ?_
    obtain ⟨c2, hf⟩ := sm_gdE hf
    obtain ⟨z3, v4⟩ := sm_isP_at hS c2
    refine sm_getD fl_sc_70 (sm_inner e0 1 rfl rfl rfl) rfl z3 d_sc_setDoor_9 ?_
    refine sm_nmR (fun p5 w6 => ?_)
    have hf := sm_letV w6 hf
    have v4 := sm_ev w6 v4
    refine sm_getI fl_sc_92 v4 rfl d_sc_setDoor_12 ?_
    refine sm_icmp_lt 20 d_sc_setDoor_15 rfl (fun c7 => ?_) (fun c7 => ?_)
    · have hf := sm_ifT c7 hf
      refine sm_aload_n 0 rfl d_sc_setDoor_20 ?_
      refine sm_getR (n := 40) fl_sc_24 e0 rfl d_sc_setDoor_21 ?_
      refine sm_getI fl_sc_137 (sm_inner e0 1 rfl rfl rfl) rfl d_sc_setDoor_24 ?_
      refine sm_nmI (fun x8 w9 => ?_)
      have hf := sm_letV w9 hf
      refine sm_istore_n (lv' := [(3, .int x8), (0, .ref a0), (1, .int a1), (2, .int a2)]) d_sc_setDoor_27 rfl rfl ?_
      refine sm_aload_n 1 rfl d_sc_setDoor_28 ?_
      refine sm_getR (n := 40) fl_sc_24 e0 rfl d_sc_setDoor_29 ?_
      refine sm_iload_n 0 rfl d_sc_setDoor_32 ?_
      refine sm_iload_n 2 rfl d_sc_setDoor_33 ?_
      refine sm_iload_n 3 rfl d_sc_setDoor_34 ?_
      obtain ⟨r10, g11, c12, hf⟩ := sm_b2E hf
      refine sm_callS (As := [.int x8, .int a1, .int a2]) (rv := some (.int r10)) (h1 := g11) cvs_sc_133 (m_sc_with l lo hi _ c12) rfl rfl d_sc_setDoor_35 ?_
      refine sm_putI fp_sc_137 (sm_inner e0 1 rfl rfl rfl) rfl rfl d_sc_setDoor_38 ?_
      refine sm_nmH (fun g13 w14 => ?_)
      have hf := sm_letV w14 hf
      refine sm_iload_n 0 rfl d_sc_setDoor_41 ?_
      refine sm_aload_n 1 rfl d_sc_setDoor_42 ?_
      refine sm_getR (n := 40) fl_sc_24 e0 rfl d_sc_setDoor_43 ?_
      refine sm_getI fl_sc_137 (sm_inner e0 1 rfl rfl rfl) rfl d_sc_setDoor_46 ?_
      refine sm_icmp_eq 56 d_sc_setDoor_49 rfl (fun c15 => ?_) (fun c15 => ?_)
      · have hf := sm_ifT c15 hf
        refine sm_iconst (v := 0) (by decide) d_sc_setDoor_56 ?_
        refine sm_sub [] rfl ?_
        exact w_sc_setDoor_L57 l lo hi d hS _ _ hf
      · have hf := sm_ifF c15 hf
        refine sm_iconst (v := 1) (by decide) d_sc_setDoor_52 ?_
        refine sm_goto 57 d_sc_setDoor_53 rfl ?_
        refine sm_sub [] rfl ?_
        exact w_sc_setDoor_L57 l lo hi d hS _ _ hf
    · have hf := sm_ifF c7 hf
      refine sm_iconst (v := (-1)) (by decide) d_sc_setDoor_18 ?_
      obtain ⟨rfl, rfl⟩ := sm_ret2 hf
      exact sm_iret d_sc_setDoor_19 rfl
theorem d_sc_lacksDamper_0 : decode q_sc_lacksDamper.2.1 0 = .ok (.iload_n 1, 1) := by decide +kernel
theorem d_sc_lacksDamper_1 : decode q_sc_lacksDamper.2.1 1 = .ok (.ifCond .lt 17, 3) := by decide +kernel
theorem d_sc_lacksDamper_4 : decode q_sc_lacksDamper.2.1 4 = .ok (.iload_n 1, 1) := by decide +kernel
theorem d_sc_lacksDamper_5 : decode q_sc_lacksDamper.2.1 5 = .ok (.aload_n 0, 1) := by decide +kernel
theorem d_sc_lacksDamper_6 : decode q_sc_lacksDamper.2.1 6 = .ok (.getfield 24, 3) := by decide +kernel
theorem d_sc_lacksDamper_9 : decode q_sc_lacksDamper.2.1 9 = .ok (.getfield 70, 3) := by decide +kernel
theorem d_sc_lacksDamper_12 : decode q_sc_lacksDamper.2.1 12 = .ok (.getfield 86, 3) := by decide +kernel
theorem d_sc_lacksDamper_15 : decode q_sc_lacksDamper.2.1 15 = .ok (.if_icmp .lt 7, 3) := by decide +kernel
theorem d_sc_lacksDamper_18 : decode q_sc_lacksDamper.2.1 18 = .ok (.iconst 1, 1) := by decide +kernel
theorem d_sc_lacksDamper_19 : decode q_sc_lacksDamper.2.1 19 = .ok (.goto 4, 3) := by decide +kernel
theorem d_sc_lacksDamper_22 : decode q_sc_lacksDamper.2.1 22 = .ok (.iconst 0, 1) := by decide +kernel
theorem d_sc_lacksDamper_23 : decode q_sc_lacksDamper.2.1 23 = .ok (.ireturn, 1) := by decide +kernel
theorem w_sc_lacksDamper_L23 (l : Launch) (lo hi d : Nat) (hS : sm_has lo hi) {h' : sm_H} {r0 : Int32} (s0 : Int32) (h : sm_H) (hf : f_sc_lacksDamper_L23 s0 h = some (r0, h')) : sm_W l lo hi (d) q_sc_lacksDamper 23 [] [.int s0] h (some (.int r0)) h' := by
  unfold f_sc_lacksDamper_L23 at hf
  obtain ⟨c8, hf⟩ := sm_gdE hf
  obtain ⟨rfl, rfl⟩ := sm_ret2 hf
  exact sm_bret c8 d_sc_lacksDamper_23 rfl
theorem w_sc_lacksDamper_L18 (l : Launch) (lo hi d : Nat) (hS : sm_has lo hi) {h' : sm_H} {r0 : Int32} (h : sm_H) (hf : f_sc_lacksDamper_L18 h = some (r0, h')) : sm_W l lo hi (d) q_sc_lacksDamper 18 [] [] h (some (.int r0)) h' := by
  unfold f_sc_lacksDamper_L18 at hf
  refine sm_iconst (v := 1) (by decide) d_sc_lacksDamper_18 ?_
  refine sm_goto 23 d_sc_lacksDamper_19 rfl ?_
  exact w_sc_lacksDamper_L23 l lo hi d hS _ _ hf
theorem m_sc_lacksDamper (l : Launch) (lo hi d : Nat) (hS : sm_has lo hi) {a0 : Nat} {a1 : Int32} {r0 : Int32} {h h' : sm_H} (e0 : sm_at lo hi (0, 9, 0) a0) (hf : f_sc_lacksDamper a0 a1 h = some (r0, h')) : sm_Met l lo hi (d) q_sc_lacksDamper [.ref a0, .int a1] h (some (.int r0)) h' := by
  refine sm_Met.of (by decide +kernel) rfl ?_
  show sm_W l lo hi (d) q_sc_lacksDamper 0 [(0, .ref a0), (1, .int a1)] [] h (some (.int r0)) h'
  unfold f_sc_lacksDamper at hf
  refine sm_iload_n 1 rfl d_sc_lacksDamper_0 ?_
  refine sm_if_lt 18 d_sc_lacksDamper_1 rfl (fun c1 => ?_) (fun c1 => ?_)
  · have hf := sm_ifT c1 hf
    refine sm_sub [] rfl ?_
    exact w_sc_lacksDamper_L18 l lo hi d hS _ hf
  · have hf := sm_ifF c1 hf
    refine sm_iload_n 1 rfl d_sc_lacksDamper_4 ?_
    refine sm_aload_n 0 rfl d_sc_lacksDamper_5 ?_
    refine sm_getR (n := 40) fl_sc_24 e0 rfl d_sc_lacksDamper_6 ?_
    obtain ⟨c2, hf⟩ := sm_gdE hf
    obtain ⟨z3, v4⟩ := sm_isP_at hS c2
    refine sm_getD fl_sc_70 (sm_inner e0 1 rfl rfl rfl) rfl z3 d_sc_lacksDamper_9 ?_
    refine sm_nmR (fun p5 w6 => ?_)
    have hf := sm_letV w6 hf
    have v4 := sm_ev w6 v4
    refine sm_getI fl_sc_86 v4 rfl d_sc_lacksDamper_12 ?_
    refine sm_icmp_lt 22 d_sc_lacksDamper_15 rfl (fun c7 => ?_) (fun c7 => ?_)
    · have hf := sm_ifT c7 hf
      refine sm_iconst (v := 0) (by decide) d_sc_lacksDamper_22 ?_
      refine sm_sub [] rfl ?_
      exact w_sc_lacksDamper_L23 l lo hi d hS _ _ hf
    · have hf := sm_ifF c7 hf
      refine sm_sub [] rfl ?_
      exact w_sc_lacksDamper_L18 l lo hi d hS _ hf
theorem d_sc_setFaulty_0 : decode q_sc_setFaulty.2.1 0 = .ok (.aload_n 0, 1) := by decide +kernel
theorem d_sc_setFaulty_1 : decode q_sc_setFaulty.2.1 1 = .ok (.getfield 24, 3) := by decide +kernel
theorem d_sc_setFaulty_4 : decode q_sc_setFaulty.2.1 4 = .ok (.getfield 150, 3) := by decide +kernel
theorem d_sc_setFaulty_7 : decode q_sc_setFaulty.2.1 7 = .ok (.istore_n 3, 1) := by decide +kernel
theorem d_sc_setFaulty_8 : decode q_sc_setFaulty.2.1 8 = .ok (.aload_n 0, 1) := by decide +kernel
theorem d_sc_setFaulty_9 : decode q_sc_setFaulty.2.1 9 = .ok (.getfield 24, 3) := by decide +kernel
theorem d_sc_setFaulty_12 : decode q_sc_setFaulty.2.1 12 = .ok (.iload_n 3, 1) := by decide +kernel
theorem d_sc_setFaulty_13 : decode q_sc_setFaulty.2.1 13 = .ok (.iload_n 1, 1) := by decide +kernel
theorem d_sc_setFaulty_14 : decode q_sc_setFaulty.2.1 14 = .ok (.iload_n 2, 1) := by decide +kernel
theorem d_sc_setFaulty_15 : decode q_sc_setFaulty.2.1 15 = .ok (.invokestatic 133, 3) := by decide +kernel
theorem d_sc_setFaulty_18 : decode q_sc_setFaulty.2.1 18 = .ok (.putfield 150, 3) := by decide +kernel
theorem d_sc_setFaulty_21 : decode q_sc_setFaulty.2.1 21 = .ok (.iload_n 3, 1) := by decide +kernel
theorem d_sc_setFaulty_22 : decode q_sc_setFaulty.2.1 22 = .ok (.aload_n 0, 1) := by decide +kernel
theorem d_sc_setFaulty_23 : decode q_sc_setFaulty.2.1 23 = .ok (.getfield 24, 3) := by decide +kernel
theorem d_sc_setFaulty_26 : decode q_sc_setFaulty.2.1 26 = .ok (.getfield 150, 3) := by decide +kernel
theorem d_sc_setFaulty_29 : decode q_sc_setFaulty.2.1 29 = .ok (.if_icmp .eq 7, 3) := by decide +kernel
theorem d_sc_setFaulty_32 : decode q_sc_setFaulty.2.1 32 = .ok (.iconst 1, 1) := by decide +kernel
theorem d_sc_setFaulty_33 : decode q_sc_setFaulty.2.1 33 = .ok (.goto 4, 3) := by decide +kernel
theorem d_sc_setFaulty_36 : decode q_sc_setFaulty.2.1 36 = .ok (.iconst 0, 1) := by decide +kernel
theorem d_sc_setFaulty_37 : decode q_sc_setFaulty.2.1 37 = .ok (.ireturn, 1) := by decide +kernel
theorem w_sc_setFaulty_L37 (l : Launch) (lo hi d : Nat) {h' : sm_H} {r0 : Int32} (s0 : Int32) (h : sm_H) (hf : f_sc_setFaulty_L37 s0 h = some (r0, h')) : sm_W l lo hi (d + 1) q_sc_setFaulty 37 [] [.int s0] h (some (.int r0)) h' := by
  unfold f_sc_setFaulty_L37 at hf
  obtain ⟨rfl, rfl⟩ := sm_ret2 hf
  exact sm_iret d_sc_setFaulty_37 rfl
theorem m_sc_setFaulty (l : Launch) (lo hi d : Nat) {a0 : Nat} {a1 : Int32} {a2 : Int32} {r0 : Int32} {h h' : sm_H} (e0 : sm_at lo hi (0, 9, 0) a0) (hf : f_sc_setFaulty a0 a1 a2 h = some (r0, h')) : sm_Met l lo hi (d + 1) q_sc_setFaulty [.ref a0, .int a1, .int a2] h (some (.int r0)) h' := by
  refine sm_Met.of (by decide +kernel) rfl ?_
  show sm_W l lo hi (d + 1) q_sc_setFaulty 0 [(0, .ref a0), (1, .int a1), (2, .int a2)] [] h (some (.int r0)) h'
  unfold f_sc_setFaulty at hf
  refine sm_aload_n 0 rfl d_sc_setFaulty_0 ?_
  refine sm_getR (n := 40) fl_sc_24 e0 rfl d_sc_setFaulty_1 ?_
  refine sm_getI fl_sc_150 (sm_inner e0 1 rfl rfl rfl) rfl d_sc_setFaulty_4 ?_
  refine sm_nmI (fun x1 w2 => ?_)
  have hf := sm_letV w2 hf
  refine sm_istore_n (lv' := [(3, .int x1), (0, .ref a0), (1, .int a1), (2, .int a2)]) d_sc_setFaulty_7 rfl rfl ?_
  refine sm_aload_n 1 rfl d_sc_setFaulty_8 ?_
  refine sm_getR (n := 40) fl_sc_24 e0 rfl d_sc_setFaulty_9 ?_
  refine sm_iload_n 0 rfl d_sc_setFaulty_12 ?_
  refine sm_iload_n 2 rfl d_sc_setFaulty_13 ?_
  refine sm_iload_n 3 rfl d_sc_setFaulty_14 ?_
  obtain ⟨r3, g4, c5, hf⟩ := sm_b2E hf
  refine sm_callS (As := [.int x1, .int a1, .int a2]) (rv := some (.int r3)) (h1 := g4) cvs_sc_133 (m_sc_with l lo hi _ c5) rfl rfl d_sc_setFaulty_15 ?_
  refine sm_putI fp_sc_150 (sm_inner e0 1 rfl rfl rfl) rfl rfl d_sc_setFaulty_18 ?_
  refine sm_nmH (fun g6 w7 => ?_)
  have hf := sm_letV w7 hf
  refine sm_iload_n 0 rfl d_sc_setFaulty_21 ?_
  refine sm_aload_n 1 rfl d_sc_setFaulty_22 ?_
  refine sm_getR (n := 40) fl_sc_24 e0 rfl d_sc_setFaulty_23 ?_
  refine sm_getI fl_sc_150 (sm_inner e0 1 rfl rfl rfl) rfl d_sc_setFaulty_26 ?_
  refine sm_icmp_eq 36 d_sc_setFaulty_29 rfl (fun c8 => ?_) (fun c8 => ?_)
  · have hf := sm_ifT c8 hf
    refine sm_iconst (v := 0) (by decide) d_sc_setFaulty_36 ?_
    refine sm_sub [] rfl ?_
    exact w_sc_setFaulty_L37 l lo hi d _ _ hf
  · have hf := sm_ifF c8 hf
    refine sm_iconst (v := 1) (by decide) d_sc_setFaulty_32 ?_
    refine sm_goto 37 d_sc_setFaulty_33 rfl ?_
    refine sm_sub [] rfl ?_
    exact w_sc_setFaulty_L37 l lo hi d _ _ hf
theorem d_sc_jam_0 : decode q_sc_jam.2.1 0 = .ok (.aload_n 0, 1) := by decide +kernel
theorem d_sc_jam_1 : decode q_sc_jam.2.1 1 = .ok (.iload_n 1, 1) := by decide +kernel
theorem d_sc_jam_2 : decode q_sc_jam.2.1 2 = .ok (.invokevirtual 140, 3) := by decide +kernel
theorem d_sc_jam_5 : decode q_sc_jam.2.1 5 = .ok (.ifCond .eq 7, 3) := by decide +kernel
theorem d_sc_jam_8 : decode q_sc_jam.2.1 8 = .ok (.iconst (-1), 1) := by decide +kernel
theorem d_sc_jam_9 : decode q_sc_jam.2.1 9 = .ok (.goto 9, 3) := by decide +kernel
theorem d_sc_jam_12 : decode q_sc_jam.2.1 12 = .ok (.aload_n 0, 1) := by decide +kernel
theorem d_sc_jam_13 : decode q_sc_jam.2.1 13 = .ok (.iload_n 1, 1) := by decide +kernel
theorem d_sc_jam_14 : decode q_sc_jam.2.1 14 = .ok (.iload_n 2, 1) := by decide +kernel
theorem d_sc_jam_15 : decode q_sc_jam.2.1 15 = .ok (.invokevirtual 143, 3) := by decide +kernel
theorem d_sc_jam_18 : decode q_sc_jam.2.1 18 = .ok (.ireturn, 1) := by decide +kernel
theorem w_sc_jam_L18 (l : Launch) (lo hi d : Nat) (hS : sm_has lo hi) {h' : sm_H} {r0 : Int32} (s0 : Int32) (h : sm_H) (hf : f_sc_jam_L18 s0 h = some (r0, h')) : sm_W l lo hi (d + 2) q_sc_jam 18 [] [.int s0] h (some (.int r0)) h' := by
  unfold f_sc_jam_L18 at hf
  obtain ⟨rfl, rfl⟩ := sm_ret2 hf
  exact sm_iret d_sc_jam_18 rfl
theorem m_sc_jam (l : Launch) (lo hi d : Nat) (hS : sm_has lo hi) {a0 : Nat} {a1 : Int32} {a2 : Int32} {r0 : Int32} {h h' : sm_H} (e0 : sm_at lo hi (0, 9, 0) a0) (hf : f_sc_jam a0 a1 a2 h = some (r0, h')) : sm_Met l lo hi (d + 2) q_sc_jam [.ref a0, .int a1, .int a2] h (some (.int r0)) h' := by
  refine sm_Met.of (by decide +kernel) rfl ?_
  show sm_W l lo hi (d + 2) q_sc_jam 0 [(0, .ref a0), (1, .int a1), (2, .int a2)] [] h (some (.int r0)) h'
  unfold f_sc_jam at hf
  refine sm_aload_n 0 rfl d_sc_jam_0 ?_
  refine sm_iload_n 1 rfl d_sc_jam_1 ?_
  obtain ⟨r1, g2, c3, hf⟩ := sm_b2E hf
  refine sm_callV (As := [.int a1]) (rv := some (.int r1)) (h1 := g2) (c := 9) cvv_sc_140 rfl rfl e0 (m_sc_lacksDamper l lo hi _ hS e0 c3) rfl rfl d_sc_jam_2 ?_
  refine sm_if_eq 12 d_sc_jam_5 rfl (fun c4 => ?_) (fun c4 => ?_)
  · have hf := sm_ifT c4 hf
    refine sm_aload_n 0 rfl d_sc_jam_12 ?_
    refine sm_iload_n 1 rfl d_sc_jam_13 ?_
    refine sm_iload_n 2 rfl d_sc_jam_14 ?_
    obtain ⟨r5, g6, c7, hf⟩ := sm_b2E hf
    refine sm_callV (As := [.int a1, .int a2]) (rv := some (.int r5)) (h1 := g6) (c := 9) cvv_sc_143 rfl rfl e0 (m_sc_setFaulty l lo hi _ e0 c7) rfl rfl d_sc_jam_15 ?_
    refine sm_sub [] rfl ?_
    exact w_sc_jam_L18 l lo hi d hS _ _ hf
  · have hf := sm_ifF c4 hf
    refine sm_iconst (v := (-1)) (by decide) d_sc_jam_8 ?_
    refine sm_goto 18 d_sc_jam_9 rfl ?_
    refine sm_sub [] rfl ?_
    exact w_sc_jam_L18 l lo hi d hS _ _ hf
theorem d_sc_lacksFan_0 : decode q_sc_lacksFan.2.1 0 = .ok (.iload_n 1, 1) := by decide +kernel
theorem d_sc_lacksFan_1 : decode q_sc_lacksFan.2.1 1 = .ok (.ifCond .lt 17, 3) := by decide +kernel
theorem d_sc_lacksFan_4 : decode q_sc_lacksFan.2.1 4 = .ok (.iload_n 1, 1) := by decide +kernel
theorem d_sc_lacksFan_5 : decode q_sc_lacksFan.2.1 5 = .ok (.aload_n 0, 1) := by decide +kernel
theorem d_sc_lacksFan_6 : decode q_sc_lacksFan.2.1 6 = .ok (.getfield 24, 3) := by decide +kernel
theorem d_sc_lacksFan_9 : decode q_sc_lacksFan.2.1 9 = .ok (.getfield 70, 3) := by decide +kernel
theorem d_sc_lacksFan_12 : decode q_sc_lacksFan.2.1 12 = .ok (.getfield 89, 3) := by decide +kernel
theorem d_sc_lacksFan_15 : decode q_sc_lacksFan.2.1 15 = .ok (.if_icmp .lt 7, 3) := by decide +kernel
theorem d_sc_lacksFan_18 : decode q_sc_lacksFan.2.1 18 = .ok (.iconst 1, 1) := by decide +kernel
theorem d_sc_lacksFan_19 : decode q_sc_lacksFan.2.1 19 = .ok (.goto 4, 3) := by decide +kernel
theorem d_sc_lacksFan_22 : decode q_sc_lacksFan.2.1 22 = .ok (.iconst 0, 1) := by decide +kernel
theorem d_sc_lacksFan_23 : decode q_sc_lacksFan.2.1 23 = .ok (.ireturn, 1) := by decide +kernel
theorem w_sc_lacksFan_L23 (l : Launch) (lo hi d : Nat) (hS : sm_has lo hi) {h' : sm_H} {r0 : Int32} (s0 : Int32) (h : sm_H) (hf : f_sc_lacksFan_L23 s0 h = some (r0, h')) : sm_W l lo hi (d) q_sc_lacksFan 23 [] [.int s0] h (some (.int r0)) h' := by
  unfold f_sc_lacksFan_L23 at hf
  obtain ⟨c8, hf⟩ := sm_gdE hf
  obtain ⟨rfl, rfl⟩ := sm_ret2 hf
  exact sm_bret c8 d_sc_lacksFan_23 rfl
theorem w_sc_lacksFan_L18 (l : Launch) (lo hi d : Nat) (hS : sm_has lo hi) {h' : sm_H} {r0 : Int32} (h : sm_H) (hf : f_sc_lacksFan_L18 h = some (r0, h')) : sm_W l lo hi (d) q_sc_lacksFan 18 [] [] h (some (.int r0)) h' := by
  unfold f_sc_lacksFan_L18 at hf
  refine sm_iconst (v := 1) (by decide) d_sc_lacksFan_18 ?_
  refine sm_goto 23 d_sc_lacksFan_19 rfl ?_
  exact w_sc_lacksFan_L23 l lo hi d hS _ _ hf
theorem m_sc_lacksFan (l : Launch) (lo hi d : Nat) (hS : sm_has lo hi) {a0 : Nat} {a1 : Int32} {r0 : Int32} {h h' : sm_H} (e0 : sm_at lo hi (0, 9, 0) a0) (hf : f_sc_lacksFan a0 a1 h = some (r0, h')) : sm_Met l lo hi (d) q_sc_lacksFan [.ref a0, .int a1] h (some (.int r0)) h' := by
  refine sm_Met.of (by decide +kernel) rfl ?_
  show sm_W l lo hi (d) q_sc_lacksFan 0 [(0, .ref a0), (1, .int a1)] [] h (some (.int r0)) h'
  unfold f_sc_lacksFan at hf
  refine sm_iload_n 1 rfl d_sc_lacksFan_0 ?_
  refine sm_if_lt 18 d_sc_lacksFan_1 rfl (fun c1 => ?_) (fun c1 => ?_)
  · have hf := sm_ifT c1 hf
    refine sm_sub [] rfl ?_
    exact w_sc_lacksFan_L18 l lo hi d hS _ hf
  · have hf := sm_ifF c1 hf
    refine sm_iload_n 1 rfl d_sc_lacksFan_4 ?_
    refine sm_aload_n 0 rfl d_sc_lacksFan_5 ?_
    refine sm_getR (n := 40) fl_sc_24 e0 rfl d_sc_lacksFan_6 ?_
    obtain ⟨c2, hf⟩ := sm_gdE hf
    obtain ⟨z3, v4⟩ := sm_isP_at hS c2
    refine sm_getD fl_sc_70 (sm_inner e0 1 rfl rfl rfl) rfl z3 d_sc_lacksFan_9 ?_
    refine sm_nmR (fun p5 w6 => ?_)
    have hf := sm_letV w6 hf
    have v4 := sm_ev w6 v4
    refine sm_getI fl_sc_89 v4 rfl d_sc_lacksFan_12 ?_
    refine sm_icmp_lt 22 d_sc_lacksFan_15 rfl (fun c7 => ?_) (fun c7 => ?_)
    · have hf := sm_ifT c7 hf
      refine sm_iconst (v := 0) (by decide) d_sc_lacksFan_22 ?_
      refine sm_sub [] rfl ?_
      exact w_sc_lacksFan_L23 l lo hi d hS _ _ hf
    · have hf := sm_ifF c7 hf
      refine sm_sub [] rfl ?_
      exact w_sc_lacksFan_L18 l lo hi d hS _ hf
theorem d_sc_breakFan_0 : decode q_sc_breakFan.2.1 0 = .ok (.aload_n 0, 1) := by decide +kernel
theorem d_sc_breakFan_1 : decode q_sc_breakFan.2.1 1 = .ok (.iload_n 1, 1) := by decide +kernel
theorem d_sc_breakFan_2 : decode q_sc_breakFan.2.1 2 = .ok (.invokevirtual 147, 3) := by decide +kernel
theorem d_sc_breakFan_5 : decode q_sc_breakFan.2.1 5 = .ok (.ifCond .eq 7, 3) := by decide +kernel
theorem d_sc_breakFan_8 : decode q_sc_breakFan.2.1 8 = .ok (.iconst (-1), 1) := by decide +kernel
theorem d_sc_breakFan_9 : decode q_sc_breakFan.2.1 9 = .ok (.goto 12, 3) := by decide +kernel
theorem d_sc_breakFan_12 : decode q_sc_breakFan.2.1 12 = .ok (.aload_n 0, 1) := by decide +kernel
theorem d_sc_breakFan_13 : decode q_sc_breakFan.2.1 13 = .ok (.bipush 16, 2) := by decide +kernel
theorem d_sc_breakFan_15 : decode q_sc_breakFan.2.1 15 = .ok (.iload_n 1, 1) := by decide +kernel
theorem d_sc_breakFan_16 : decode q_sc_breakFan.2.1 16 = .ok (.iadd, 1) := by decide +kernel
theorem d_sc_breakFan_17 : decode q_sc_breakFan.2.1 17 = .ok (.iload_n 2, 1) := by decide +kernel
theorem d_sc_breakFan_18 : decode q_sc_breakFan.2.1 18 = .ok (.invokevirtual 143, 3) := by decide +kernel
theorem d_sc_breakFan_21 : decode q_sc_breakFan.2.1 21 = .ok (.ireturn, 1) := by decide +kernel
theorem w_sc_breakFan_L21 (l : Launch) (lo hi d : Nat) (hS : sm_has lo hi) {h' : sm_H} {r0 : Int32} (s0 : Int32) (h : sm_H) (hf : f_sc_breakFan_L21 s0 h = some (r0, h')) : sm_W l lo hi (d + 2) q_sc_breakFan 21 [] [.int s0] h (some (.int r0)) h' := by
  unfold f_sc_breakFan_L21 at hf
  obtain ⟨rfl, rfl⟩ := sm_ret2 hf
  exact sm_iret d_sc_breakFan_21 rfl
theorem m_sc_breakFan (l : Launch) (lo hi d : Nat) (hS : sm_has lo hi) {a0 : Nat} {a1 : Int32} {a2 : Int32} {r0 : Int32} {h h' : sm_H} (e0 : sm_at lo hi (0, 9, 0) a0) (hf : f_sc_breakFan a0 a1 a2 h = some (r0, h')) : sm_Met l lo hi (d + 2) q_sc_breakFan [.ref a0, .int a1, .int a2] h (some (.int r0)) h' := by
  refine sm_Met.of (by decide +kernel) rfl ?_
  show sm_W l lo hi (d + 2) q_sc_breakFan 0 [(0, .ref a0), (1, .int a1), (2, .int a2)] [] h (some (.int r0)) h'
  unfold f_sc_breakFan at hf
  refine sm_aload_n 0 rfl d_sc_breakFan_0 ?_
  refine sm_iload_n 1 rfl d_sc_breakFan_1 ?_
  obtain ⟨r1, g2, c3, hf⟩ := sm_b2E hf
  refine sm_callV (As := [.int a1]) (rv := some (.int r1)) (h1 := g2) (c := 9) cvv_sc_147 rfl rfl e0 (m_sc_lacksFan l lo hi _ hS e0 c3) rfl rfl d_sc_breakFan_2 ?_
  refine sm_if_eq 12 d_sc_breakFan_5 rfl (fun c4 => ?_) (fun c4 => ?_)
  · have hf := sm_ifT c4 hf
    refine sm_aload_n 0 rfl d_sc_breakFan_12 ?_
    refine sm_bipush (v := 16) (by decide) d_sc_breakFan_13 ?_
    refine sm_iload_n 1 rfl d_sc_breakFan_15 ?_
    refine sm_iadd d_sc_breakFan_16 ?_
    refine sm_iload_n 2 rfl d_sc_breakFan_17 ?_
    obtain ⟨r5, g6, c7, hf⟩ := sm_b2E hf
    refine sm_callV (As := [.int (16 + a1), .int a2]) (rv := some (.int r5)) (h1 := g6) (c := 9) cvv_sc_143 rfl rfl e0 (m_sc_setFaulty l lo hi _ e0 c7) rfl rfl d_sc_breakFan_18 ?_
    refine sm_sub [] rfl ?_
    exact w_sc_breakFan_L21 l lo hi d hS _ _ hf
  · have hf := sm_ifF c4 hf
    refine sm_iconst (v := (-1)) (by decide) d_sc_breakFan_8 ?_
    refine sm_goto 21 d_sc_breakFan_9 rfl ?_
    refine sm_sub [] rfl ?_
    exact w_sc_breakFan_L21 l lo hi d hS _ _ hf
theorem d_jm_floorMod_0 : decode q_jm_floorMod.2.1 0 = .ok (.iload_n 0, 1) := by decide +kernel
theorem d_jm_floorMod_1 : decode q_jm_floorMod.2.1 1 = .ok (.iload_n 1, 1) := by decide +kernel
theorem d_jm_floorMod_2 : decode q_jm_floorMod.2.1 2 = .ok (.irem, 1) := by decide +kernel
theorem d_jm_floorMod_3 : decode q_jm_floorMod.2.1 3 = .ok (.istore_n 2, 1) := by decide +kernel
theorem d_jm_floorMod_4 : decode q_jm_floorMod.2.1 4 = .ok (.iload_n 0, 1) := by decide +kernel
theorem d_jm_floorMod_5 : decode q_jm_floorMod.2.1 5 = .ok (.iload_n 1, 1) := by decide +kernel
theorem d_jm_floorMod_6 : decode q_jm_floorMod.2.1 6 = .ok (.ixor, 1) := by decide +kernel
theorem d_jm_floorMod_7 : decode q_jm_floorMod.2.1 7 = .ok (.ifCond .ge 11, 3) := by decide +kernel
theorem d_jm_floorMod_10 : decode q_jm_floorMod.2.1 10 = .ok (.iload_n 2, 1) := by decide +kernel
theorem d_jm_floorMod_11 : decode q_jm_floorMod.2.1 11 = .ok (.ifCond .eq 7, 3) := by decide +kernel
theorem d_jm_floorMod_14 : decode q_jm_floorMod.2.1 14 = .ok (.iload_n 2, 1) := by decide +kernel
theorem d_jm_floorMod_15 : decode q_jm_floorMod.2.1 15 = .ok (.iload_n 1, 1) := by decide +kernel
theorem d_jm_floorMod_16 : decode q_jm_floorMod.2.1 16 = .ok (.iadd, 1) := by decide +kernel
theorem d_jm_floorMod_17 : decode q_jm_floorMod.2.1 17 = .ok (.ireturn, 1) := by decide +kernel
theorem d_jm_floorMod_18 : decode q_jm_floorMod.2.1 18 = .ok (.iload_n 2, 1) := by decide +kernel
theorem d_jm_floorMod_19 : decode q_jm_floorMod.2.1 19 = .ok (.ireturn, 1) := by decide +kernel
theorem w_jm_floorMod_L18 (l : Launch) (lo hi d : Nat) {h' : sm_H} {r0 : Int32} (a2 : Int32) (h : sm_H) (hf : f_jm_floorMod_L18 a2 h = some (r0, h')) : sm_W l lo hi (d) q_jm_floorMod 18 [(2, .int a2)] [] h (some (.int r0)) h' := by
  unfold f_jm_floorMod_L18 at hf
  refine sm_iload_n 0 rfl d_jm_floorMod_18 ?_
  obtain ⟨rfl, rfl⟩ := sm_ret2 hf
  exact sm_iret d_jm_floorMod_19 rfl
theorem m_jm_floorMod (l : Launch) (lo hi d : Nat) {a0 : Int32} {a1 : Int32} {r0 : Int32} {h h' : sm_H} (hf : f_jm_floorMod a0 a1 h = some (r0, h')) : sm_Met l lo hi (d) q_jm_floorMod [.int a0, .int a1] h (some (.int r0)) h' := by
  refine sm_Met.of (by decide +kernel) rfl ?_
  show sm_W l lo hi (d) q_jm_floorMod 0 [(0, .int a0), (1, .int a1)] [] h (some (.int r0)) h'
  unfold f_jm_floorMod at hf
  refine sm_iload_n 0 rfl d_jm_floorMod_0 ?_
  refine sm_iload_n 1 rfl d_jm_floorMod_1 ?_
  obtain ⟨c1, hf⟩ := sm_gdE hf
  refine sm_irem c1 d_jm_floorMod_2 ?_
  refine sm_nmI (fun x2 w3 => ?_)
  have hf := sm_letV w3 hf
  refine sm_istore_n (lv' := [(2, .int x2), (0, .int a0), (1, .int a1)]) d_jm_floorMod_3 rfl rfl ?_
  refine sm_iload_n 1 rfl d_jm_floorMod_4 ?_
  refine sm_iload_n 2 rfl d_jm_floorMod_5 ?_
  refine sm_ixor d_jm_floorMod_6 ?_
  refine sm_if_ge 18 d_jm_floorMod_7 rfl (fun c4 => ?_) (fun c4 => ?_)
  · have hf := sm_ifT c4 hf
    refine sm_sub [0] rfl ?_
    exact w_jm_floorMod_L18 l lo hi d _ _ hf
  · have hf := sm_ifF c4 hf
    refine sm_iload_n 0 rfl d_jm_floorMod_10 ?_
    refine sm_if_eq 18 d_jm_floorMod_11 rfl (fun c5 => ?_) (fun c5 => ?_)
    · have hf := sm_ifT c5 hf
      refine sm_sub [0] rfl ?_
      exact w_jm_floorMod_L18 l lo hi d _ _ hf
    · have hf := sm_ifF c5 hf
      refine sm_iload_n 0 rfl d_jm_floorMod_14 ?_
      refine sm_iload_n 2 rfl d_jm_floorMod_15 ?_
      refine sm_iadd d_jm_floorMod_16 ?_
      obtain ⟨rfl, rfl⟩ := sm_ret2 hf
      exact sm_iret d_jm_floorMod_17 rfl
theorem d_lo_add_0 : decode q_lo_add.2.1 0 = .ok (.aload_n 0, 1) := by decide +kernel
theorem d_lo_add_1 : decode q_lo_add.2.1 1 = .ok (.getfield 19, 3) := by decide +kernel
theorem d_lo_add_4 : decode q_lo_add.2.1 4 = .ok (.bipush 50, 2) := by decide +kernel
theorem d_lo_add_6 : decode q_lo_add.2.1 6 = .ok (.invokestatic 23, 3) := by decide +kernel
theorem d_lo_add_9 : decode q_lo_add.2.1 9 = .ok (.istore 4, 2) := by decide +kernel
theorem d_lo_add_11 : decode q_lo_add.2.1 11 = .ok (.aload_n 0, 1) := by decide +kernel
theorem d_lo_add_12 : decode q_lo_add.2.1 12 = .ok (.getfield 9, 3) := by decide +kernel
theorem d_lo_add_15 : decode q_lo_add.2.1 15 = .ok (.iload 4, 2) := by decide +kernel
theorem d_lo_add_17 : decode q_lo_add.2.1 17 = .ok (.iload_n 1, 1) := by decide +kernel
theorem d_lo_add_18 : decode q_lo_add.2.1 18 = .ok (.iastore, 1) := by decide +kernel
theorem d_lo_add_19 : decode q_lo_add.2.1 19 = .ok (.aload_n 0, 1) := by decide +kernel
theorem d_lo_add_20 : decode q_lo_add.2.1 20 = .ok (.getfield 13, 3) := by decide +kernel
theorem d_lo_add_23 : decode q_lo_add.2.1 23 = .ok (.iload 4, 2) := by decide +kernel
theorem d_lo_add_25 : decode q_lo_add.2.1 25 = .ok (.iload_n 2, 1) := by decide +kernel
theorem d_lo_add_26 : decode q_lo_add.2.1 26 = .ok (.iastore, 1) := by decide +kernel
theorem d_lo_add_27 : decode q_lo_add.2.1 27 = .ok (.aload_n 0, 1) := by decide +kernel
theorem d_lo_add_28 : decode q_lo_add.2.1 28 = .ok (.getfield 16, 3) := by decide +kernel
theorem d_lo_add_31 : decode q_lo_add.2.1 31 = .ok (.iload 4, 2) := by decide +kernel
theorem d_lo_add_33 : decode q_lo_add.2.1 33 = .ok (.iload_n 3, 1) := by decide +kernel
theorem d_lo_add_34 : decode q_lo_add.2.1 34 = .ok (.iastore, 1) := by decide +kernel
theorem d_lo_add_35 : decode q_lo_add.2.1 35 = .ok (.aload_n 0, 1) := by decide +kernel
theorem d_lo_add_36 : decode q_lo_add.2.1 36 = .ok (.dup, 1) := by decide +kernel
theorem d_lo_add_37 : decode q_lo_add.2.1 37 = .ok (.getfield 19, 3) := by decide +kernel
theorem d_lo_add_40 : decode q_lo_add.2.1 40 = .ok (.iconst 1, 1) := by decide +kernel
theorem d_lo_add_41 : decode q_lo_add.2.1 41 = .ok (.iadd, 1) := by decide +kernel
theorem d_lo_add_42 : decode q_lo_add.2.1 42 = .ok (.putfield 19, 3) := by decide +kernel
theorem d_lo_add_45 : decode q_lo_add.2.1 45 = .ok (.return_, 1) := by decide +kernel
theorem m_lo_add (l : Launch) (lo hi d : Nat) {a0 : Nat} {a1 : Int32} {a2 : Int32} {a3 : Int32} {h h' : sm_H} (e0 : sm_at lo hi (0, 3, 0) a0) (hf : f_lo_add a0 a1 a2 a3 h = some h') : sm_Met l lo hi (d + 1) q_lo_add [.ref a0, .int a1, .int a2, .int a3] h none h' := by
  refine sm_Met.of (by decide +kernel) rfl ?_
  show sm_W l lo hi (d + 1) q_lo_add 0 [(0, .ref a0), (1, .int a1), (2, .int a2), (3, .int a3)] [] h none h'
  unfold f_lo_add at hf
  refine sm_aload_n 0 rfl d_lo_add_0 ?_
  refine sm_getI fl_lo_19 e0 rfl d_lo_add_1 ?_
  refine sm_bipush (v := 50) (by decide) d_lo_add_4 ?_
  obtain ⟨r1, g2, c3, hf⟩ := sm_b2E hf
  refine sm_callS (As := [.int (h a0 0), .int 50]) (rv := some (.int r1)) (h1 := g2) cvs_lo_23 (m_jm_floorMod l lo hi _ c3) rfl rfl d_lo_add_6 ?_
  refine sm_istore (lv' := [(4, .int r1), (0, .ref a0), (1, .int a1), (2, .int a2), (3, .int a3)]) d_lo_add_9 rfl rfl ?_
  refine sm_aload_n 1 rfl d_lo_add_11 ?_
  refine sm_getR (n := 1) fl_lo_9 e0 rfl d_lo_add_12 ?_
  refine sm_iload 0 rfl d_lo_add_15 ?_
  refine sm_iload_n 2 rfl d_lo_add_17 ?_
  obtain ⟨c4, hf⟩ := sm_gdE hf
  refine sm_iast (sm_at_arr (sm_inner e0 1 rfl rfl rfl)) c4 d_lo_add_18 ?_
  refine sm_nmH (fun g5 w6 => ?_)
  have hf := sm_letV w6 hf
  refine sm_aload_n 1 rfl d_lo_add_19 ?_
  refine sm_getR (n := 2) fl_lo_13 e0 rfl d_lo_add_20 ?_
  refine sm_iload 0 rfl d_lo_add_23 ?_
  refine sm_iload_n 3 rfl d_lo_add_25 ?_
  obtain ⟨c7, hf⟩ := sm_gdE hf
  refine sm_iast (sm_at_arr (sm_inner e0 2 rfl rfl rfl)) c7 d_lo_add_26 ?_
  refine sm_nmH (fun g8 w9 => ?_)
  have hf := sm_letV w9 hf
  refine sm_aload_n 1 rfl d_lo_add_27 ?_
  refine sm_getR (n := 3) fl_lo_16 e0 rfl d_lo_add_28 ?_
  refine sm_iload 0 rfl d_lo_add_31 ?_
  refine sm_iload_n 4 rfl d_lo_add_33 ?_
  obtain ⟨c10, hf⟩ := sm_gdE hf
  refine sm_iast (sm_at_arr (sm_inner e0 3 rfl rfl rfl)) c10 d_lo_add_34 ?_
  refine sm_nmH (fun g11 w12 => ?_)
  have hf := sm_letV w12 hf
  refine sm_aload_n 1 rfl d_lo_add_35 ?_
  refine sm_dup rfl d_lo_add_36 ?_
  refine sm_getI fl_lo_19 e0 rfl d_lo_add_37 ?_
  refine sm_iconst (v := 1) (by decide) d_lo_add_40 ?_
  refine sm_iadd d_lo_add_41 ?_
  refine sm_putI fp_lo_19 e0 rfl rfl d_lo_add_42 ?_
  refine sm_nmH (fun g13 w14 => ?_)
  have hf := sm_letV w14 hf
  obtain rfl := sm_ret1 hf
  exact sm_vret d_lo_add_45 rfl
theorem d_sc_turnKey_0 : decode q_sc_turnKey.2.1 0 = .ok (.aload_n 0, 1) := by decide +kernel
theorem d_sc_turnKey_1 : decode q_sc_turnKey.2.1 1 = .ok (.getfield 24, 3) := by decide +kernel
theorem d_sc_turnKey_4 : decode q_sc_turnKey.2.1 4 = .ok (.getfield 153, 3) := by decide +kernel
theorem d_sc_turnKey_7 : decode q_sc_turnKey.2.1 7 = .ok (.iload_n 1, 1) := by decide +kernel
theorem d_sc_turnKey_8 : decode q_sc_turnKey.2.1 8 = .ok (.if_icmp .ne 5, 3) := by decide +kernel
theorem d_sc_turnKey_11 : decode q_sc_turnKey.2.1 11 = .ok (.iconst 0, 1) := by decide +kernel
theorem d_sc_turnKey_12 : decode q_sc_turnKey.2.1 12 = .ok (.ireturn, 1) := by decide +kernel
theorem d_sc_turnKey_13 : decode q_sc_turnKey.2.1 13 = .ok (.aload_n 0, 1) := by decide +kernel
theorem d_sc_turnKey_14 : decode q_sc_turnKey.2.1 14 = .ok (.getfield 24, 3) := by decide +kernel
theorem d_sc_turnKey_17 : decode q_sc_turnKey.2.1 17 = .ok (.iload_n 1, 1) := by decide +kernel
theorem d_sc_turnKey_18 : decode q_sc_turnKey.2.1 18 = .ok (.putfield 153, 3) := by decide +kernel
theorem d_sc_turnKey_21 : decode q_sc_turnKey.2.1 21 = .ok (.aload_n 0, 1) := by decide +kernel
theorem d_sc_turnKey_22 : decode q_sc_turnKey.2.1 22 = .ok (.getfield 24, 3) := by decide +kernel
theorem d_sc_turnKey_25 : decode q_sc_turnKey.2.1 25 = .ok (.getfield 157, 3) := by decide +kernel
theorem d_sc_turnKey_28 : decode q_sc_turnKey.2.1 28 = .ok (.aload_n 0, 1) := by decide +kernel
theorem d_sc_turnKey_29 : decode q_sc_turnKey.2.1 29 = .ok (.getfield 24, 3) := by decide +kernel
theorem d_sc_turnKey_32 : decode q_sc_turnKey.2.1 32 = .ok (.getfield 161, 3) := by decide +kernel
theorem d_sc_turnKey_35 : decode q_sc_turnKey.2.1 35 = .ok (.iload_n 1, 1) := by decide +kernel
theorem d_sc_turnKey_36 : decode q_sc_turnKey.2.1 36 = .ok (.ifCond .eq 8, 3) := by decide +kernel
theorem d_sc_turnKey_39 : decode q_sc_turnKey.2.1 39 = .ok (.bipush 6, 2) := by decide +kernel
theorem d_sc_turnKey_41 : decode q_sc_turnKey.2.1 41 = .ok (.goto 5, 3) := by decide +kernel
theorem d_sc_turnKey_44 : decode q_sc_turnKey.2.1 44 = .ok (.bipush 7, 2) := by decide +kernel
theorem d_sc_turnKey_46 : decode q_sc_turnKey.2.1 46 = .ok (.iconst 0, 1) := by decide +kernel
theorem d_sc_turnKey_47 : decode q_sc_turnKey.2.1 47 = .ok (.invokevirtual 164, 3) := by decide +kernel
theorem d_sc_turnKey_50 : decode q_sc_turnKey.2.1 50 = .ok (.iconst 1, 1) := by decide +kernel
theorem d_sc_turnKey_51 : decode q_sc_turnKey.2.1 51 = .ok (.ireturn, 1) := by decide +kernel
theorem w_sc_turnKey_L46 (l : Launch) (lo hi d : Nat) {h' : sm_H} {r0 : Int32} (s0 : Int32) (s1 : Int32) (s2 : Nat) (h : sm_H) (t2 : sm_at lo hi (0, 3, 0) s2) (hf : f_sc_turnKey_L46 s0 s1 s2 h = some (r0, h')) : sm_W l lo hi (d + 2) q_sc_turnKey 46 [] [.int s0, .int s1, .ref s2] h (some (.int r0)) h' := by
  unfold f_sc_turnKey_L46 at hf
  refine sm_iconst (v := 0) (by decide) d_sc_turnKey_46 ?_
  obtain ⟨g6, c7, hf⟩ := sm_bindE hf
  refine sm_callV (As := [.int s1, .int s0, .int 0]) (rv := none) (h1 := g6) (c := 3) cvv_sc_164 rfl rfl t2 (m_lo_add l lo hi _ t2 c7) rfl rfl d_sc_turnKey_47 ?_
  refine sm_iconst (v := 1) (by decide) d_sc_turnKey_50 ?_
  obtain ⟨rfl, rfl⟩ := sm_ret2 hf
  exact sm_iret d_sc_turnKey_51 rfl
theorem m_sc_turnKey (l : Launch) (lo hi d : Nat) {a0 : Nat} {a1 : Int32} {r0 : Int32} {h h' : sm_H} (e0 : sm_at lo hi (0, 9, 0) a0) (hf : f_sc_turnKey a0 a1 h = some (r0, h')) : sm_Met l lo hi (d + 2) q_sc_turnKey [.ref a0, .int a1] h (some (.int r0)) h' := by
  refine sm_Met.of (by decide +kernel) rfl ?_
  show sm_W l lo hi (d + 2) q_sc_turnKey 0 [(0, .ref a0), (1, .int a1)] [] h (some (.int r0)) h'
  unfold f_sc_turnKey at hf
  refine sm_aload_n 0 rfl d_sc_turnKey_0 ?_
  refine sm_getR (n := 40) fl_sc_24 e0 rfl d_sc_turnKey_1 ?_
  refine sm_getI fl_sc_153 (sm_inner e0 1 rfl rfl rfl) rfl d_sc_turnKey_4 ?_
  refine sm_iload_n 1 rfl d_sc_turnKey_7 ?_
  refine sm_icmp_ne 13 d_sc_turnKey_8 rfl (fun c1 => ?_) (fun c1 => ?_)
  · have hf := sm_ifF c1 hf
    refine sm_aload_n 0 rfl d_sc_turnKey_13 ?_
    refine sm_getR (n := 40) fl_sc_24 e0 rfl d_sc_turnKey_14 ?_
    refine sm_iload_n 1 rfl d_sc_turnKey_17 ?_
    obtain ⟨c2, hf⟩ := sm_gdE hf
    refine sm_putZ fp_sc_153 (sm_inner e0 1 rfl rfl rfl) rfl rfl c2 d_sc_turnKey_18 ?_
    refine sm_nmH (fun g3 w4 => ?_)
    have hf := sm_letV w4 hf
    refine sm_aload_n 0 rfl d_sc_turnKey_21 ?_
    refine sm_getR (n := 40) fl_sc_24 e0 rfl d_sc_turnKey_22 ?_
    refine sm_getR (n := 9) fl_sc_157 (sm_inner e0 1 rfl rfl rfl) rfl d_sc_turnKey_25 ?_
    refine sm_aload_n 0 rfl d_sc_turnKey_28 ?_
    refine sm_getR (n := 40) fl_sc_24 e0 rfl d_sc_turnKey_29 ?_
    refine sm_getI fl_sc_161 (sm_inner e0 1 rfl rfl rfl) rfl d_sc_turnKey_32 ?_
    refine sm_iload_n 1 rfl d_sc_turnKey_35 ?_
    refine sm_if_eq 44 d_sc_turnKey_36 rfl (fun c5 => ?_) (fun c5 => ?_)
    · have hf := sm_ifT c5 hf
      refine sm_bipush (v := 7) (by decide) d_sc_turnKey_44 ?_
      refine sm_sub [] rfl ?_
      exact w_sc_turnKey_L46 l lo hi d _ _ _ _ (sm_inner (sm_inner e0 1 rfl rfl rfl) 17 rfl rfl rfl) hf
    · have hf := sm_ifF c5 hf
      refine sm_bipush (v := 6) (by decide) d_sc_turnKey_39 ?_
      refine sm_goto 46 d_sc_turnKey_41 rfl ?_
      refine sm_sub [] rfl ?_
      exact w_sc_turnKey_L46 l lo hi d _ _ _ _ (sm_inner (sm_inner e0 1 rfl rfl rfl) 17 rfl rfl rfl) hf
  · have hf := sm_ifT c1 hf
    refine sm_iconst (v := 0) (by decide) d_sc_turnKey_11 ?_
    obtain ⟨rfl, rfl⟩ := sm_ret2 hf
    exact sm_iret d_sc_turnKey_12 rfl
theorem d_sc_setCommand_0 : decode q_sc_setCommand.2.1 0 = .ok (.iload_n 2, 1) := by decide +kernel
theorem d_sc_setCommand_1 : decode q_sc_setCommand.2.1 1 = .ok (.ifCond .lt 8, 3) := by decide +kernel
theorem d_sc_setCommand_4 : decode q_sc_setCommand.2.1 4 = .ok (.iload_n 2, 1) := by decide +kernel
theorem d_sc_setCommand_5 : decode q_sc_setCommand.2.1 5 = .ok (.iconst 2, 1) := by decide +kernel
theorem d_sc_setCommand_6 : decode q_sc_setCommand.2.1 6 = .ok (.if_icmp .le 6, 3) := by decide +kernel
theorem d_sc_setCommand_9 : decode q_sc_setCommand.2.1 9 = .ok (.bipush (-2), 2) := by decide +kernel
theorem d_sc_setCommand_11 : decode q_sc_setCommand.2.1 11 = .ok (.ireturn, 1) := by decide +kernel
theorem d_sc_setCommand_12 : decode q_sc_setCommand.2.1 12 = .ok (.aload_n 0, 1) := by decide +kernel
theorem d_sc_setCommand_13 : decode q_sc_setCommand.2.1 13 = .ok (.iload_n 1, 1) := by decide +kernel
theorem d_sc_setCommand_14 : decode q_sc_setCommand.2.1 14 = .ok (.iload_n 2, 1) := by decide +kernel
theorem d_sc_setCommand_15 : decode q_sc_setCommand.2.1 15 = .ok (.invokestatic 120, 3) := by decide +kernel
theorem d_sc_setCommand_18 : decode q_sc_setCommand.2.1 18 = .ok (.ireturn, 1) := by decide +kernel
theorem w_sc_setCommand_L9 (l : Launch) (lo hi d : Nat) {h' : sm_H} {r0 : Int32} (h : sm_H) (hf : f_sc_setCommand_L9 h = some (r0, h')) : sm_W l lo hi (d + 1) q_sc_setCommand 9 [] [] h (some (.int r0)) h' := by
  unfold f_sc_setCommand_L9 at hf
  refine sm_bipush (v := (-2)) (by decide) d_sc_setCommand_9 ?_
  obtain ⟨rfl, rfl⟩ := sm_ret2 hf
  exact sm_iret d_sc_setCommand_11 rfl
theorem m_sc_setCommand (l : Launch) (lo hi d : Nat) {a0 : Nat} {a1 : Int32} {a2 : Int32} {r0 : Int32} {h h' : sm_H} (e0 : sm_arr lo hi 0 (sm_len a0) a0) (hf : f_sc_setCommand a0 a1 a2 h = some (r0, h')) : sm_Met l lo hi (d + 1) q_sc_setCommand [.ref a0, .int a1, .int a2] h (some (.int r0)) h' := by
  refine sm_Met.of (by decide +kernel) rfl ?_
  show sm_W l lo hi (d + 1) q_sc_setCommand 0 [(0, .ref a0), (1, .int a1), (2, .int a2)] [] h (some (.int r0)) h'
  unfold f_sc_setCommand at hf
  refine sm_iload_n 2 rfl d_sc_setCommand_0 ?_
  refine sm_if_lt 9 d_sc_setCommand_1 rfl (fun c1 => ?_) (fun c1 => ?_)
  · have hf := sm_ifT c1 hf
    refine sm_sub [] rfl ?_
    exact w_sc_setCommand_L9 l lo hi d _ hf
  · have hf := sm_ifF c1 hf
    refine sm_iload_n 2 rfl d_sc_setCommand_4 ?_
    refine sm_iconst (v := 2) (by decide) d_sc_setCommand_5 ?_
    refine sm_icmp_le 12 d_sc_setCommand_6 rfl (fun c2 => ?_) (fun c2 => ?_)
    · have hf := sm_ifT c2 hf
      refine sm_aload_n 0 rfl d_sc_setCommand_12 ?_
      refine sm_iload_n 1 rfl d_sc_setCommand_13 ?_
      refine sm_iload_n 2 rfl d_sc_setCommand_14 ?_
      obtain ⟨r3, g4, c5, hf⟩ := sm_b2E hf
      refine sm_callS (As := [.ref a0, .int a1, .int a2]) (rv := some (.int r3)) (h1 := g4) cvs_sc_120 (m_sc_exchange l lo hi _ (sm_arr_self e0) c5) rfl rfl d_sc_setCommand_15 ?_
      obtain ⟨rfl, rfl⟩ := sm_ret2 hf
      exact sm_iret d_sc_setCommand_18 rfl
    · have hf := sm_ifF c2 hf
      refine sm_sub [] rfl ?_
      exact w_sc_setCommand_L9 l lo hi d _ hf
theorem d_sc_switchDamper_0 : decode q_sc_switchDamper.2.1 0 = .ok (.aload_n 0, 1) := by decide +kernel
theorem d_sc_switchDamper_1 : decode q_sc_switchDamper.2.1 1 = .ok (.iload_n 1, 1) := by decide +kernel
theorem d_sc_switchDamper_2 : decode q_sc_switchDamper.2.1 2 = .ok (.invokevirtual 140, 3) := by decide +kernel
theorem d_sc_switchDamper_5 : decode q_sc_switchDamper.2.1 5 = .ok (.ifCond .eq 7, 3) := by decide +kernel
theorem d_sc_switchDamper_8 : decode q_sc_switchDamper.2.1 8 = .ok (.iconst (-1), 1) := by decide +kernel
theorem d_sc_switchDamper_9 : decode q_sc_switchDamper.2.1 9 = .ok (.goto 15, 3) := by decide +kernel
theorem d_sc_switchDamper_12 : decode q_sc_switchDamper.2.1 12 = .ok (.aload_n 0, 1) := by decide +kernel
theorem d_sc_switchDamper_13 : decode q_sc_switchDamper.2.1 13 = .ok (.getfield 24, 3) := by decide +kernel
theorem d_sc_switchDamper_16 : decode q_sc_switchDamper.2.1 16 = .ok (.getfield 170, 3) := by decide +kernel
theorem d_sc_switchDamper_19 : decode q_sc_switchDamper.2.1 19 = .ok (.iload_n 1, 1) := by decide +kernel
theorem d_sc_switchDamper_20 : decode q_sc_switchDamper.2.1 20 = .ok (.iload_n 2, 1) := by decide +kernel
theorem d_sc_switchDamper_21 : decode q_sc_switchDamper.2.1 21 = .ok (.invokestatic 173, 3) := by decide +kernel
theorem d_sc_switchDamper_24 : decode q_sc_switchDamper.2.1 24 = .ok (.ireturn, 1) := by decide +kernel
theorem w_sc_switchDamper_L24 (l : Launch) (lo hi d : Nat) (hS : sm_has lo hi) {h' : sm_H} {r0 : Int32} (s0 : Int32) (h : sm_H) (hf : f_sc_switchDamper_L24 s0 h = some (r0, h')) : sm_W l lo hi (d + 2) q_sc_switchDamper 24 [] [.int s0] h (some (.int r0)) h' := by
  unfold f_sc_switchDamper_L24 at hf
  obtain ⟨rfl, rfl⟩ := sm_ret2 hf
  exact sm_iret d_sc_switchDamper_24 rfl
theorem m_sc_switchDamper (l : Launch) (lo hi d : Nat) (hS : sm_has lo hi) {a0 : Nat} {a1 : Int32} {a2 : Int32} {r0 : Int32} {h h' : sm_H} (e0 : sm_at lo hi (0, 9, 0) a0) (hf : f_sc_switchDamper a0 a1 a2 h = some (r0, h')) : sm_Met l lo hi (d + 2) q_sc_switchDamper [.ref a0, .int a1, .int a2] h (some (.int r0)) h' := by
  refine sm_Met.of (by decide +kernel) rfl ?_
  show sm_W l lo hi (d + 2) q_sc_switchDamper 0 [(0, .ref a0), (1, .int a1), (2, .int a2)] [] h (some (.int r0)) h'
  unfold f_sc_switchDamper at hf
  refine sm_aload_n 0 rfl d_sc_switchDamper_0 ?_
  refine sm_iload_n 1 rfl d_sc_switchDamper_1 ?_
  obtain ⟨r1, g2, c3, hf⟩ := sm_b2E hf
  refine sm_callV (As := [.int a1]) (rv := some (.int r1)) (h1 := g2) (c := 9) cvv_sc_140 rfl rfl e0 (m_sc_lacksDamper l lo hi _ hS e0 c3) rfl rfl d_sc_switchDamper_2 ?_
  refine sm_if_eq 12 d_sc_switchDamper_5 rfl (fun c4 => ?_) (fun c4 => ?_)
  · have hf := sm_ifT c4 hf
    refine sm_aload_n 0 rfl d_sc_switchDamper_12 ?_
    refine sm_getR (n := 40) fl_sc_24 e0 rfl d_sc_switchDamper_13 ?_
    refine sm_getR (n := 4) fl_sc_170 (sm_inner e0 1 rfl rfl rfl) rfl d_sc_switchDamper_16 ?_
    refine sm_iload_n 1 rfl d_sc_switchDamper_19 ?_
    refine sm_iload_n 2 rfl d_sc_switchDamper_20 ?_
    obtain ⟨r5, g6, c7, hf⟩ := sm_b2E hf
    refine sm_callS (As := [.ref (a0 + 40 + 4), .int a1, .int a2]) (rv := some (.int r5)) (h1 := g6) cvs_sc_173 (m_sc_setCommand l lo hi _ (sm_arr_self (sm_at_arr (sm_inner (sm_inner e0 1 rfl rfl rfl) 12 rfl rfl rfl))) c7) rfl rfl d_sc_switchDamper_21 ?_
    refine sm_sub [] rfl ?_
    exact w_sc_switchDamper_L24 l lo hi d hS _ _ hf
  · have hf := sm_ifF c4 hf
    refine sm_iconst (v := (-1)) (by decide) d_sc_switchDamper_8 ?_
    refine sm_goto 24 d_sc_switchDamper_9 rfl ?_
    refine sm_sub [] rfl ?_
    exact w_sc_switchDamper_L24 l lo hi d hS _ _ hf
theorem d_sc_switchFan_0 : decode q_sc_switchFan.2.1 0 = .ok (.aload_n 0, 1) := by decide +kernel
theorem d_sc_switchFan_1 : decode q_sc_switchFan.2.1 1 = .ok (.iload_n 1, 1) := by decide +kernel
theorem d_sc_switchFan_2 : decode q_sc_switchFan.2.1 2 = .ok (.invokevirtual 147, 3) := by decide +kernel
theorem d_sc_switchFan_5 : decode q_sc_switchFan.2.1 5 = .ok (.ifCond .eq 7, 3) := by decide +kernel
theorem d_sc_switchFan_8 : decode q_sc_switchFan.2.1 8 = .ok (.iconst (-1), 1) := by decide +kernel
theorem d_sc_switchFan_9 : decode q_sc_switchFan.2.1 9 = .ok (.goto 18, 3) := by decide +kernel
theorem d_sc_switchFan_12 : decode q_sc_switchFan.2.1 12 = .ok (.aload_n 0, 1) := by decide +kernel
theorem d_sc_switchFan_13 : decode q_sc_switchFan.2.1 13 = .ok (.getfield 24, 3) := by decide +kernel
theorem d_sc_switchFan_16 : decode q_sc_switchFan.2.1 16 = .ok (.getfield 170, 3) := by decide +kernel
theorem d_sc_switchFan_19 : decode q_sc_switchFan.2.1 19 = .ok (.bipush 16, 2) := by decide +kernel
theorem d_sc_switchFan_21 : decode q_sc_switchFan.2.1 21 = .ok (.iload_n 1, 1) := by decide +kernel
theorem d_sc_switchFan_22 : decode q_sc_switchFan.2.1 22 = .ok (.iadd, 1) := by decide +kernel
theorem d_sc_switchFan_23 : decode q_sc_switchFan.2.1 23 = .ok (.iload_n 2, 1) := by decide +kernel
theorem d_sc_switchFan_24 : decode q_sc_switchFan.2.1 24 = .ok (.invokestatic 173, 3) := by decide +kernel
theorem d_sc_switchFan_27 : decode q_sc_switchFan.2.1 27 = .ok (.ireturn, 1) := by decide +kernel
theorem w_sc_switchFan_L27 (l : Launch) (lo hi d : Nat) (hS : sm_has lo hi) {h' : sm_H} {r0 : Int32} (s0 : Int32) (h : sm_H) (hf : f_sc_switchFan_L27 s0 h = some (r0, h')) : sm_W l lo hi (d + 2) q_sc_switchFan 27 [] [.int s0] h (some (.int r0)) h' := by
  unfold f_sc_switchFan_L27 at hf
  obtain ⟨rfl, rfl⟩ := sm_ret2 hf
  exact sm_iret d_sc_switchFan_27 rfl
theorem m_sc_switchFan (l : Launch) (lo hi d : Nat) (hS : sm_has lo hi) {a0 : Nat} {a1 : Int32} {a2 : Int32} {r0 : Int32} {h h' : sm_H} (e0 : sm_at lo hi (0, 9, 0) a0) (hf : f_sc_switchFan a0 a1 a2 h = some (r0, h')) : sm_Met l lo hi (d + 2) q_sc_switchFan [.ref a0, .int a1, .int a2] h (some (.int r0)) h' := by
  refine sm_Met.of (by decide +kernel) rfl ?_
  show sm_W l lo hi (d + 2) q_sc_switchFan 0 [(0, .ref a0), (1, .int a1), (2, .int a2)] [] h (some (.int r0)) h'
  unfold f_sc_switchFan at hf
  refine sm_aload_n 0 rfl d_sc_switchFan_0 ?_
  refine sm_iload_n 1 rfl d_sc_switchFan_1 ?_
  obtain ⟨r1, g2, c3, hf⟩ := sm_b2E hf
  refine sm_callV (As := [.int a1]) (rv := some (.int r1)) (h1 := g2) (c := 9) cvv_sc_147 rfl rfl e0 (m_sc_lacksFan l lo hi _ hS e0 c3) rfl rfl d_sc_switchFan_2 ?_
  refine sm_if_eq 12 d_sc_switchFan_5 rfl (fun c4 => ?_) (fun c4 => ?_)
  · have hf := sm_ifT c4 hf
    refine sm_aload_n 0 rfl d_sc_switchFan_12 ?_
    refine sm_getR (n := 40) fl_sc_24 e0 rfl d_sc_switchFan_13 ?_
    refine sm_getR (n := 4) fl_sc_170 (sm_inner e0 1 rfl rfl rfl) rfl d_sc_switchFan_16 ?_
    refine sm_bipush (v := 16) (by decide) d_sc_switchFan_19 ?_
    refine sm_iload_n 1 rfl d_sc_switchFan_21 ?_
    refine sm_iadd d_sc_switchFan_22 ?_
    refine sm_iload_n 2 rfl d_sc_switchFan_23 ?_
    obtain ⟨r5, g6, c7, hf⟩ := sm_b2E hf
    refine sm_callS (As := [.ref (a0 + 40 + 4), .int (16 + a1), .int a2]) (rv := some (.int r5)) (h1 := g6) cvs_sc_173 (m_sc_setCommand l lo hi _ (sm_arr_self (sm_at_arr (sm_inner (sm_inner e0 1 rfl rfl rfl) 12 rfl rfl rfl))) c7) rfl rfl d_sc_switchFan_24 ?_
    refine sm_sub [] rfl ?_
    exact w_sc_switchFan_L27 l lo hi d hS _ _ hf
  · have hf := sm_ifF c4 hf
    refine sm_iconst (v := (-1)) (by decide) d_sc_switchFan_8 ?_
    refine sm_goto 27 d_sc_switchFan_9 rfl ?_
    refine sm_sub [] rfl ?_
    exact w_sc_switchFan_L27 l lo hi d hS _ _ hf
theorem d_sc_operateDamper_0 : decode q_sc_operateDamper.2.1 0 = .ok (.aload_n 0, 1) := by decide +kernel
theorem d_sc_operateDamper_1 : decode q_sc_operateDamper.2.1 1 = .ok (.iload_n 1, 1) := by decide +kernel
theorem d_sc_operateDamper_2 : decode q_sc_operateDamper.2.1 2 = .ok (.invokevirtual 140, 3) := by decide +kernel
theorem d_sc_operateDamper_5 : decode q_sc_operateDamper.2.1 5 = .ok (.ifCond .eq 7, 3) := by decide +kernel
theorem d_sc_operateDamper_8 : decode q_sc_operateDamper.2.1 8 = .ok (.iconst (-1), 1) := by decide +kernel
theorem d_sc_operateDamper_9 : decode q_sc_operateDamper.2.1 9 = .ok (.goto 15, 3) := by decide +kernel
theorem d_sc_operateDamper_12 : decode q_sc_operateDamper.2.1 12 = .ok (.aload_n 0, 1) := by decide +kernel
theorem d_sc_operateDamper_13 : decode q_sc_operateDamper.2.1 13 = .ok (.getfield 24, 3) := by decide +kernel
theorem d_sc_operateDamper_16 : decode q_sc_operateDamper.2.1 16 = .ok (.getfield 176, 3) := by decide +kernel
theorem d_sc_operateDamper_19 : decode q_sc_operateDamper.2.1 19 = .ok (.iload_n 1, 1) := by decide +kernel
theorem d_sc_operateDamper_20 : decode q_sc_operateDamper.2.1 20 = .ok (.iload_n 2, 1) := by decide +kernel
theorem d_sc_operateDamper_21 : decode q_sc_operateDamper.2.1 21 = .ok (.invokestatic 173, 3) := by decide +kernel
theorem d_sc_operateDamper_24 : decode q_sc_operateDamper.2.1 24 = .ok (.ireturn, 1) := by decide +kernel
theorem w_sc_operateDamper_L24 (l : Launch) (lo hi d : Nat) (hS : sm_has lo hi) {h' : sm_H} {r0 : Int32} (s0 : Int32) (h : sm_H) (hf : f_sc_operateDamper_L24 s0 h = some (r0, h')) : sm_W l lo hi (d + 2) q_sc_operateDamper 24 [] [.int s0] h (some (.int r0)) h' := by
  unfold f_sc_operateDamper_L24 at hf
  obtain ⟨rfl, rfl⟩ := sm_ret2 hf
  exact sm_iret d_sc_operateDamper_24 rfl
theorem m_sc_operateDamper (l : Launch) (lo hi d : Nat) (hS : sm_has lo hi) {a0 : Nat} {a1 : Int32} {a2 : Int32} {r0 : Int32} {h h' : sm_H} (e0 : sm_at lo hi (0, 9, 0) a0) (hf : f_sc_operateDamper a0 a1 a2 h = some (r0, h')) : sm_Met l lo hi (d + 2) q_sc_operateDamper [.ref a0, .int a1, .int a2] h (some (.int r0)) h' := by
  refine sm_Met.of (by decide +kernel) rfl ?_
  show sm_W l lo hi (d + 2) q_sc_operateDamper 0 [(0, .ref a0), (1, .int a1), (2, .int a2)] [] h (some (.int r0)) h'
  unfold f_sc_operateDamper at hf
  refine sm_aload_n 0 rfl d_sc_operateDamper_0 ?_
  refine sm_iload_n 1 rfl d_sc_operateDamper_1 ?_
  obtain ⟨r1, g2, c3, hf⟩ := sm_b2E hf
  refine sm_callV (As := [.int a1]) (rv := some (.int r1)) (h1 := g2) (c := 9) cvv_sc_140 rfl rfl e0 (m_sc_lacksDamper l lo hi _ hS e0 c3) rfl rfl d_sc_operateDamper_2 ?_
  refine sm_if_eq 12 d_sc_operateDamper_5 rfl (fun c4 => ?_) (fun c4 => ?_)
  · have hf := sm_ifT c4 hf
    refine sm_aload_n 0 rfl d_sc_operateDamper_12 ?_
    refine sm_getR (n := 40) fl_sc_24 e0 rfl d_sc_operateDamper_13 ?_
    refine sm_getR (n := 5) fl_sc_176 (sm_inner e0 1 rfl rfl rfl) rfl d_sc_operateDamper_16 ?_
    refine sm_iload_n 1 rfl d_sc_operateDamper_19 ?_
    refine sm_iload_n 2 rfl d_sc_operateDamper_20 ?_
    obtain ⟨r5, g6, c7, hf⟩ := sm_b2E hf
    refine sm_callS (As := [.ref (a0 + 40 + 5), .int a1, .int a2]) (rv := some (.int r5)) (h1 := g6) cvs_sc_173 (m_sc_setCommand l lo hi _ (sm_arr_self (sm_at_arr (sm_inner (sm_inner e0 1 rfl rfl rfl) 13 rfl rfl rfl))) c7) rfl rfl d_sc_operateDamper_21 ?_
    refine sm_sub [] rfl ?_
    exact w_sc_operateDamper_L24 l lo hi d hS _ _ hf
  · have hf := sm_ifF c4 hf
    refine sm_iconst (v := (-1)) (by decide) d_sc_operateDamper_8 ?_
    refine sm_goto 24 d_sc_operateDamper_9 rfl ?_
    refine sm_sub [] rfl ?_
    exact w_sc_operateDamper_L24 l lo hi d hS _ _ hf
theorem d_sc_operateFan_0 : decode q_sc_operateFan.2.1 0 = .ok (.aload_n 0, 1) := by decide +kernel
theorem d_sc_operateFan_1 : decode q_sc_operateFan.2.1 1 = .ok (.iload_n 1, 1) := by decide +kernel
theorem d_sc_operateFan_2 : decode q_sc_operateFan.2.1 2 = .ok (.invokevirtual 147, 3) := by decide +kernel
theorem d_sc_operateFan_5 : decode q_sc_operateFan.2.1 5 = .ok (.ifCond .eq 7, 3) := by decide +kernel
theorem d_sc_operateFan_8 : decode q_sc_operateFan.2.1 8 = .ok (.iconst (-1), 1) := by decide +kernel
theorem d_sc_operateFan_9 : decode q_sc_operateFan.2.1 9 = .ok (.goto 18, 3) := by decide +kernel
theorem d_sc_operateFan_12 : decode q_sc_operateFan.2.1 12 = .ok (.aload_n 0, 1) := by decide +kernel
theorem d_sc_operateFan_13 : decode q_sc_operateFan.2.1 13 = .ok (.getfield 24, 3) := by decide +kernel
theorem d_sc_operateFan_16 : decode q_sc_operateFan.2.1 16 = .ok (.getfield 176, 3) := by decide +kernel
theorem d_sc_operateFan_19 : decode q_sc_operateFan.2.1 19 = .ok (.bipush 16, 2) := by decide +kernel
theorem d_sc_operateFan_21 : decode q_sc_operateFan.2.1 21 = .ok (.iload_n 1, 1) := by decide +kernel
theorem d_sc_operateFan_22 : decode q_sc_operateFan.2.1 22 = .ok (.iadd, 1) := by decide +kernel
theorem d_sc_operateFan_23 : decode q_sc_operateFan.2.1 23 = .ok (.iload_n 2, 1) := by decide +kernel
theorem d_sc_operateFan_24 : decode q_sc_operateFan.2.1 24 = .ok (.invokestatic 173, 3) := by decide +kernel
theorem d_sc_operateFan_27 : decode q_sc_operateFan.2.1 27 = .ok (.ireturn, 1) := by decide +kernel
theorem w_sc_operateFan_L27 (l : Launch) (lo hi d : Nat) (hS : sm_has lo hi) {h' : sm_H} {r0 : Int32} (s0 : Int32) (h : sm_H) (hf : f_sc_operateFan_L27 s0 h = some (r0, h')) : sm_W l lo hi (d + 2) q_sc_operateFan 27 [] [.int s0] h (some (.int r0)) h' := by
  unfold f_sc_operateFan_L27 at hf
  obtain ⟨rfl, rfl⟩ := sm_ret2 hf
  exact sm_iret d_sc_operateFan_27 rfl
theorem m_sc_operateFan (l : Launch) (lo hi d : Nat) (hS : sm_has lo hi) {a0 : Nat} {a1 : Int32} {a2 : Int32} {r0 : Int32} {h h' : sm_H} (e0 : sm_at lo hi (0, 9, 0) a0) (hf : f_sc_operateFan a0 a1 a2 h = some (r0, h')) : sm_Met l lo hi (d + 2) q_sc_operateFan [.ref a0, .int a1, .int a2] h (some (.int r0)) h' := by
  refine sm_Met.of (by decide +kernel) rfl ?_
  show sm_W l lo hi (d + 2) q_sc_operateFan 0 [(0, .ref a0), (1, .int a1), (2, .int a2)] [] h (some (.int r0)) h'
  unfold f_sc_operateFan at hf
  refine sm_aload_n 0 rfl d_sc_operateFan_0 ?_
  refine sm_iload_n 1 rfl d_sc_operateFan_1 ?_
  obtain ⟨r1, g2, c3, hf⟩ := sm_b2E hf
  refine sm_callV (As := [.int a1]) (rv := some (.int r1)) (h1 := g2) (c := 9) cvv_sc_147 rfl rfl e0 (m_sc_lacksFan l lo hi _ hS e0 c3) rfl rfl d_sc_operateFan_2 ?_
  refine sm_if_eq 12 d_sc_operateFan_5 rfl (fun c4 => ?_) (fun c4 => ?_)
  · have hf := sm_ifT c4 hf
    refine sm_aload_n 0 rfl d_sc_operateFan_12 ?_
    refine sm_getR (n := 40) fl_sc_24 e0 rfl d_sc_operateFan_13 ?_
    refine sm_getR (n := 5) fl_sc_176 (sm_inner e0 1 rfl rfl rfl) rfl d_sc_operateFan_16 ?_
    refine sm_bipush (v := 16) (by decide) d_sc_operateFan_19 ?_
    refine sm_iload_n 1 rfl d_sc_operateFan_21 ?_
    refine sm_iadd d_sc_operateFan_22 ?_
    refine sm_iload_n 2 rfl d_sc_operateFan_23 ?_
    obtain ⟨r5, g6, c7, hf⟩ := sm_b2E hf
    refine sm_callS (As := [.ref (a0 + 40 + 5), .int (16 + a1), .int a2]) (rv := some (.int r5)) (h1 := g6) cvs_sc_173 (m_sc_setCommand l lo hi _ (sm_arr_self (sm_at_arr (sm_inner (sm_inner e0 1 rfl rfl rfl) 13 rfl rfl rfl))) c7) rfl rfl d_sc_operateFan_24 ?_
    refine sm_sub [] rfl ?_
    exact w_sc_operateFan_L27 l lo hi d hS _ _ hf
  · have hf := sm_ifF c4 hf
    refine sm_iconst (v := (-1)) (by decide) d_sc_operateFan_8 ?_
    refine sm_goto 27 d_sc_operateFan_9 rfl ?_
    refine sm_sub [] rfl ?_
    exact w_sc_operateFan_L27 l lo hi d hS _ _ hf
theorem d_al_raise_0 : decode q_al_raise.2.1 0 = .ok (.iconst 0, 1) := by decide +kernel
theorem d_al_raise_1 : decode q_al_raise.2.1 1 = .ok (.istore_n 2, 1) := by decide +kernel
theorem d_al_raise_2 : decode q_al_raise.2.1 2 = .ok (.iload_n 2, 1) := by decide +kernel
theorem d_al_raise_3 : decode q_al_raise.2.1 3 = .ok (.aload_n 1, 1) := by decide +kernel
theorem d_al_raise_4 : decode q_al_raise.2.1 4 = .ok (.getfield 24, 3) := by decide +kernel
theorem d_al_raise_7 : decode q_al_raise.2.1 7 = .ok (.getfield 30, 3) := by decide +kernel
theorem d_al_raise_10 : decode q_al_raise.2.1 10 = .ok (.if_icmp .ge 88, 3) := by decide +kernel
theorem d_al_raise_13 : decode q_al_raise.2.1 13 = .ok (.aload_n 1, 1) := by decide +kernel
theorem d_al_raise_14 : decode q_al_raise.2.1 14 = .ok (.getfield 35, 3) := by decide +kernel
theorem d_al_raise_17 : decode q_al_raise.2.1 17 = .ok (.iload_n 2, 1) := by decide +kernel
theorem d_al_raise_18 : decode q_al_raise.2.1 18 = .ok (.iaload, 1) := by decide +kernel
theorem d_al_raise_19 : decode q_al_raise.2.1 19 = .ok (.bipush 100, 2) := by decide +kernel
theorem d_al_raise_21 : decode q_al_raise.2.1 21 = .ok (.if_icmp .lt 71, 3) := by decide +kernel
theorem d_al_raise_24 : decode q_al_raise.2.1 24 = .ok (.aload_n 0, 1) := by decide +kernel
theorem d_al_raise_25 : decode q_al_raise.2.1 25 = .ok (.getfield 9, 3) := by decide +kernel
theorem d_al_raise_28 : decode q_al_raise.2.1 28 = .ok (.iload_n 2, 1) := by decide +kernel
theorem d_al_raise_29 : decode q_al_raise.2.1 29 = .ok (.invokestatic 39, 3) := by decide +kernel
theorem d_al_raise_32 : decode q_al_raise.2.1 32 = .ok (.ifCond .ne 60, 3) := by decide +kernel
theorem d_al_raise_35 : decode q_al_raise.2.1 35 = .ok (.aload_n 0, 1) := by decide +kernel
theorem d_al_raise_36 : decode q_al_raise.2.1 36 = .ok (.getfield 15, 3) := by decide +kernel
theorem d_al_raise_39 : decode q_al_raise.2.1 39 = .ok (.iload_n 2, 1) := by decide +kernel
theorem d_al_raise_40 : decode q_al_raise.2.1 40 = .ok (.invokestatic 39, 3) := by decide +kernel
theorem d_al_raise_43 : decode q_al_raise.2.1 43 = .ok (.ifCond .ne 49, 3) := by decide +kernel
theorem d_al_raise_46 : decode q_al_raise.2.1 46 = .ok (.aload_n 0, 1) := by decide +kernel
theorem d_al_raise_47 : decode q_al_raise.2.1 47 = .ok (.aload_n 0, 1) := by decide +kernel
theorem d_al_raise_48 : decode q_al_raise.2.1 48 = .ok (.getfield 9, 3) := by decide +kernel
theorem d_al_raise_51 : decode q_al_raise.2.1 51 = .ok (.iload_n 2, 1) := by decide +kernel
theorem d_al_raise_52 : decode q_al_raise.2.1 52 = .ok (.iconst 1, 1) := by decide +kernel
theorem d_al_raise_53 : decode q_al_raise.2.1 53 = .ok (.invokestatic 43, 3) := by decide +kernel
theorem d_al_raise_56 : decode q_al_raise.2.1 56 = .ok (.putfield 9, 3) := by decide +kernel
theorem d_al_raise_59 : decode q_al_raise.2.1 59 = .ok (.aload_n 1, 1) := by decide +kernel
theorem d_al_raise_60 : decode q_al_raise.2.1 60 = .ok (.getfield 47, 3) := by decide +kernel
theorem d_al_raise_63 : decode q_al_raise.2.1 63 = .ok (.aload_n 1, 1) := by decide +kernel
theorem d_al_raise_64 : decode q_al_raise.2.1 64 = .ok (.getfield 51, 3) := by decide +kernel
theorem d_al_raise_67 : decode q_al_raise.2.1 67 = .ok (.iconst 0, 1) := by decide +kernel
theorem d_al_raise_68 : decode q_al_raise.2.1 68 = .ok (.iload_n 2, 1) := by decide +kernel
theorem d_al_raise_69 : decode q_al_raise.2.1 69 = .ok (.invokevirtual 54, 3) := by decide +kernel
theorem d_al_raise_72 : decode q_al_raise.2.1 72 = .ok (.aload_n 0, 1) := by decide +kernel
theorem d_al_raise_73 : decode q_al_raise.2.1 73 = .ok (.getfield 18, 3) := by decide +kernel
theorem d_al_raise_76 : decode q_al_raise.2.1 76 = .ok (.ifCond .ge 16, 3) := by decide +kernel
theorem d_al_raise_79 : decode q_al_raise.2.1 79 = .ok (.aload_n 0, 1) := by decide +kernel
theorem d_al_raise_80 : decode q_al_raise.2.1 80 = .ok (.iload_n 2, 1) := by decide +kernel
theorem d_al_raise_81 : decode q_al_raise.2.1 81 = .ok (.putfield 18, 3) := by decide +kernel
theorem d_al_raise_84 : decode q_al_raise.2.1 84 = .ok (.aload_n 0, 1) := by decide +kernel
theorem d_al_raise_85 : decode q_al_raise.2.1 85 = .ok (.aload_n 1, 1) := by decide +kernel
theorem d_al_raise_86 : decode q_al_raise.2.1 86 = .ok (.getfield 51, 3) := by decide +kernel
theorem d_al_raise_89 : decode q_al_raise.2.1 89 = .ok (.putfield 21, 3) := by decide +kernel
theorem d_al_raise_92 : decode q_al_raise.2.1 92 = .ok (.iinc 2 1, 3) := by decide +kernel
theorem d_al_raise_95 : decode q_al_raise.2.1 95 = .ok (.goto (-93), 3) := by decide +kernel
theorem d_al_raise_98 : decode q_al_raise.2.1 98 = .ok (.return_, 1) := by decide +kernel
theorem w_al_raise_L92 (l : Launch) (lo hi d : Nat) (hS : sm_has lo hi) {k2 : Nat → Nat → Int32 → sm_H → Option sm_H} {h' : sm_H} (hk2 : ∀ (a0 : Nat) (a1 : Nat) (a2 : Int32) (h : sm_H) (_ : sm_at lo hi (0, 0, 0) a0) (_ : sm_at lo hi (0, 7, 0) a1) , k2 a0 a1 a2 h = some h' → sm_W l lo hi (d + 2) q_al_raise 2 [(0, .ref a0), (1, .ref a1), (2, .int a2)] [] h none h') (a0 : Nat) (a1 : Nat) (a2 : Int32) (h : sm_H) (e0 : sm_at lo hi (0, 0, 0) a0) (e1 : sm_at lo hi (0, 7, 0) a1) (hf : f_al_raise_L92 k2 a0 a1 a2 h = some h') : sm_W l lo hi (d + 2) q_al_raise 92 [(0, .ref a0), (1, .ref a1), (2, .int a2)] [] h none h' := by
  unfold f_al_raise_L92 at hf
  obtain ⟨x29, w30⟩ : ∃ v : Int32, v = a2 + 1 := ⟨_, rfl⟩
  have hf := sm_letV w30 hf
  refine sm_iinc (v := x29) (lv' := [(2, .int x29), (0, .ref a0), (1, .ref a1)]) 2 rfl (by rw [w30]; rfl) d_al_raise_92 rfl rfl ?_
  refine sm_goto 2 d_al_raise_95 rfl ?_
  refine sm_sub [1, 2, 0] rfl ?_
  exact hk2 _ _ _ _ e0 e1 hf
theorem w_al_raise_L2 (l : Launch) (lo hi d : Nat) (hS : sm_has lo hi) {h' : sm_H} : ∀ (n : Nat) (a0 : Nat) (a1 : Nat) (a2 : Int32) (h : sm_H) (e0 : sm_at lo hi (0, 0, 0) a0) (e1 : sm_at lo hi (0, 7, 0) a1) (hf : f_al_raise_L2 n a0 a1 a2 h = some h'), sm_W l lo hi (d + 2) q_al_raise 2 [(0, .ref a0), (1, .ref a1), (2, .int a2)] [] h none h' := by
  intro n
  induction n with
  | zero =>
    intro a0 a1 a2 h e0 e1 hf
    have z : (none : Option sm_H) = some _ := hf
    cases z
  | succ n ih =>
    intro a0 a1 a2 h e0 e1 hf
    unfold f_al_raise_L2 at hf
    refine sm_iload_n 2 rfl d_al_raise_2 ?_
    refine sm_aload_n 1 rfl d_al_raise_3 ?_
    obtain ⟨c1, hf⟩ := sm_gdE hf
    obtain ⟨z2, v3⟩ := sm_isP_at hS c1
    refine sm_getD fl_al_24 e1 rfl z2 d_al_raise_4 ?_
    refine sm_nmR (fun p4 w5 => ?_)
    have hf := sm_letV w5 hf
    have v3 := sm_ev w5 v3
    refine sm_getI fl_al_30 v3 rfl d_al_raise_7 ?_
    refine sm_icmp_ge 98 d_al_raise_10 rfl (fun c6 => ?_) (fun c6 => ?_)
    · have hf := sm_ifT c6 hf
      obtain rfl := sm_ret1 hf
      exact sm_vret d_al_raise_98 rfl
    · have hf := sm_ifF c6 hf
      refine sm_aload_n 1 rfl d_al_raise_13 ?_
      refine sm_getR (n := 1) fl_al_35 e1 rfl d_al_raise_14 ?_
      refine sm_iload_n 2 rfl d_al_raise_17 ?_
      obtain ⟨c7, hf⟩ := sm_gdE hf
      refine sm_iald (sm_at_arr (sm_inner e1 9 rfl rfl rfl)) c7 d_al_raise_18 ?_
      refine sm_bipush (v := 100) (by decide) d_al_raise_19 ?_
      refine sm_icmp_lt 92 d_al_raise_21 rfl (fun c8 => ?_) (fun c8 => ?_)
      · have hf := sm_ifT c8 hf
        exact w_al_raise_L92 l lo hi d hS ih _ _ _ _ e0 e1 hf
      · have hf := sm_ifF c8 hf
        refine sm_aload_n 0 rfl d_al_raise_24 ?_
        refine sm_getI fl_al_9 e0 rfl d_al_raise_25 ?_
        refine sm_iload_n 2 rfl d_al_raise_28 ?_
        obtain ⟨r9, g10, c11, hf⟩ := sm_b2E hf
        refine sm_callN (As := [.int (h a0 0), .int a2]) (rv := some (.int r9)) (h1 := g10) cvn_al_39 (m_sc_has l lo hi _ c11) rfl rfl d_al_raise_29 ?_
        refine sm_if_ne 92 d_al_raise_32 rfl (fun c12 => ?_) (fun c12 => ?_)
        · have hf := sm_ifF c12 hf
          exact w_al_raise_L92 l lo hi d hS ih _ _ _ _ e0 e1 hf
        · have hf := sm_ifT c12 hf
          refine sm_aload_n 0 rfl d_al_raise_35 ?_
          refine sm_getI fl_al_15 e0 rfl d_al_raise_36 ?_
          refine sm_iload_n 2 rfl d_al_raise_39 ?_
          obtain ⟨r13, g14, c15, hf⟩ := sm_b2E hf
          refine sm_callN (As := [.int (g10 a0 1), .int a2]) (rv := some (.int r13)) (h1 := g14) cvn_al_39 (m_sc_has l lo hi _ c15) rfl rfl d_al_raise_40 ?_
          refine sm_if_ne 92 d_al_raise_43 rfl (fun c16 => ?_) (fun c16 => ?_)
          · have hf := sm_ifF c16 hf
            exact w_al_raise_L92 l lo hi d hS ih _ _ _ _ e0 e1 hf
          · have hf := sm_ifT c16 hf
            refine sm_aload_n 0 rfl d_al_raise_46 ?_
            refine sm_aload_n 0 rfl d_al_raise_47 ?_
            refine sm_getI fl_al_9 e0 rfl d_al_raise_48 ?_
            refine sm_iload_n 2 rfl d_al_raise_51 ?_
            refine sm_iconst (v := 1) (by decide) d_al_raise_52 ?_
            obtain ⟨r17, g18, c19, hf⟩ := sm_b2E hf
            refine sm_callN (As := [.int (g14 a0 0), .int a2, .int 1]) (rv := some (.int r17)) (h1 := g18) cvn_al_43 (m_sc_with l lo hi _ c19) rfl rfl d_al_raise_53 ?_
            refine sm_putI fp_al_9 e0 rfl rfl d_al_raise_56 ?_
            refine sm_nmH (fun g20 w21 => ?_)
            have hf := sm_letV w21 hf
            refine sm_aload_n 1 rfl d_al_raise_59 ?_
            refine sm_getR (n := 9) fl_al_47 e1 rfl d_al_raise_60 ?_
            refine sm_aload_n 1 rfl d_al_raise_63 ?_
            refine sm_getI fl_al_51 e1 rfl d_al_raise_64 ?_
            refine sm_iconst (v := 0) (by decide) d_al_raise_67 ?_
            refine sm_iload_n 2 rfl d_al_raise_68 ?_
            obtain ⟨g22, c23, hf⟩ := sm_bindE hf
            refine sm_callV (As := [.int (g20 a1 1), .int 0, .int a2]) (rv := none) (h1 := g22) (c := 3) cvv_al_54 rfl rfl (sm_inner e1 17 rfl rfl rfl) (m_lo_add l lo hi _ (sm_inner e1 17 rfl rfl rfl) c23) rfl rfl d_al_raise_69 ?_
            refine sm_aload_n 0 rfl d_al_raise_72 ?_
            refine sm_getI fl_al_18 e0 rfl d_al_raise_73 ?_
            refine sm_if_ge 92 d_al_raise_76 rfl (fun c24 => ?_) (fun c24 => ?_)
            · have hf := sm_ifT c24 hf
              exact w_al_raise_L92 l lo hi d hS ih _ _ _ _ e0 e1 hf
            · have hf := sm_ifF c24 hf
              refine sm_aload_n 0 rfl d_al_raise_79 ?_
              refine sm_iload_n 2 rfl d_al_raise_80 ?_
              refine sm_putI fp_al_18 e0 rfl rfl d_al_raise_81 ?_
              refine sm_nmH (fun g25 w26 => ?_)
              have hf := sm_letV w26 hf
              refine sm_aload_n 0 rfl d_al_raise_84 ?_
              refine sm_aload_n 1 rfl d_al_raise_85 ?_
              refine sm_getI fl_al_51 e1 rfl d_al_raise_86 ?_
              refine sm_putI fp_al_21 e0 rfl rfl d_al_raise_89 ?_
              refine sm_nmH (fun g27 w28 => ?_)
              have hf := sm_letV w28 hf
              exact w_al_raise_L92 l lo hi d hS ih _ _ _ _ e0 e1 hf
theorem m_al_raise (l : Launch) (lo hi d : Nat) (hS : sm_has lo hi) {a0 : Nat} {a1 : Nat} {h h' : sm_H} (e0 : sm_at lo hi (0, 0, 0) a0) (e1 : sm_at lo hi (0, 7, 0) a1) (hf : f_al_raise a0 a1 h = some h') : sm_Met l lo hi (d + 2) q_al_raise [.ref a0, .ref a1] h none h' := by
  refine sm_Met.of (by decide +kernel) rfl ?_
  show sm_W l lo hi (d + 2) q_al_raise 0 [(0, .ref a0), (1, .ref a1)] [] h none h'
  unfold f_al_raise at hf
  refine sm_iconst (v := 0) (by decide) d_al_raise_0 ?_
  refine sm_istore_n (lv' := [(2, .int 0), (0, .ref a0), (1, .ref a1)]) d_al_raise_1 rfl rfl ?_
  refine sm_sub [1, 2, 0] rfl ?_
  exact w_al_raise_L2 l lo hi d hS sm_N _ _ _ _ e0 e1 hf
theorem d_co_rule_0 : decode q_co_rule.2.1 0 = .ok (.aload_n 0, 1) := by decide +kernel
theorem d_co_rule_1 : decode q_co_rule.2.1 1 = .ok (.getfield 9, 3) := by decide +kernel
theorem d_co_rule_4 : decode q_co_rule.2.1 4 = .ok (.iload_n 1, 1) := by decide +kernel
theorem d_co_rule_5 : decode q_co_rule.2.1 5 = .ok (.iaload, 1) := by decide +kernel
theorem d_co_rule_6 : decode q_co_rule.2.1 6 = .ok (.ifCond .ne 10, 3) := by decide +kernel
theorem d_co_rule_9 : decode q_co_rule.2.1 9 = .ok (.aload_n 0, 1) := by decide +kernel
theorem d_co_rule_10 : decode q_co_rule.2.1 10 = .ok (.getfield 9, 3) := by decide +kernel
theorem d_co_rule_13 : decode q_co_rule.2.1 13 = .ok (.iload_n 1, 1) := by decide +kernel
theorem d_co_rule_14 : decode q_co_rule.2.1 14 = .ok (.iload_n 2, 1) := by decide +kernel
theorem d_co_rule_15 : decode q_co_rule.2.1 15 = .ok (.iastore, 1) := by decide +kernel
theorem d_co_rule_16 : decode q_co_rule.2.1 16 = .ok (.return_, 1) := by decide +kernel
theorem m_co_rule (l : Launch) (lo hi d : Nat) {a0 : Nat} {a1 : Int32} {a2 : Int32} {h h' : sm_H} (e0 : sm_at lo hi (0, 1, 0) a0) (hf : f_co_rule a0 a1 a2 h = some h') : sm_Met l lo hi (d) q_co_rule [.ref a0, .int a1, .int a2] h none h' := by
  refine sm_Met.of (by decide +kernel) rfl ?_
  show sm_W l lo hi (d) q_co_rule 0 [(0, .ref a0), (1, .int a1), (2, .int a2)] [] h none h'
  unfold f_co_rule at hf
  refine sm_aload_n 0 rfl d_co_rule_0 ?_
  refine sm_getR (n := 1) fl_co_9 e0 rfl d_co_rule_1 ?_
  refine sm_iload_n 1 rfl d_co_rule_4 ?_
  obtain ⟨c1, hf⟩ := sm_gdE hf
  refine sm_iald (sm_at_arr (sm_inner e0 0 rfl rfl rfl)) c1 d_co_rule_5 ?_
  refine sm_if_ne 16 d_co_rule_6 rfl (fun c2 => ?_) (fun c2 => ?_)
  · have hf := sm_ifF c2 hf
    obtain rfl := sm_ret1 hf
    exact sm_vret d_co_rule_16 rfl
  · have hf := sm_ifT c2 hf
    refine sm_aload_n 0 rfl d_co_rule_9 ?_
    refine sm_getR (n := 1) fl_co_9 e0 rfl d_co_rule_10 ?_
    refine sm_iload_n 1 rfl d_co_rule_13 ?_
    refine sm_iload_n 2 rfl d_co_rule_14 ?_
    obtain ⟨c3, hf⟩ := sm_gdE hf
    refine sm_iast (sm_at_arr (sm_inner e0 0 rfl rfl rfl)) c3 d_co_rule_15 ?_
    refine sm_nmH (fun g4 w5 => ?_)
    have hf := sm_letV w5 hf
    obtain rfl := sm_ret1 hf
    exact sm_vret d_co_rule_16 rfl
theorem d_co_ruleZone_0 : decode q_co_ruleZone.2.1 0 = .ok (.iconst 0, 1) := by decide +kernel
theorem d_co_ruleZone_1 : decode q_co_ruleZone.2.1 1 = .ok (.istore 5, 2) := by decide +kernel
theorem d_co_ruleZone_3 : decode q_co_ruleZone.2.1 3 = .ok (.iload 5, 2) := by decide +kernel
theorem d_co_ruleZone_5 : decode q_co_ruleZone.2.1 5 = .ok (.aload_n 1, 1) := by decide +kernel
theorem d_co_ruleZone_6 : decode q_co_ruleZone.2.1 6 = .ok (.getfield 31, 3) := by decide +kernel
theorem d_co_ruleZone_9 : decode q_co_ruleZone.2.1 9 = .ok (.if_icmp .ge 42, 3) := by decide +kernel
theorem d_co_ruleZone_12 : decode q_co_ruleZone.2.1 12 = .ok (.aload_n 1, 1) := by decide +kernel
theorem d_co_ruleZone_13 : decode q_co_ruleZone.2.1 13 = .ok (.getfield 117, 3) := by decide +kernel
theorem d_co_ruleZone_16 : decode q_co_ruleZone.2.1 16 = .ok (.iload 5, 2) := by decide +kernel
theorem d_co_ruleZone_18 : decode q_co_ruleZone.2.1 18 = .ok (.iaload, 1) := by decide +kernel
theorem d_co_ruleZone_19 : decode q_co_ruleZone.2.1 19 = .ok (.iload_n 2, 1) := by decide +kernel
theorem d_co_ruleZone_20 : decode q_co_ruleZone.2.1 20 = .ok (.if_icmp .ne 25, 3) := by decide +kernel
theorem d_co_ruleZone_23 : decode q_co_ruleZone.2.1 23 = .ok (.aload_n 0, 1) := by decide +kernel
theorem d_co_ruleZone_24 : decode q_co_ruleZone.2.1 24 = .ok (.iload 5, 2) := by decide +kernel
theorem d_co_ruleZone_26 : decode q_co_ruleZone.2.1 26 = .ok (.aload_n 1, 1) := by decide +kernel
theorem d_co_ruleZone_27 : decode q_co_ruleZone.2.1 27 = .ok (.getfield 120, 3) := by decide +kernel
theorem d_co_ruleZone_30 : decode q_co_ruleZone.2.1 30 = .ok (.iload 5, 2) := by decide +kernel
theorem d_co_ruleZone_32 : decode q_co_ruleZone.2.1 32 = .ok (.iaload, 1) := by decide +kernel
theorem d_co_ruleZone_33 : decode q_co_ruleZone.2.1 33 = .ok (.ifCond .ne 7, 3) := by decide +kernel
theorem d_co_ruleZone_36 : decode q_co_ruleZone.2.1 36 = .ok (.iload_n 3, 1) := by decide +kernel
theorem d_co_ruleZone_37 : decode q_co_ruleZone.2.1 37 = .ok (.goto 5, 3) := by decide +kernel
theorem d_co_ruleZone_40 : decode q_co_ruleZone.2.1 40 = .ok (.iload 4, 2) := by decide +kernel
theorem d_co_ruleZone_42 : decode q_co_ruleZone.2.1 42 = .ok (.invokevirtual 109, 3) := by decide +kernel
theorem d_co_ruleZone_45 : decode q_co_ruleZone.2.1 45 = .ok (.iinc 5 1, 3) := by decide +kernel
theorem d_co_ruleZone_48 : decode q_co_ruleZone.2.1 48 = .ok (.goto (-45), 3) := by decide +kernel
theorem d_co_ruleZone_51 : decode q_co_ruleZone.2.1 51 = .ok (.return_, 1) := by decide +kernel
theorem w_co_ruleZone_L45 (l : Launch) (lo hi d : Nat) {k3 : Nat → Nat → Int32 → Int32 → Int32 → Int32 → sm_H → Option sm_H} {h' : sm_H} (hk3 : ∀ (a0 : Nat) (a1 : Nat) (a2 : Int32) (a3 : Int32) (a4 : Int32) (a5 : Int32) (h : sm_H) (_ : sm_at lo hi (0, 1, 0) a0) (_ : sm_at lo hi (0, 4, 0) a1) , k3 a0 a1 a2 a3 a4 a5 h = some h' → sm_W l lo hi (d + 1) q_co_ruleZone 3 [(0, .ref a0), (1, .ref a1), (2, .int a2), (3, .int a3), (4, .int a4), (5, .int a5)] [] h none h') (a0 : Nat) (a1 : Nat) (a2 : Int32) (a3 : Int32) (a4 : Int32) (a5 : Int32) (h : sm_H) (e0 : sm_at lo hi (0, 1, 0) a0) (e1 : sm_at lo hi (0, 4, 0) a1) (hf : f_co_ruleZone_L45 k3 a0 a1 a2 a3 a4 a5 h = some h') : sm_W l lo hi (d + 1) q_co_ruleZone 45 [(0, .ref a0), (1, .ref a1), (2, .int a2), (3, .int a3), (4, .int a4), (5, .int a5)] [] h none h' := by
  unfold f_co_ruleZone_L45 at hf
  obtain ⟨x8, w9⟩ : ∃ v : Int32, v = a5 + 1 := ⟨_, rfl⟩
  have hf := sm_letV w9 hf
  refine sm_iinc (v := x8) (lv' := [(5, .int x8), (0, .ref a0), (1, .ref a1), (2, .int a2), (3, .int a3), (4, .int a4)]) 5 rfl (by rw [w9]; rfl) d_co_ruleZone_45 rfl rfl ?_
  refine sm_goto 3 d_co_ruleZone_48 rfl ?_
  refine sm_sub [1, 2, 3, 4, 5, 0] rfl ?_
  exact hk3 _ _ _ _ _ _ _ e0 e1 hf
theorem w_co_ruleZone_L42 (l : Launch) (lo hi d : Nat) {k3 : Nat → Nat → Int32 → Int32 → Int32 → Int32 → sm_H → Option sm_H} {h' : sm_H} (hk3 : ∀ (a0 : Nat) (a1 : Nat) (a2 : Int32) (a3 : Int32) (a4 : Int32) (a5 : Int32) (h : sm_H) (_ : sm_at lo hi (0, 1, 0) a0) (_ : sm_at lo hi (0, 4, 0) a1) , k3 a0 a1 a2 a3 a4 a5 h = some h' → sm_W l lo hi (d + 1) q_co_ruleZone 3 [(0, .ref a0), (1, .ref a1), (2, .int a2), (3, .int a3), (4, .int a4), (5, .int a5)] [] h none h') (a0 : Nat) (a1 : Nat) (a2 : Int32) (a3 : Int32) (a4 : Int32) (a5 : Int32) (s0 : Int32) (s1 : Int32) (s2 : Nat) (h : sm_H) (e0 : sm_at lo hi (0, 1, 0) a0) (e1 : sm_at lo hi (0, 4, 0) a1) (t2 : sm_at lo hi (0, 1, 0) s2) (hf : f_co_ruleZone_L42 k3 a0 a1 a2 a3 a4 a5 s0 s1 s2 h = some h') : sm_W l lo hi (d + 1) q_co_ruleZone 42 [(0, .ref a0), (1, .ref a1), (2, .int a2), (3, .int a3), (4, .int a4), (5, .int a5)] [.int s0, .int s1, .ref s2] h none h' := by
  unfold f_co_ruleZone_L42 at hf
  obtain ⟨g6, c7, hf⟩ := sm_bindE hf
  refine sm_callV (As := [.int s1, .int s0]) (rv := none) (h1 := g6) (c := 1) cvv_co_109 rfl rfl t2 (m_co_rule l lo hi _ t2 c7) rfl rfl d_co_ruleZone_42 ?_
  exact w_co_ruleZone_L45 l lo hi d hk3 _ _ _ _ _ _ _ e0 e1 hf
theorem w_co_ruleZone_L3 (l : Launch) (lo hi d : Nat) {h' : sm_H} : ∀ (n : Nat) (a0 : Nat) (a1 : Nat) (a2 : Int32) (a3 : Int32) (a4 : Int32) (a5 : Int32) (h : sm_H) (e0 : sm_at lo hi (0, 1, 0) a0) (e1 : sm_at lo hi (0, 4, 0) a1) (hf : f_co_ruleZone_L3 n a0 a1 a2 a3 a4 a5 h = some h'), sm_W l lo hi (d + 1) q_co_ruleZone 3 [(0, .ref a0), (1, .ref a1), (2, .int a2), (3, .int a3), (4, .int a4), (5, .int a5)] [] h none h' := by
  intro n
  induction n with
  | zero =>
    intro a0 a1 a2 a3 a4 a5 h e0 e1 hf
    have z : (none : Option sm_H) = some _ := hf
    cases z
  | succ n ih =>
    intro a0 a1 a2 a3 a4 a5 h e0 e1 hf
    unfold f_co_ruleZone_L3 at hf
    refine sm_iload 5 rfl d_co_ruleZone_3 ?_
    refine sm_aload_n 1 rfl d_co_ruleZone_5 ?_
    refine sm_getI fl_co_31 e1 rfl d_co_ruleZone_6 ?_
    refine sm_icmp_ge 51 d_co_ruleZone_9 rfl (fun c1 => ?_) (fun c1 => ?_)
    · have hf := sm_ifT c1 hf
      obtain rfl := sm_ret1 hf
      exact sm_vret d_co_ruleZone_51 rfl
    · have hf := sm_ifF c1 hf
      refine sm_aload_n 1 rfl d_co_ruleZone_12 ?_
      refine sm_getR (n := 3) fl_co_117 e1 rfl d_co_ruleZone_13 ?_
      refine sm_iload 5 rfl d_co_ruleZone_16 ?_
      obtain ⟨c2, hf⟩ := sm_gdE hf
      refine sm_iald (sm_at_arr (sm_inner e1 9 rfl rfl rfl)) c2 d_co_ruleZone_18 ?_
      refine sm_iload_n 2 rfl d_co_ruleZone_19 ?_
      refine sm_icmp_ne 45 d_co_ruleZone_20 rfl (fun c3 => ?_) (fun c3 => ?_)
      · have hf := sm_ifF c3 hf
        exact w_co_ruleZone_L45 l lo hi d ih _ _ _ _ _ _ _ e0 e1 hf
      · have hf := sm_ifT c3 hf
        refine sm_aload_n 0 rfl d_co_ruleZone_23 ?_
        refine sm_iload 5 rfl d_co_ruleZone_24 ?_
        refine sm_aload_n 1 rfl d_co_ruleZone_26 ?_
        refine sm_getR (n := 1) fl_co_120 e1 rfl d_co_ruleZone_27 ?_
        refine sm_iload 5 rfl d_co_ruleZone_30 ?_
        obtain ⟨c4, hf⟩ := sm_gdE hf
        refine sm_iald (sm_at_arr (sm_inner e1 7 rfl rfl rfl)) c4 d_co_ruleZone_32 ?_
        refine sm_if_ne 40 d_co_ruleZone_33 rfl (fun c5 => ?_) (fun c5 => ?_)
        · have hf := sm_ifF c5 hf
          refine sm_iload 4 rfl d_co_ruleZone_40 ?_
          exact w_co_ruleZone_L42 l lo hi d ih _ _ _ _ _ _ _ _ _ _ e0 e1 e0 hf
        · have hf := sm_ifT c5 hf
          refine sm_iload_n 3 rfl d_co_ruleZone_36 ?_
          refine sm_goto 42 d_co_ruleZone_37 rfl ?_
          exact w_co_ruleZone_L42 l lo hi d ih _ _ _ _ _ _ _ _ _ _ e0 e1 e0 hf
theorem m_co_ruleZone (l : Launch) (lo hi d : Nat) {a0 : Nat} {a1 : Nat} {a2 : Int32} {a3 : Int32} {a4 : Int32} {h h' : sm_H} (e0 : sm_at lo hi (0, 1, 0) a0) (e1 : sm_at lo hi (0, 4, 0) a1) (hf : f_co_ruleZone a0 a1 a2 a3 a4 h = some h') : sm_Met l lo hi (d + 1) q_co_ruleZone [.ref a0, .ref a1, .int a2, .int a3, .int a4] h none h' := by
  refine sm_Met.of (by decide +kernel) rfl ?_
  show sm_W l lo hi (d + 1) q_co_ruleZone 0 [(0, .ref a0), (1, .ref a1), (2, .int a2), (3, .int a3), (4, .int a4)] [] h none h'
  unfold f_co_ruleZone at hf
  refine sm_iconst (v := 0) (by decide) d_co_ruleZone_0 ?_
  refine sm_istore (lv' := [(5, .int 0), (0, .ref a0), (1, .ref a1), (2, .int a2), (3, .int a3), (4, .int a4)]) d_co_ruleZone_1 rfl rfl ?_
  refine sm_sub [1, 2, 3, 4, 5, 0] rfl ?_
  exact w_co_ruleZone_L3 l lo hi d sm_N _ _ _ _ _ _ _ e0 e1 hf
theorem d_co_act_0 : decode q_co_act.2.1 0 = .ok (.iload_n 2, 1) := by decide +kernel
theorem d_co_act_1 : decode q_co_act.2.1 1 = .ok (.tableswitch 118 0 6 #[43, 52, 61, 73, 85, 96, 107], 43) := by decide +kernel
theorem d_co_act_44 : decode q_co_act.2.1 44 = .ok (.aload_n 0, 1) := by decide +kernel
theorem d_co_act_45 : decode q_co_act.2.1 45 = .ok (.iload_n 3, 1) := by decide +kernel
theorem d_co_act_46 : decode q_co_act.2.1 46 = .ok (.iconst 1, 1) := by decide +kernel
theorem d_co_act_47 : decode q_co_act.2.1 47 = .ok (.invokevirtual 109, 3) := by decide +kernel
theorem d_co_act_50 : decode q_co_act.2.1 50 = .ok (.goto 77, 3) := by decide +kernel
theorem d_co_act_53 : decode q_co_act.2.1 53 = .ok (.aload_n 0, 1) := by decide +kernel
theorem d_co_act_54 : decode q_co_act.2.1 54 = .ok (.iload_n 3, 1) := by decide +kernel
theorem d_co_act_55 : decode q_co_act.2.1 55 = .ok (.iconst 2, 1) := by decide +kernel
theorem d_co_act_56 : decode q_co_act.2.1 56 = .ok (.invokevirtual 109, 3) := by decide +kernel
theorem d_co_act_59 : decode q_co_act.2.1 59 = .ok (.goto 68, 3) := by decide +kernel
theorem d_co_act_62 : decode q_co_act.2.1 62 = .ok (.aload_n 0, 1) := by decide +kernel
theorem d_co_act_63 : decode q_co_act.2.1 63 = .ok (.bipush 16, 2) := by decide +kernel
theorem d_co_act_65 : decode q_co_act.2.1 65 = .ok (.iload_n 3, 1) := by decide +kernel
theorem d_co_act_66 : decode q_co_act.2.1 66 = .ok (.iadd, 1) := by decide +kernel
theorem d_co_act_67 : decode q_co_act.2.1 67 = .ok (.iconst 1, 1) := by decide +kernel
theorem d_co_act_68 : decode q_co_act.2.1 68 = .ok (.invokevirtual 109, 3) := by decide +kernel
theorem d_co_act_71 : decode q_co_act.2.1 71 = .ok (.goto 56, 3) := by decide +kernel
theorem d_co_act_74 : decode q_co_act.2.1 74 = .ok (.aload_n 0, 1) := by decide +kernel
theorem d_co_act_75 : decode q_co_act.2.1 75 = .ok (.bipush 16, 2) := by decide +kernel
theorem d_co_act_77 : decode q_co_act.2.1 77 = .ok (.iload_n 3, 1) := by decide +kernel
theorem d_co_act_78 : decode q_co_act.2.1 78 = .ok (.iadd, 1) := by decide +kernel
theorem d_co_act_79 : decode q_co_act.2.1 79 = .ok (.iconst 2, 1) := by decide +kernel
theorem d_co_act_80 : decode q_co_act.2.1 80 = .ok (.invokevirtual 109, 3) := by decide +kernel
theorem d_co_act_83 : decode q_co_act.2.1 83 = .ok (.goto 44, 3) := by decide +kernel
theorem d_co_act_86 : decode q_co_act.2.1 86 = .ok (.aload_n 0, 1) := by decide +kernel
theorem d_co_act_87 : decode q_co_act.2.1 87 = .ok (.aload_n 1, 1) := by decide +kernel
theorem d_co_act_88 : decode q_co_act.2.1 88 = .ok (.iload_n 3, 1) := by decide +kernel
theorem d_co_act_89 : decode q_co_act.2.1 89 = .ok (.iconst 2, 1) := by decide +kernel
theorem d_co_act_90 : decode q_co_act.2.1 90 = .ok (.iconst 1, 1) := by decide +kernel
theorem d_co_act_91 : decode q_co_act.2.1 91 = .ok (.invokevirtual 113, 3) := by decide +kernel
theorem d_co_act_94 : decode q_co_act.2.1 94 = .ok (.goto 33, 3) := by decide +kernel
theorem d_co_act_97 : decode q_co_act.2.1 97 = .ok (.aload_n 0, 1) := by decide +kernel
theorem d_co_act_98 : decode q_co_act.2.1 98 = .ok (.aload_n 1, 1) := by decide +kernel
theorem d_co_act_99 : decode q_co_act.2.1 99 = .ok (.iload_n 3, 1) := by decide +kernel
theorem d_co_act_100 : decode q_co_act.2.1 100 = .ok (.iconst 1, 1) := by decide +kernel
theorem d_co_act_101 : decode q_co_act.2.1 101 = .ok (.iconst 2, 1) := by decide +kernel
theorem d_co_act_102 : decode q_co_act.2.1 102 = .ok (.invokevirtual 113, 3) := by decide +kernel
theorem d_co_act_105 : decode q_co_act.2.1 105 = .ok (.goto 22, 3) := by decide +kernel
theorem d_co_act_108 : decode q_co_act.2.1 108 = .ok (.aload_n 0, 1) := by decide +kernel
theorem d_co_act_109 : decode q_co_act.2.1 109 = .ok (.aload_n 1, 1) := by decide +kernel
theorem d_co_act_110 : decode q_co_act.2.1 110 = .ok (.iload_n 3, 1) := by decide +kernel
theorem d_co_act_111 : decode q_co_act.2.1 111 = .ok (.iconst 2, 1) := by decide +kernel
theorem d_co_act_112 : decode q_co_act.2.1 112 = .ok (.iconst 2, 1) := by decide +kernel
theorem d_co_act_113 : decode q_co_act.2.1 113 = .ok (.invokevirtual 113, 3) := by decide +kernel
theorem d_co_act_116 : decode q_co_act.2.1 116 = .ok (.goto 11, 3) := by decide +kernel
theorem d_co_act_119 : decode q_co_act.2.1 119 = .ok (.aload_n 0, 1) := by decide +kernel
theorem d_co_act_120 : decode q_co_act.2.1 120 = .ok (.aload_n 1, 1) := by decide +kernel
theorem d_co_act_121 : decode q_co_act.2.1 121 = .ok (.iload_n 3, 1) := by decide +kernel
theorem d_co_act_122 : decode q_co_act.2.1 122 = .ok (.iconst 1, 1) := by decide +kernel
theorem d_co_act_123 : decode q_co_act.2.1 123 = .ok (.iconst 1, 1) := by decide +kernel
theorem d_co_act_124 : decode q_co_act.2.1 124 = .ok (.invokevirtual 113, 3) := by decide +kernel
theorem d_co_act_127 : decode q_co_act.2.1 127 = .ok (.return_, 1) := by decide +kernel
theorem m_co_act (l : Launch) (lo hi d : Nat) {a0 : Nat} {a1 : Nat} {a2 : Int32} {a3 : Int32} {h h' : sm_H} (e0 : sm_at lo hi (0, 1, 0) a0) (e1 : sm_at lo hi (0, 4, 0) a1) (hf : f_co_act a0 a1 a2 a3 h = some h') : sm_Met l lo hi (d + 2) q_co_act [.ref a0, .ref a1, .int a2, .int a3] h none h' := by
  refine sm_Met.of (by decide +kernel) rfl ?_
  show sm_W l lo hi (d + 2) q_co_act 0 [(0, .ref a0), (1, .ref a1), (2, .int a2), (3, .int a3)] [] h none h'
  unfold f_co_act at hf
  refine sm_iload_n 2 rfl d_co_act_0 ?_
  by_cases c1 : a2 = 0
  · have hf := sm_ifT c1 hf
    refine sm_tableIn 44 d_co_act_1 (by rw [c1]; decide) (by rw [c1]; decide) (by rw [c1]; rfl) rfl ?_
    refine sm_aload_n 0 rfl d_co_act_44 ?_
    refine sm_iload_n 3 rfl d_co_act_45 ?_
    refine sm_iconst (v := 1) (by decide) d_co_act_46 ?_
    obtain ⟨g2, c3, hf⟩ := sm_bindE hf
    refine sm_callV (As := [.int a3, .int 1]) (rv := none) (h1 := g2) (c := 1) cvv_co_109 rfl rfl e0 (m_co_rule l lo hi _ e0 c3) rfl rfl d_co_act_47 ?_
    refine sm_goto 127 d_co_act_50 rfl ?_
    obtain rfl := sm_ret1 hf
    exact sm_vret d_co_act_127 rfl
  have hf := sm_ifF c1 hf
  by_cases c4 : a2 = 1
  · have hf := sm_ifT c4 hf
    refine sm_tableIn 53 d_co_act_1 (by rw [c4]; decide) (by rw [c4]; decide) (by rw [c4]; rfl) rfl ?_
    refine sm_aload_n 0 rfl d_co_act_53 ?_
    refine sm_iload_n 3 rfl d_co_act_54 ?_
    refine sm_iconst (v := 2) (by decide) d_co_act_55 ?_
    obtain ⟨g5, c6, hf⟩ := sm_bindE hf
    refine sm_callV (As := [.int a3, .int 2]) (rv := none) (h1 := g5) (c := 1) cvv_co_109 rfl rfl e0 (m_co_rule l lo hi _ e0 c6) rfl rfl d_co_act_56 ?_
    refine sm_goto 127 d_co_act_59 rfl ?_
    obtain rfl := sm_ret1 hf
    exact sm_vret d_co_act_127 rfl
  have hf := sm_ifF c4 hf
  by_cases c7 : a2 = 2
  · have hf := sm_ifT c7 hf
    refine sm_tableIn 62 d_co_act_1 (by rw [c7]; decide) (by rw [c7]; decide) (by rw [c7]; rfl) rfl ?_
    refine sm_aload_n 0 rfl d_co_act_62 ?_
    refine sm_bipush (v := 16) (by decide) d_co_act_63 ?_
    refine sm_iload_n 3 rfl d_co_act_65 ?_
    refine sm_iadd d_co_act_66 ?_
    refine sm_iconst (v := 1) (by decide) d_co_act_67 ?_
    obtain ⟨g8, c9, hf⟩ := sm_bindE hf
    refine sm_callV (As := [.int (16 + a3), .int 1]) (rv := none) (h1 := g8) (c := 1) cvv_co_109 rfl rfl e0 (m_co_rule l lo hi _ e0 c9) rfl rfl d_co_act_68 ?_
    refine sm_goto 127 d_co_act_71 rfl ?_
    obtain rfl := sm_ret1 hf
    exact sm_vret d_co_act_127 rfl
  have hf := sm_ifF c7 hf
  by_cases c10 : a2 = 3
  · have hf := sm_ifT c10 hf
    refine sm_tableIn 74 d_co_act_1 (by rw [c10]; decide) (by rw [c10]; decide) (by rw [c10]; rfl) rfl ?_
    refine sm_aload_n 0 rfl d_co_act_74 ?_
    refine sm_bipush (v := 16) (by decide) d_co_act_75 ?_
    refine sm_iload_n 3 rfl d_co_act_77 ?_
    refine sm_iadd d_co_act_78 ?_
    refine sm_iconst (v := 2) (by decide) d_co_act_79 ?_
    obtain ⟨g11, c12, hf⟩ := sm_bindE hf
    refine sm_callV (As := [.int (16 + a3), .int 2]) (rv := none) (h1 := g11) (c := 1) cvv_co_109 rfl rfl e0 (m_co_rule l lo hi _ e0 c12) rfl rfl d_co_act_80 ?_
    refine sm_goto 127 d_co_act_83 rfl ?_
    obtain rfl := sm_ret1 hf
    exact sm_vret d_co_act_127 rfl
  have hf := sm_ifF c10 hf
  by_cases c13 : a2 = 4
  · have hf := sm_ifT c13 hf
    refine sm_tableIn 86 d_co_act_1 (by rw [c13]; decide) (by rw [c13]; decide) (by rw [c13]; rfl) rfl ?_
    refine sm_aload_n 0 rfl d_co_act_86 ?_
    refine sm_aload_n 1 rfl d_co_act_87 ?_
    refine sm_iload_n 3 rfl d_co_act_88 ?_
    refine sm_iconst (v := 2) (by decide) d_co_act_89 ?_
    refine sm_iconst (v := 1) (by decide) d_co_act_90 ?_
    obtain ⟨g14, c15, hf⟩ := sm_bindE hf
    refine sm_callV (As := [.ref a1, .int a3, .int 2, .int 1]) (rv := none) (h1 := g14) (c := 1) cvv_co_113 rfl rfl e0 (m_co_ruleZone l lo hi _ e0 e1 c15) rfl rfl d_co_act_91 ?_
    refine sm_goto 127 d_co_act_94 rfl ?_
    obtain rfl := sm_ret1 hf
    exact sm_vret d_co_act_127 rfl
  have hf := sm_ifF c13 hf
  by_cases c16 : a2 = 5
  · have hf := sm_ifT c16 hf
    refine sm_tableIn 97 d_co_act_1 (by rw [c16]; decide) (by rw [c16]; decide) (by rw [c16]; rfl) rfl ?_
    refine sm_aload_n 0 rfl d_co_act_97 ?_
    refine sm_aload_n 1 rfl d_co_act_98 ?_
    refine sm_iload_n 3 rfl d_co_act_99 ?_
    refine sm_iconst (v := 1) (by decide) d_co_act_100 ?_
    refine sm_iconst (v := 2) (by decide) d_co_act_101 ?_
    obtain ⟨g17, c18, hf⟩ := sm_bindE hf
    refine sm_callV (As := [.ref a1, .int a3, .int 1, .int 2]) (rv := none) (h1 := g17) (c := 1) cvv_co_113 rfl rfl e0 (m_co_ruleZone l lo hi _ e0 e1 c18) rfl rfl d_co_act_102 ?_
    refine sm_goto 127 d_co_act_105 rfl ?_
    obtain rfl := sm_ret1 hf
    exact sm_vret d_co_act_127 rfl
  have hf := sm_ifF c16 hf
  by_cases c19 : a2 = 6
  · have hf := sm_ifT c19 hf
    refine sm_tableIn 108 d_co_act_1 (by rw [c19]; decide) (by rw [c19]; decide) (by rw [c19]; rfl) rfl ?_
    refine sm_aload_n 0 rfl d_co_act_108 ?_
    refine sm_aload_n 1 rfl d_co_act_109 ?_
    refine sm_iload_n 3 rfl d_co_act_110 ?_
    refine sm_iconst (v := 2) (by decide) d_co_act_111 ?_
    refine sm_iconst (v := 2) (by decide) d_co_act_112 ?_
    obtain ⟨g20, c21, hf⟩ := sm_bindE hf
    refine sm_callV (As := [.ref a1, .int a3, .int 2, .int 2]) (rv := none) (h1 := g20) (c := 1) cvv_co_113 rfl rfl e0 (m_co_ruleZone l lo hi _ e0 e1 c21) rfl rfl d_co_act_113 ?_
    refine sm_goto 127 d_co_act_116 rfl ?_
    obtain rfl := sm_ret1 hf
    exact sm_vret d_co_act_127 rfl
  have hf := sm_ifF c19 hf
  refine sm_tableOut 119 d_co_act_1 (sm_swOut 0 7 (by decide) (by decide) (fun j hj => by match j, hj with | 0, _ => exact c1 | 1, _ => exact c4 | 2, _ => exact c7 | 3, _ => exact c10 | 4, _ => exact c13 | 5, _ => exact c16 | 6, _ => exact c19 | j + 7, hj => exact absurd hj (by omega))) rfl ?_
  refine sm_aload_n 0 rfl d_co_act_119 ?_
  refine sm_aload_n 1 rfl d_co_act_120 ?_
  refine sm_iload_n 3 rfl d_co_act_121 ?_
  refine sm_iconst (v := 1) (by decide) d_co_act_122 ?_
  refine sm_iconst (v := 1) (by decide) d_co_act_123 ?_
  obtain ⟨g22, c23, hf⟩ := sm_bindE hf
  refine sm_callV (As := [.ref a1, .int a3, .int 1, .int 1]) (rv := none) (h1 := g22) (c := 1) cvv_co_113 rfl rfl e0 (m_co_ruleZone l lo hi _ e0 e1 c23) rfl rfl d_co_act_124 ?_
  obtain rfl := sm_ret1 hf
  exact sm_vret d_co_act_127 rfl
theorem d_co_testHolds_0 : decode q_co_testHolds.2.1 0 = .ok (.aload_n 0, 1) := by decide +kernel
theorem d_co_testHolds_1 : decode q_co_testHolds.2.1 1 = .ok (.getfield 71, 3) := by decide +kernel
theorem d_co_testHolds_4 : decode q_co_testHolds.2.1 4 = .ok (.astore_n 3, 1) := by decide +kernel
theorem d_co_testHolds_5 : decode q_co_testHolds.2.1 5 = .ok (.iload_n 1, 1) := by decide +kernel
theorem d_co_testHolds_6 : decode q_co_testHolds.2.1 6 = .ok (.tableswitch 122 0 4 #[34, 43, 57, 66, 92], 34) := by decide +kernel
theorem d_co_testHolds_40 : decode q_co_testHolds.2.1 40 = .ok (.aload_n 3, 1) := by decide +kernel
theorem d_co_testHolds_41 : decode q_co_testHolds.2.1 41 = .ok (.getfield 75, 3) := by decide +kernel
theorem d_co_testHolds_44 : decode q_co_testHolds.2.1 44 = .ok (.iload_n 2, 1) := by decide +kernel
theorem d_co_testHolds_45 : decode q_co_testHolds.2.1 45 = .ok (.invokestatic 40, 3) := by decide +kernel
theorem d_co_testHolds_48 : decode q_co_testHolds.2.1 48 = .ok (.ireturn, 1) := by decide +kernel
theorem d_co_testHolds_49 : decode q_co_testHolds.2.1 49 = .ok (.aload_n 3, 1) := by decide +kernel
theorem d_co_testHolds_50 : decode q_co_testHolds.2.1 50 = .ok (.getfield 141, 3) := by decide +kernel
theorem d_co_testHolds_53 : decode q_co_testHolds.2.1 53 = .ok (.iload_n 2, 1) := by decide +kernel
theorem d_co_testHolds_54 : decode q_co_testHolds.2.1 54 = .ok (.if_icmp .ne 7, 3) := by decide +kernel
theorem d_co_testHolds_57 : decode q_co_testHolds.2.1 57 = .ok (.iconst 1, 1) := by decide +kernel
theorem d_co_testHolds_58 : decode q_co_testHolds.2.1 58 = .ok (.goto 4, 3) := by decide +kernel
theorem d_co_testHolds_61 : decode q_co_testHolds.2.1 61 = .ok (.iconst 0, 1) := by decide +kernel
theorem d_co_testHolds_62 : decode q_co_testHolds.2.1 62 = .ok (.ireturn, 1) := by decide +kernel
theorem d_co_testHolds_63 : decode q_co_testHolds.2.1 63 = .ok (.aload_n 0, 1) := by decide +kernel
theorem d_co_testHolds_64 : decode q_co_testHolds.2.1 64 = .ok (.getfield 144, 3) := by decide +kernel
theorem d_co_testHolds_67 : decode q_co_testHolds.2.1 67 = .ok (.iload_n 2, 1) := by decide +kernel
theorem d_co_testHolds_68 : decode q_co_testHolds.2.1 68 = .ok (.invokestatic 40, 3) := by decide +kernel
theorem d_co_testHolds_71 : decode q_co_testHolds.2.1 71 = .ok (.ireturn, 1) := by decide +kernel
theorem d_co_testHolds_72 : decode q_co_testHolds.2.1 72 = .ok (.aload_n 3, 1) := by decide +kernel
theorem d_co_testHolds_73 : decode q_co_testHolds.2.1 73 = .ok (.getfield 75, 3) := by decide +kernel
theorem d_co_testHolds_76 : decode q_co_testHolds.2.1 76 = .ok (.ifCond .eq 20, 3) := by decide +kernel
theorem d_co_testHolds_79 : decode q_co_testHolds.2.1 79 = .ok (.aload_n 0, 1) := by decide +kernel
theorem d_co_testHolds_80 : decode q_co_testHolds.2.1 80 = .ok (.getfield 147, 3) := by decide +kernel
theorem d_co_testHolds_83 : decode q_co_testHolds.2.1 83 = .ok (.aload_n 3, 1) := by decide +kernel
theorem d_co_testHolds_84 : decode q_co_testHolds.2.1 84 = .ok (.getfield 150, 3) := by decide +kernel
theorem d_co_testHolds_87 : decode q_co_testHolds.2.1 87 = .ok (.isub, 1) := by decide +kernel
theorem d_co_testHolds_88 : decode q_co_testHolds.2.1 88 = .ok (.iload_n 2, 1) := by decide +kernel
theorem d_co_testHolds_89 : decode q_co_testHolds.2.1 89 = .ok (.if_icmp .lt 7, 3) := by decide +kernel
theorem d_co_testHolds_92 : decode q_co_testHolds.2.1 92 = .ok (.iconst 1, 1) := by decide +kernel
theorem d_co_testHolds_93 : decode q_co_testHolds.2.1 93 = .ok (.goto 4, 3) := by decide +kernel
theorem d_co_testHolds_96 : decode q_co_testHolds.2.1 96 = .ok (.iconst 0, 1) := by decide +kernel
theorem d_co_testHolds_97 : decode q_co_testHolds.2.1 97 = .ok (.ireturn, 1) := by decide +kernel
theorem d_co_testHolds_98 : decode q_co_testHolds.2.1 98 = .ok (.aload_n 0, 1) := by decide +kernel
theorem d_co_testHolds_99 : decode q_co_testHolds.2.1 99 = .ok (.getfield 153, 3) := by decide +kernel
theorem d_co_testHolds_102 : decode q_co_testHolds.2.1 102 = .ok (.bipush 16, 2) := by decide +kernel
theorem d_co_testHolds_104 : decode q_co_testHolds.2.1 104 = .ok (.iload_n 2, 1) := by decide +kernel
theorem d_co_testHolds_105 : decode q_co_testHolds.2.1 105 = .ok (.iadd, 1) := by decide +kernel
theorem d_co_testHolds_106 : decode q_co_testHolds.2.1 106 = .ok (.iaload, 1) := by decide +kernel
theorem d_co_testHolds_107 : decode q_co_testHolds.2.1 107 = .ok (.aload_n 0, 1) := by decide +kernel
theorem d_co_testHolds_108 : decode q_co_testHolds.2.1 108 = .ok (.getfield 21, 3) := by decide +kernel
theorem d_co_testHolds_111 : decode q_co_testHolds.2.1 111 = .ok (.getfield 156, 3) := by decide +kernel
theorem d_co_testHolds_114 : decode q_co_testHolds.2.1 114 = .ok (.bipush 16, 2) := by decide +kernel
theorem d_co_testHolds_116 : decode q_co_testHolds.2.1 116 = .ok (.iload_n 2, 1) := by decide +kernel
theorem d_co_testHolds_117 : decode q_co_testHolds.2.1 117 = .ok (.iadd, 1) := by decide +kernel
theorem d_co_testHolds_118 : decode q_co_testHolds.2.1 118 = .ok (.iaload, 1) := by decide +kernel
theorem d_co_testHolds_119 : decode q_co_testHolds.2.1 119 = .ok (.if_icmp .ne 7, 3) := by decide +kernel
theorem d_co_testHolds_122 : decode q_co_testHolds.2.1 122 = .ok (.iconst 1, 1) := by decide +kernel
theorem d_co_testHolds_123 : decode q_co_testHolds.2.1 123 = .ok (.goto 4, 3) := by decide +kernel
theorem d_co_testHolds_126 : decode q_co_testHolds.2.1 126 = .ok (.iconst 0, 1) := by decide +kernel
theorem d_co_testHolds_127 : decode q_co_testHolds.2.1 127 = .ok (.ireturn, 1) := by decide +kernel
theorem d_co_testHolds_128 : decode q_co_testHolds.2.1 128 = .ok (.aload_n 0, 1) := by decide +kernel
theorem d_co_testHolds_129 : decode q_co_testHolds.2.1 129 = .ok (.getfield 159, 3) := by decide +kernel
theorem d_co_testHolds_132 : decode q_co_testHolds.2.1 132 = .ok (.ifCond .eq 7, 3) := by decide +kernel
theorem d_co_testHolds_135 : decode q_co_testHolds.2.1 135 = .ok (.iconst 1, 1) := by decide +kernel
theorem d_co_testHolds_136 : decode q_co_testHolds.2.1 136 = .ok (.goto 4, 3) := by decide +kernel
theorem d_co_testHolds_139 : decode q_co_testHolds.2.1 139 = .ok (.iconst 0, 1) := by decide +kernel
theorem d_co_testHolds_140 : decode q_co_testHolds.2.1 140 = .ok (.ireturn, 1) := by decide +kernel
theorem w_co_testHolds_L62 (l : Launch) (lo hi d : Nat) (hS : sm_has lo hi) {h' : sm_H} {r0 : Int32} (s0 : Int32) (h : sm_H) (hf : f_co_testHolds_L62 s0 h = some (r0, h')) : sm_W l lo hi (d + 1) q_co_testHolds 62 [] [.int s0] h (some (.int r0)) h' := by
  unfold f_co_testHolds_L62 at hf
  obtain ⟨c29, hf⟩ := sm_gdE hf
  obtain ⟨rfl, rfl⟩ := sm_ret2 hf
  exact sm_bret c29 d_co_testHolds_62 rfl
theorem w_co_testHolds_L97 (l : Launch) (lo hi d : Nat) (hS : sm_has lo hi) {h' : sm_H} {r0 : Int32} (s0 : Int32) (h : sm_H) (hf : f_co_testHolds_L97 s0 h = some (r0, h')) : sm_W l lo hi (d + 1) q_co_testHolds 97 [] [.int s0] h (some (.int r0)) h' := by
  unfold f_co_testHolds_L97 at hf
  obtain ⟨c28, hf⟩ := sm_gdE hf
  obtain ⟨rfl, rfl⟩ := sm_ret2 hf
  exact sm_bret c28 d_co_testHolds_97 rfl
theorem w_co_testHolds_L127 (l : Launch) (lo hi d : Nat) (hS : sm_has lo hi) {h' : sm_H} {r0 : Int32} (s0 : Int32) (h : sm_H) (hf : f_co_testHolds_L127 s0 h = some (r0, h')) : sm_W l lo hi (d + 1) q_co_testHolds 127 [] [.int s0] h (some (.int r0)) h' := by
  unfold f_co_testHolds_L127 at hf
  obtain ⟨c27, hf⟩ := sm_gdE hf
  obtain ⟨rfl, rfl⟩ := sm_ret2 hf
  exact sm_bret c27 d_co_testHolds_127 rfl
theorem w_co_testHolds_L140 (l : Launch) (lo hi d : Nat) (hS : sm_has lo hi) {h' : sm_H} {r0 : Int32} (s0 : Int32) (h : sm_H) (hf : f_co_testHolds_L140 s0 h = some (r0, h')) : sm_W l lo hi (d + 1) q_co_testHolds 140 [] [.int s0] h (some (.int r0)) h' := by
  unfold f_co_testHolds_L140 at hf
  obtain ⟨c26, hf⟩ := sm_gdE hf
  obtain ⟨rfl, rfl⟩ := sm_ret2 hf
  exact sm_bret c26 d_co_testHolds_140 rfl
theorem m_co_testHolds (l : Launch) (lo hi d : Nat) (hS : sm_has lo hi) {a0 : Nat} {a1 : Int32} {a2 : Int32} {r0 : Int32} {h h' : sm_H} (e0 : sm_at lo hi (0, 7, 0) a0) (hf : f_co_testHolds a0 a1 a2 h = some (r0, h')) : sm_Met l lo hi (d + 1) q_co_testHolds [.ref a0, .int a1, .int a2] h (some (.int r0)) h' := by
  refine sm_Met.of (by decide +kernel) rfl ?_
  show sm_W l lo hi (d + 1) q_co_testHolds 0 [(0, .ref a0), (1, .int a1), (2, .int a2)] [] h (some (.int r0)) h'
  unfold f_co_testHolds at hf
  refine sm_aload_n 0 rfl d_co_testHolds_0 ?_
  refine sm_getR (n := 8) fl_co_71 e0 rfl d_co_testHolds_1 ?_
  refine sm_astore_n (lv' := [(3, .ref (a0 + 8)), (0, .ref a0), (1, .int a1), (2, .int a2)]) d_co_testHolds_4 rfl rfl ?_
  refine sm_iload_n 2 rfl d_co_testHolds_5 ?_
  by_cases c1 : a1 = 0
  · have hf := sm_ifT c1 hf
    refine sm_tableIn 40 d_co_testHolds_6 (by rw [c1]; decide) (by rw [c1]; decide) (by rw [c1]; rfl) rfl ?_
    refine sm_aload_n 0 rfl d_co_testHolds_40 ?_
    refine sm_getI fl_co_75 (sm_inner e0 16 rfl rfl rfl) rfl d_co_testHolds_41 ?_
    refine sm_iload_n 3 rfl d_co_testHolds_44 ?_
    obtain ⟨r2, g3, c4, hf⟩ := sm_b2E hf
    refine sm_callN (As := [.int (h (a0 + 8) 0), .int a2]) (rv := some (.int r2)) (h1 := g3) cvn_co_40 (m_sc_has l lo hi _ c4) rfl rfl d_co_testHolds_45 ?_
    obtain ⟨c5, hf⟩ := sm_gdE hf
    obtain ⟨rfl, rfl⟩ := sm_ret2 hf
    exact sm_bret c5 d_co_testHolds_48 rfl
  have hf := sm_ifF c1 hf
  by_cases c6 : a1 = 1
  · have hf := sm_ifT c6 hf
    refine sm_tableIn 49 d_co_testHolds_6 (by rw [c6]; decide) (by rw [c6]; decide) (by rw [c6]; rfl) rfl ?_
    refine sm_aload_n 0 rfl d_co_testHolds_49 ?_
    refine sm_getI fl_co_141 (sm_inner e0 16 rfl rfl rfl) rfl d_co_testHolds_50 ?_
    refine sm_iload_n 3 rfl d_co_testHolds_53 ?_
    refine sm_icmp_ne 61 d_co_testHolds_54 rfl (fun c7 => ?_) (fun c7 => ?_)
    · have hf := sm_ifF c7 hf
      refine sm_iconst (v := 0) (by decide) d_co_testHolds_61 ?_
      refine sm_sub [] rfl ?_
      exact w_co_testHolds_L62 l lo hi d hS _ _ hf
    · have hf := sm_ifT c7 hf
      refine sm_iconst (v := 1) (by decide) d_co_testHolds_57 ?_
      refine sm_goto 62 d_co_testHolds_58 rfl ?_
      refine sm_sub [] rfl ?_
      exact w_co_testHolds_L62 l lo hi d hS _ _ hf
  have hf := sm_ifF c6 hf
  by_cases c8 : a1 = 2
  · have hf := sm_ifT c8 hf
    refine sm_tableIn 63 d_co_testHolds_6 (by rw [c8]; decide) (by rw [c8]; decide) (by rw [c8]; rfl) rfl ?_
    refine sm_aload_n 1 rfl d_co_testHolds_63 ?_
    refine sm_getI fl_co_144 e0 rfl d_co_testHolds_64 ?_
    refine sm_iload_n 3 rfl d_co_testHolds_67 ?_
    obtain ⟨r9, g10, c11, hf⟩ := sm_b2E hf
    refine sm_callN (As := [.int (h a0 6), .int a2]) (rv := some (.int r9)) (h1 := g10) cvn_co_40 (m_sc_has l lo hi _ c11) rfl rfl d_co_testHolds_68 ?_
    obtain ⟨c12, hf⟩ := sm_gdE hf
    obtain ⟨rfl, rfl⟩ := sm_ret2 hf
    exact sm_bret c12 d_co_testHolds_71 rfl
  have hf := sm_ifF c8 hf
  by_cases c13 : a1 = 3
  · have hf := sm_ifT c13 hf
    refine sm_tableIn 72 d_co_testHolds_6 (by rw [c13]; decide) (by rw [c13]; decide) (by rw [c13]; rfl) rfl ?_
    refine sm_aload_n 0 rfl d_co_testHolds_72 ?_
    refine sm_getI fl_co_75 (sm_inner e0 16 rfl rfl rfl) rfl d_co_testHolds_73 ?_
    refine sm_if_eq 96 d_co_testHolds_76 rfl (fun c14 => ?_) (fun c14 => ?_)
    · have hf := sm_ifT c14 hf
      refine sm_iconst (v := 0) (by decide) d_co_testHolds_96 ?_
      refine sm_sub [] rfl ?_
      exact w_co_testHolds_L97 l lo hi d hS _ _ hf
    · have hf := sm_ifF c14 hf
      refine sm_aload_n 1 rfl d_co_testHolds_79 ?_
      refine sm_getI fl_co_147 e0 rfl d_co_testHolds_80 ?_
      refine sm_aload_n 0 rfl d_co_testHolds_83 ?_
      refine sm_getI fl_co_150 (sm_inner e0 16 rfl rfl rfl) rfl d_co_testHolds_84 ?_
      refine sm_isub d_co_testHolds_87 ?_
      refine sm_iload_n 3 rfl d_co_testHolds_88 ?_
      refine sm_icmp_lt 96 d_co_testHolds_89 rfl (fun c15 => ?_) (fun c15 => ?_)
      · have hf := sm_ifT c15 hf
        refine sm_iconst (v := 0) (by decide) d_co_testHolds_96 ?_
        refine sm_sub [] rfl ?_
        exact w_co_testHolds_L97 l lo hi d hS _ _ hf
      · have hf := sm_ifF c15 hf
        refine sm_iconst (v := 1) (by decide) d_co_testHolds_92 ?_
        refine sm_goto 97 d_co_testHolds_93 rfl ?_
        refine sm_sub [] rfl ?_
        exact w_co_testHolds_L97 l lo hi d hS _ _ hf
  have hf := sm_ifF c13 hf
  by_cases c16 : a1 = 4
  · have hf := sm_ifT c16 hf
    refine sm_tableIn 98 d_co_testHolds_6 (by rw [c16]; decide) (by rw [c16]; decide) (by rw [c16]; rfl) rfl ?_
    refine sm_aload_n 1 rfl d_co_testHolds_98 ?_
    refine sm_getR (n := 3) fl_co_153 e0 rfl d_co_testHolds_99 ?_
    refine sm_bipush (v := 16) (by decide) d_co_testHolds_102 ?_
    refine sm_iload_n 3 rfl d_co_testHolds_104 ?_
    refine sm_iadd d_co_testHolds_105 ?_
    obtain ⟨c17, hf⟩ := sm_gdE hf
    refine sm_iald (sm_at_arr (sm_inner e0 11 rfl rfl rfl)) c17 d_co_testHolds_106 ?_
    refine sm_aload_n 1 rfl d_co_testHolds_107 ?_
    obtain ⟨c18, hf⟩ := sm_gdE hf
    obtain ⟨z19, v20⟩ := sm_isP_at hS c18
    refine sm_getD fl_co_21 e0 rfl z19 d_co_testHolds_108 ?_
    refine sm_nmR (fun p21 w22 => ?_)
    have hf := sm_letV w22 hf
    have v20 := sm_ev w22 v20
    refine sm_getR (n := 2) fl_co_156 v20 rfl d_co_testHolds_111 ?_
    refine sm_bipush (v := 16) (by decide) d_co_testHolds_114 ?_
    refine sm_iload_n 3 rfl d_co_testHolds_116 ?_
    refine sm_iadd d_co_testHolds_117 ?_
    obtain ⟨c23, hf⟩ := sm_gdE hf
    refine sm_iald (sm_at_arr (sm_inner v20 8 rfl rfl rfl)) c23 d_co_testHolds_118 ?_
    refine sm_icmp_ne 126 d_co_testHolds_119 rfl (fun c24 => ?_) (fun c24 => ?_)
    · have hf := sm_ifF c24 hf
      refine sm_iconst (v := 0) (by decide) d_co_testHolds_126 ?_
      refine sm_sub [] rfl ?_
      exact w_co_testHolds_L127 l lo hi d hS _ _ hf
    · have hf := sm_ifT c24 hf
      refine sm_iconst (v := 1) (by decide) d_co_testHolds_122 ?_
      refine sm_goto 127 d_co_testHolds_123 rfl ?_
      refine sm_sub [] rfl ?_
      exact w_co_testHolds_L127 l lo hi d hS _ _ hf
  have hf := sm_ifF c16 hf
  refine sm_tableOut 128 d_co_testHolds_6 (sm_swOut 0 5 (by decide) (by decide) (fun j hj => by match j, hj with | 0, _ => exact c1 | 1, _ => exact c6 | 2, _ => exact c8 | 3, _ => exact c13 | 4, _ => exact c16 | j + 5, hj => exact absurd hj (by omega))) rfl ?_
  refine sm_aload_n 1 rfl d_co_testHolds_128 ?_
  refine sm_getI fl_co_159 e0 rfl d_co_testHolds_129 ?_
  refine sm_if_eq 139 d_co_testHolds_132 rfl (fun c25 => ?_) (fun c25 => ?_)
  · have hf := sm_ifT c25 hf
    refine sm_iconst (v := 0) (by decide) d_co_testHolds_139 ?_
    refine sm_sub [] rfl ?_
    exact w_co_testHolds_L140 l lo hi d hS _ _ hf
  · have hf := sm_ifF c25 hf
    refine sm_iconst (v := 1) (by decide) d_co_testHolds_135 ?_
    refine sm_goto 140 d_co_testHolds_136 rfl ?_
    refine sm_sub [] rfl ?_
    exact w_co_testHolds_L140 l lo hi d hS _ _ hf
theorem d_ru_codeStart_0 : decode q_ru_codeStart.2.1 0 = .ok (.iload_n 1, 1) := by decide +kernel
theorem d_ru_codeStart_1 : decode q_ru_codeStart.2.1 1 = .ok (.ifCond .le 14, 3) := by decide +kernel
theorem d_ru_codeStart_4 : decode q_ru_codeStart.2.1 4 = .ok (.aload_n 0, 1) := by decide +kernel
theorem d_ru_codeStart_5 : decode q_ru_codeStart.2.1 5 = .ok (.getfield 18, 3) := by decide +kernel
theorem d_ru_codeStart_8 : decode q_ru_codeStart.2.1 8 = .ok (.iload_n 1, 1) := by decide +kernel
theorem d_ru_codeStart_9 : decode q_ru_codeStart.2.1 9 = .ok (.iconst 1, 1) := by decide +kernel
theorem d_ru_codeStart_10 : decode q_ru_codeStart.2.1 10 = .ok (.isub, 1) := by decide +kernel
theorem d_ru_codeStart_11 : decode q_ru_codeStart.2.1 11 = .ok (.iaload, 1) := by decide +kernel
theorem d_ru_codeStart_12 : decode q_ru_codeStart.2.1 12 = .ok (.goto 4, 3) := by decide +kernel
theorem d_ru_codeStart_15 : decode q_ru_codeStart.2.1 15 = .ok (.iconst 0, 1) := by decide +kernel
theorem d_ru_codeStart_16 : decode q_ru_codeStart.2.1 16 = .ok (.ireturn, 1) := by decide +kernel
theorem w_ru_codeStart_L16 (l : Launch) (lo hi d : Nat) {h' : sm_H} {r0 : Int32} (s0 : Int32) (h : sm_H) (hf : f_ru_codeStart_L16 s0 h = some (r0, h')) : sm_W l lo hi (d) q_ru_codeStart 16 [] [.int s0] h (some (.int r0)) h' := by
  unfold f_ru_codeStart_L16 at hf
  obtain ⟨rfl, rfl⟩ := sm_ret2 hf
  exact sm_iret d_ru_codeStart_16 rfl
theorem m_ru_codeStart (l : Launch) (lo hi d : Nat) {a0 : Nat} {a1 : Int32} {r0 : Int32} {h h' : sm_H} (e0 : sm_at lo hi (0, 6, 0) a0) (hf : f_ru_codeStart a0 a1 h = some (r0, h')) : sm_Met l lo hi (d) q_ru_codeStart [.ref a0, .int a1] h (some (.int r0)) h' := by
  refine sm_Met.of (by decide +kernel) rfl ?_
  show sm_W l lo hi (d) q_ru_codeStart 0 [(0, .ref a0), (1, .int a1)] [] h (some (.int r0)) h'
  unfold f_ru_codeStart at hf
  refine sm_iload_n 1 rfl d_ru_codeStart_0 ?_
  refine sm_if_le 15 d_ru_codeStart_1 rfl (fun c1 => ?_) (fun c1 => ?_)
  · have hf := sm_ifT c1 hf
    refine sm_iconst (v := 0) (by decide) d_ru_codeStart_15 ?_
    refine sm_sub [] rfl ?_
    exact w_ru_codeStart_L16 l lo hi d _ _ hf
  · have hf := sm_ifF c1 hf
    refine sm_aload_n 0 rfl d_ru_codeStart_4 ?_
    refine sm_getR (n := 3) fl_ru_18 e0 rfl d_ru_codeStart_5 ?_
    refine sm_iload_n 1 rfl d_ru_codeStart_8 ?_
    refine sm_iconst (v := 1) (by decide) d_ru_codeStart_9 ?_
    refine sm_isub d_ru_codeStart_10 ?_
    obtain ⟨c2, hf⟩ := sm_gdE hf
    refine sm_iald (sm_at_arr (sm_inner e0 5 rfl rfl rfl)) c2 d_ru_codeStart_11 ?_
    refine sm_goto 16 d_ru_codeStart_12 rfl ?_
    refine sm_sub [] rfl ?_
    exact w_ru_codeStart_L16 l lo hi d _ _ hf
theorem d_co_holds_0 : decode q_co_holds.2.1 0 = .ok (.aload_n 1, 1) := by decide +kernel
theorem d_co_holds_1 : decode q_co_holds.2.1 1 = .ok (.getfield 21, 3) := by decide +kernel
theorem d_co_holds_4 : decode q_co_holds.2.1 4 = .ok (.getfield 80, 3) := by decide +kernel
theorem d_co_holds_7 : decode q_co_holds.2.1 7 = .ok (.astore_n 3, 1) := by decide +kernel
theorem d_co_holds_8 : decode q_co_holds.2.1 8 = .ok (.lconst 0, 1) := by decide +kernel
theorem d_co_holds_9 : decode q_co_holds.2.1 9 = .ok (.lstore 4, 2) := by decide +kernel
theorem d_co_holds_11 : decode q_co_holds.2.1 11 = .ok (.aload_n 3, 1) := by decide +kernel
theorem d_co_holds_12 : decode q_co_holds.2.1 12 = .ok (.iload_n 2, 1) := by decide +kernel
theorem d_co_holds_13 : decode q_co_holds.2.1 13 = .ok (.invokevirtual 123, 3) := by decide +kernel
theorem d_co_holds_16 : decode q_co_holds.2.1 16 = .ok (.istore 6, 2) := by decide +kernel
theorem d_co_holds_18 : decode q_co_holds.2.1 18 = .ok (.iload 6, 2) := by decide +kernel
theorem d_co_holds_20 : decode q_co_holds.2.1 20 = .ok (.aload_n 3, 1) := by decide +kernel
theorem d_co_holds_21 : decode q_co_holds.2.1 21 = .ok (.getfield 126, 3) := by decide +kernel
theorem d_co_holds_24 : decode q_co_holds.2.1 24 = .ok (.iload_n 2, 1) := by decide +kernel
theorem d_co_holds_25 : decode q_co_holds.2.1 25 = .ok (.iaload, 1) := by decide +kernel
theorem d_co_holds_26 : decode q_co_holds.2.1 26 = .ok (.if_icmp .ge 117, 3) := by decide +kernel
theorem d_co_holds_29 : decode q_co_holds.2.1 29 = .ok (.aload_n 3, 1) := by decide +kernel
theorem d_co_holds_30 : decode q_co_holds.2.1 30 = .ok (.getfield 129, 3) := by decide +kernel
theorem d_co_holds_33 : decode q_co_holds.2.1 33 = .ok (.iload 6, 2) := by decide +kernel
theorem d_co_holds_35 : decode q_co_holds.2.1 35 = .ok (.iaload, 1) := by decide +kernel
theorem d_co_holds_36 : decode q_co_holds.2.1 36 = .ok (.tableswitch 67 6 8 #[28, 37, 53], 28) := by decide +kernel
theorem d_co_holds_64 : decode q_co_holds.2.1 64 = .ok (.lload 4, 2) := by decide +kernel
theorem d_co_holds_66 : decode q_co_holds.2.1 66 = .ok (.lconst 1, 1) := by decide +kernel
theorem d_co_holds_67 : decode q_co_holds.2.1 67 = .ok (.lxor, 1) := by decide +kernel
theorem d_co_holds_68 : decode q_co_holds.2.1 68 = .ok (.lstore 4, 2) := by decide +kernel
theorem d_co_holds_70 : decode q_co_holds.2.1 70 = .ok (.goto 67, 3) := by decide +kernel
theorem d_co_holds_73 : decode q_co_holds.2.1 73 = .ok (.lload 4, 2) := by decide +kernel
theorem d_co_holds_75 : decode q_co_holds.2.1 75 = .ok (.iconst 1, 1) := by decide +kernel
theorem d_co_holds_76 : decode q_co_holds.2.1 76 = .ok (.lshr, 1) := by decide +kernel
theorem d_co_holds_77 : decode q_co_holds.2.1 77 = .ok (.lload 4, 2) := by decide +kernel
theorem d_co_holds_79 : decode q_co_holds.2.1 79 = .ok (.ldc2_w 132, 3) := by decide +kernel
theorem d_co_holds_82 : decode q_co_holds.2.1 82 = .ok (.lor, 1) := by decide +kernel
theorem d_co_holds_83 : decode q_co_holds.2.1 83 = .ok (.land, 1) := by decide +kernel
theorem d_co_holds_84 : decode q_co_holds.2.1 84 = .ok (.lstore 4, 2) := by decide +kernel
theorem d_co_holds_86 : decode q_co_holds.2.1 86 = .ok (.goto 51, 3) := by decide +kernel
theorem d_co_holds_89 : decode q_co_holds.2.1 89 = .ok (.lload 4, 2) := by decide +kernel
theorem d_co_holds_91 : decode q_co_holds.2.1 91 = .ok (.iconst 1, 1) := by decide +kernel
theorem d_co_holds_92 : decode q_co_holds.2.1 92 = .ok (.lshr, 1) := by decide +kernel
theorem d_co_holds_93 : decode q_co_holds.2.1 93 = .ok (.lload 4, 2) := by decide +kernel
theorem d_co_holds_95 : decode q_co_holds.2.1 95 = .ok (.lconst 1, 1) := by decide +kernel
theorem d_co_holds_96 : decode q_co_holds.2.1 96 = .ok (.land, 1) := by decide +kernel
theorem d_co_holds_97 : decode q_co_holds.2.1 97 = .ok (.lor, 1) := by decide +kernel
theorem d_co_holds_98 : decode q_co_holds.2.1 98 = .ok (.lstore 4, 2) := by decide +kernel
theorem d_co_holds_100 : decode q_co_holds.2.1 100 = .ok (.goto 37, 3) := by decide +kernel
theorem d_co_holds_103 : decode q_co_holds.2.1 103 = .ok (.lload 4, 2) := by decide +kernel
theorem d_co_holds_105 : decode q_co_holds.2.1 105 = .ok (.iconst 1, 1) := by decide +kernel
theorem d_co_holds_106 : decode q_co_holds.2.1 106 = .ok (.lshl, 1) := by decide +kernel
theorem d_co_holds_107 : decode q_co_holds.2.1 107 = .ok (.aload_n 1, 1) := by decide +kernel
theorem d_co_holds_108 : decode q_co_holds.2.1 108 = .ok (.aload_n 3, 1) := by decide +kernel
theorem d_co_holds_109 : decode q_co_holds.2.1 109 = .ok (.getfield 129, 3) := by decide +kernel
theorem d_co_holds_112 : decode q_co_holds.2.1 112 = .ok (.iload 6, 2) := by decide +kernel
theorem d_co_holds_114 : decode q_co_holds.2.1 114 = .ok (.iaload, 1) := by decide +kernel
theorem d_co_holds_115 : decode q_co_holds.2.1 115 = .ok (.aload_n 3, 1) := by decide +kernel
theorem d_co_holds_116 : decode q_co_holds.2.1 116 = .ok (.getfield 134, 3) := by decide +kernel
theorem d_co_holds_119 : decode q_co_holds.2.1 119 = .ok (.iload 6, 2) := by decide +kernel
theorem d_co_holds_121 : decode q_co_holds.2.1 121 = .ok (.iaload, 1) := by decide +kernel
theorem d_co_holds_122 : decode q_co_holds.2.1 122 = .ok (.invokestatic 137, 3) := by decide +kernel
theorem d_co_holds_125 : decode q_co_holds.2.1 125 = .ok (.ifCond .eq 7, 3) := by decide +kernel
theorem d_co_holds_128 : decode q_co_holds.2.1 128 = .ok (.iconst 1, 1) := by decide +kernel
theorem d_co_holds_129 : decode q_co_holds.2.1 129 = .ok (.goto 4, 3) := by decide +kernel
theorem d_co_holds_132 : decode q_co_holds.2.1 132 = .ok (.iconst 0, 1) := by decide +kernel
theorem d_co_holds_133 : decode q_co_holds.2.1 133 = .ok (.i2l, 1) := by decide +kernel
theorem d_co_holds_134 : decode q_co_holds.2.1 134 = .ok (.lor, 1) := by decide +kernel
theorem d_co_holds_135 : decode q_co_holds.2.1 135 = .ok (.lstore 4, 2) := by decide +kernel
theorem d_co_holds_137 : decode q_co_holds.2.1 137 = .ok (.iinc 6 1, 3) := by decide +kernel
theorem d_co_holds_140 : decode q_co_holds.2.1 140 = .ok (.goto (-122), 3) := by decide +kernel
theorem d_co_holds_143 : decode q_co_holds.2.1 143 = .ok (.lload 4, 2) := by decide +kernel
theorem d_co_holds_145 : decode q_co_holds.2.1 145 = .ok (.lconst 1, 1) := by decide +kernel
theorem d_co_holds_146 : decode q_co_holds.2.1 146 = .ok (.land, 1) := by decide +kernel
theorem d_co_holds_147 : decode q_co_holds.2.1 147 = .ok (.lconst 0, 1) := by decide +kernel
theorem d_co_holds_148 : decode q_co_holds.2.1 148 = .ok (.lcmp, 1) := by decide +kernel
theorem d_co_holds_149 : decode q_co_holds.2.1 149 = .ok (.ifCond .eq 7, 3) := by decide +kernel
theorem d_co_holds_152 : decode q_co_holds.2.1 152 = .ok (.iconst 1, 1) := by decide +kernel
theorem d_co_holds_153 : decode q_co_holds.2.1 153 = .ok (.goto 4, 3) := by decide +kernel
theorem d_co_holds_156 : decode q_co_holds.2.1 156 = .ok (.iconst 0, 1) := by decide +kernel
theorem d_co_holds_157 : decode q_co_holds.2.1 157 = .ok (.ireturn, 1) := by decide +kernel
theorem w_co_holds_L157 (l : Launch) (lo hi d : Nat) (hS : sm_has lo hi) {h' : sm_H} {r0 : Int32} (s0 : Int32) (h : sm_H) (hf : f_co_holds_L157 s0 h = some (r0, h')) : sm_W l lo hi (d + 2) q_co_holds 157 [] [.int s0] h (some (.int r0)) h' := by
  unfold f_co_holds_L157 at hf
  obtain ⟨c34, hf⟩ := sm_gdE hf
  obtain ⟨rfl, rfl⟩ := sm_ret2 hf
  exact sm_bret c34 d_co_holds_157 rfl
theorem w_co_holds_L143 (l : Launch) (lo hi d : Nat) (hS : sm_has lo hi) {h' : sm_H} {r0 : Int32} (a4 : Int64) (h : sm_H) (hf : f_co_holds_L143 a4 h = some (r0, h')) : sm_W l lo hi (d + 2) q_co_holds 143 [(4, .long a4)] [] h (some (.int r0)) h' := by
  unfold f_co_holds_L143 at hf
  refine sm_lload 0 rfl d_co_holds_143 ?_
  refine sm_lconst (v := 1) (by decide) d_co_holds_145 ?_
  refine sm_land d_co_holds_146 ?_
  refine sm_lconst (v := 0) (by decide) d_co_holds_147 ?_
  refine sm_lcmp d_co_holds_148 ?_
  refine sm_if_eq 156 d_co_holds_149 rfl (fun c33 => ?_) (fun c33 => ?_)
  · have hf := sm_ifT c33 hf
    refine sm_iconst (v := 0) (by decide) d_co_holds_156 ?_
    refine sm_sub [] rfl ?_
    exact w_co_holds_L157 l lo hi d hS _ _ hf
  · have hf := sm_ifF c33 hf
    refine sm_iconst (v := 1) (by decide) d_co_holds_152 ?_
    refine sm_goto 157 d_co_holds_153 rfl ?_
    refine sm_sub [] rfl ?_
    exact w_co_holds_L157 l lo hi d hS _ _ hf
theorem w_co_holds_L137 (l : Launch) (lo hi d : Nat) (hS : sm_has lo hi) {k18 : Nat → Int32 → Nat → Int64 → Int32 → sm_H → Option (Int32 × sm_H)} {h' : sm_H} {r0 : Int32} (hk18 : ∀ (a1 : Nat) (a2 : Int32) (a3 : Nat) (a4 : Int64) (a6 : Int32) (h : sm_H) (_ : sm_at lo hi (0, 7, 0) a1) (_ : sm_at lo hi (0, 6, 0) a3) , k18 a1 a2 a3 a4 a6 h = some (r0, h') → sm_W l lo hi (d + 2) q_co_holds 18 [(1, .ref a1), (2, .int a2), (3, .ref a3), (4, .long a4), (6, .int a6)] [] h (some (.int r0)) h') (a1 : Nat) (a2 : Int32) (a3 : Nat) (a4 : Int64) (a6 : Int32) (h : sm_H) (e1 : sm_at lo hi (0, 7, 0) a1) (e3 : sm_at lo hi (0, 6, 0) a3) (hf : f_co_holds_L137 k18 a1 a2 a3 a4 a6 h = some (r0, h')) : sm_W l lo hi (d + 2) q_co_holds 137 [(1, .ref a1), (2, .int a2), (3, .ref a3), (4, .long a4), (6, .int a6)] [] h (some (.int r0)) h' := by
  unfold f_co_holds_L137 at hf
  obtain ⟨x31, w32⟩ : ∃ v : Int32, v = a6 + 1 := ⟨_, rfl⟩
  have hf := sm_letV w32 hf
  refine sm_iinc (v := x31) (lv' := [(6, .int x31), (1, .ref a1), (2, .int a2), (3, .ref a3), (4, .long a4)]) 4 rfl (by rw [w32]; rfl) d_co_holds_137 rfl rfl ?_
  refine sm_goto 18 d_co_holds_140 rfl ?_
  refine sm_sub [1, 2, 3, 4, 0] rfl ?_
  exact hk18 _ _ _ _ _ _ e1 e3 hf
theorem w_co_holds_L133 (l : Launch) (lo hi d : Nat) (hS : sm_has lo hi) {k18 : Nat → Int32 → Nat → Int64 → Int32 → sm_H → Option (Int32 × sm_H)} {h' : sm_H} {r0 : Int32} (hk18 : ∀ (a1 : Nat) (a2 : Int32) (a3 : Nat) (a4 : Int64) (a6 : Int32) (h : sm_H) (_ : sm_at lo hi (0, 7, 0) a1) (_ : sm_at lo hi (0, 6, 0) a3) , k18 a1 a2 a3 a4 a6 h = some (r0, h') → sm_W l lo hi (d + 2) q_co_holds 18 [(1, .ref a1), (2, .int a2), (3, .ref a3), (4, .long a4), (6, .int a6)] [] h (some (.int r0)) h') (a1 : Nat) (a2 : Int32) (a3 : Nat) (a6 : Int32) (s0 : Int32) (s1 : Int64) (h : sm_H) (e1 : sm_at lo hi (0, 7, 0) a1) (e3 : sm_at lo hi (0, 6, 0) a3) (hf : f_co_holds_L133 k18 a1 a2 a3 a6 s0 s1 h = some (r0, h')) : sm_W l lo hi (d + 2) q_co_holds 133 [(1, .ref a1), (2, .int a2), (3, .ref a3), (6, .int a6)] [.int s0, .long s1] h (some (.int r0)) h' := by
  unfold f_co_holds_L133 at hf
  refine sm_i2l d_co_holds_133 ?_
  refine sm_lor d_co_holds_134 ?_
  refine sm_nmJ (fun x29 w30 => ?_)
  have hf := sm_letV w30 hf
  refine sm_lstore (lv' := [(4, .long x29), (1, .ref a1), (2, .int a2), (3, .ref a3), (6, .int a6)]) d_co_holds_135 rfl rfl ?_
  refine sm_sub [1, 2, 3, 0, 4] rfl ?_
  exact w_co_holds_L137 l lo hi d hS hk18 _ _ _ _ _ _ e1 e3 hf
theorem w_co_holds_L18 (l : Launch) (lo hi d : Nat) (hS : sm_has lo hi) {h' : sm_H} {r0 : Int32} : ∀ (n : Nat) (a1 : Nat) (a2 : Int32) (a3 : Nat) (a4 : Int64) (a6 : Int32) (h : sm_H) (e1 : sm_at lo hi (0, 7, 0) a1) (e3 : sm_at lo hi (0, 6, 0) a3) (hf : f_co_holds_L18 n a1 a2 a3 a4 a6 h = some (r0, h')), sm_W l lo hi (d + 2) q_co_holds 18 [(1, .ref a1), (2, .int a2), (3, .ref a3), (4, .long a4), (6, .int a6)] [] h (some (.int r0)) h' := by
  intro n
  induction n with
  | zero =>
    intro a1 a2 a3 a4 a6 h e1 e3 hf
    have z : (none : Option (Int32 × sm_H)) = some _ := hf
    cases z
  | succ n ih =>
    intro a1 a2 a3 a4 a6 h e1 e3 hf
    unfold f_co_holds_L18 at hf
    refine sm_iload 4 rfl d_co_holds_18 ?_
    refine sm_aload_n 2 rfl d_co_holds_20 ?_
    refine sm_getR (n := 3) fl_co_126 e3 rfl d_co_holds_21 ?_
    refine sm_iload_n 1 rfl d_co_holds_24 ?_
    obtain ⟨c9, hf⟩ := sm_gdE hf
    refine sm_iald (sm_at_arr (sm_inner e3 5 rfl rfl rfl)) c9 d_co_holds_25 ?_
    refine sm_icmp_ge 143 d_co_holds_26 rfl (fun c10 => ?_) (fun c10 => ?_)
    · have hf := sm_ifT c10 hf
      refine sm_sub [3] rfl ?_
      exact w_co_holds_L143 l lo hi d hS _ _ hf
    · have hf := sm_ifF c10 hf
      refine sm_aload_n 2 rfl d_co_holds_29 ?_
      refine sm_getR (n := 1) fl_co_129 e3 rfl d_co_holds_30 ?_
      refine sm_iload 4 rfl d_co_holds_33 ?_
      obtain ⟨c11, hf⟩ := sm_gdE hf
      refine sm_iald (sm_at_arr (sm_inner e3 3 rfl rfl rfl)) c11 d_co_holds_35 ?_
      refine sm_nmI (fun x12 w13 => ?_)
      have hf := sm_letV w13 hf
      by_cases c14 : x12 = 6
      · have hf := sm_ifT c14 hf
        refine sm_tableIn 64 d_co_holds_36 (by rw [c14]; decide) (by rw [c14]; decide) (by rw [c14]; rfl) rfl ?_
        refine sm_lload 3 rfl d_co_holds_64 ?_
        refine sm_lconst (v := 1) (by decide) d_co_holds_66 ?_
        refine sm_lxor d_co_holds_67 ?_
        refine sm_nmJ (fun x15 w16 => ?_)
        have hf := sm_letV w16 hf
        refine sm_lstore (lv' := [(4, .long x15), (1, .ref a1), (2, .int a2), (3, .ref a3), (6, .int a6)]) d_co_holds_68 rfl rfl ?_
        refine sm_goto 137 d_co_holds_70 rfl ?_
        refine sm_sub [1, 2, 3, 0, 4] rfl ?_
        exact w_co_holds_L137 l lo hi d hS ih _ _ _ _ _ _ e1 e3 hf
      have hf := sm_ifF c14 hf
      by_cases c17 : x12 = 7
      · have hf := sm_ifT c17 hf
        refine sm_tableIn 73 d_co_holds_36 (by rw [c17]; decide) (by rw [c17]; decide) (by rw [c17]; rfl) rfl ?_
        refine sm_lload 3 rfl d_co_holds_73 ?_
        refine sm_iconst (v := 1) (by decide) d_co_holds_75 ?_
        refine sm_lshr d_co_holds_76 ?_
        refine sm_lload 3 rfl d_co_holds_77 ?_
        refine sm_ldc2 (v := (-2)) (sm_mq4 102 (by decide +kernel) rfl) d_co_holds_79 ?_
        refine sm_lor d_co_holds_82 ?_
        refine sm_land d_co_holds_83 ?_
        refine sm_nmJ (fun x18 w19 => ?_)
        have hf := sm_letV w19 hf
        refine sm_lstore (lv' := [(4, .long x18), (1, .ref a1), (2, .int a2), (3, .ref a3), (6, .int a6)]) d_co_holds_84 rfl rfl ?_
        refine sm_goto 137 d_co_holds_86 rfl ?_
        refine sm_sub [1, 2, 3, 0, 4] rfl ?_
        exact w_co_holds_L137 l lo hi d hS ih _ _ _ _ _ _ e1 e3 hf
      have hf := sm_ifF c17 hf
      by_cases c20 : x12 = 8
      · have hf := sm_ifT c20 hf
        refine sm_tableIn 89 d_co_holds_36 (by rw [c20]; decide) (by rw [c20]; decide) (by rw [c20]; rfl) rfl ?_
        refine sm_lload 3 rfl d_co_holds_89 ?_
        refine sm_iconst (v := 1) (by decide) d_co_holds_91 ?_
        refine sm_lshr d_co_holds_92 ?_
        refine sm_lload 3 rfl d_co_holds_93 ?_
        refine sm_lconst (v := 1) (by decide) d_co_holds_95 ?_
        refine sm_land d_co_holds_96 ?_
        refine sm_lor d_co_holds_97 ?_
        refine sm_nmJ (fun x21 w22 => ?_)
        have hf := sm_letV w22 hf
        refine sm_lstore (lv' := [(4, .long x21), (1, .ref a1), (2, .int a2), (3, .ref a3), (6, .int a6)]) d_co_holds_98 rfl rfl ?_
        refine sm_goto 137 d_co_holds_100 rfl ?_
        refine sm_sub [1, 2, 3, 0, 4] rfl ?_
        exact w_co_holds_L137 l lo hi d hS ih _ _ _ _ _ _ e1 e3 hf
      have hf := sm_ifF c20 hf
      refine sm_tableOut 103 d_co_holds_36 (sm_swOut 6 3 (by decide) (by decide) (fun j hj => by match j, hj with | 0, _ => exact c14 | 1, _ => exact c17 | 2, _ => exact c20 | j + 3, hj => exact absurd hj (by omega))) rfl ?_
      refine sm_lload 3 rfl d_co_holds_103 ?_
      refine sm_iconst (v := 1) (by decide) d_co_holds_105 ?_
      refine sm_lshl d_co_holds_106 ?_
      refine sm_aload_n 0 rfl d_co_holds_107 ?_
      refine sm_aload_n 2 rfl d_co_holds_108 ?_
      refine sm_getR (n := 1) fl_co_129 e3 rfl d_co_holds_109 ?_
      refine sm_iload 4 rfl d_co_holds_112 ?_
      obtain ⟨c23, hf⟩ := sm_gdE hf
      refine sm_iald (sm_at_arr (sm_inner e3 3 rfl rfl rfl)) c23 d_co_holds_114 ?_
      refine sm_aload_n 2 rfl d_co_holds_115 ?_
      refine sm_getR (n := 2) fl_co_134 e3 rfl d_co_holds_116 ?_
      refine sm_iload 4 rfl d_co_holds_119 ?_
      obtain ⟨c24, hf⟩ := sm_gdE hf
      refine sm_iald (sm_at_arr (sm_inner e3 4 rfl rfl rfl)) c24 d_co_holds_121 ?_
      obtain ⟨r25, g26, c27, hf⟩ := sm_b2E hf
      refine sm_callS (As := [.ref a1, .int (h (a3 + 1) (a6 : Int32).toNatClampNeg), .int (h (a3 + 2) (a6 : Int32).toNatClampNeg)]) (rv := some (.int r25)) (h1 := g26) cvs_co_137 (m_co_testHolds l lo hi _ hS e1 c27) rfl rfl d_co_holds_122 ?_
      refine sm_if_eq 132 d_co_holds_125 rfl (fun c28 => ?_) (fun c28 => ?_)
      · have hf := sm_ifT c28 hf
        refine sm_iconst (v := 0) (by decide) d_co_holds_132 ?_
        refine sm_sub [0, 1, 2, 4] rfl ?_
        exact w_co_holds_L133 l lo hi d hS ih _ _ _ _ _ _ _ e1 e3 hf
      · have hf := sm_ifF c28 hf
        refine sm_iconst (v := 1) (by decide) d_co_holds_128 ?_
        refine sm_goto 133 d_co_holds_129 rfl ?_
        refine sm_sub [0, 1, 2, 4] rfl ?_
        exact w_co_holds_L133 l lo hi d hS ih _ _ _ _ _ _ _ e1 e3 hf
theorem m_co_holds (l : Launch) (lo hi d : Nat) (hS : sm_has lo hi) {a0 : Nat} {a1 : Nat} {a2 : Int32} {r0 : Int32} {h h' : sm_H} (e0 : sm_at lo hi (0, 1, 0) a0) (e1 : sm_at lo hi (0, 7, 0) a1) (hf : f_co_holds a0 a1 a2 h = some (r0, h')) : sm_Met l lo hi (d + 2) q_co_holds [.ref a0, .ref a1, .int a2] h (some (.int r0)) h' := by
  refine sm_Met.of (by decide +kernel) rfl ?_
  show sm_W l lo hi (d + 2) q_co_holds 0 [(0, .ref a0), (1, .ref a1), (2, .int a2)] [] h (some (.int r0)) h'
  unfold f_co_holds at hf
  refine sm_aload_n 1 rfl d_co_holds_0 ?_
  obtain ⟨c1, hf⟩ := sm_gdE hf
  obtain ⟨z2, v3⟩ := sm_isP_at hS c1
  refine sm_getD fl_co_21 e1 rfl z2 d_co_holds_1 ?_
  refine sm_nmR (fun p4 w5 => ?_)
  have hf := sm_letV w5 hf
  have v3 := sm_ev w5 v3
  refine sm_getR (n := 9) fl_co_80 v3 rfl d_co_holds_4 ?_
  refine sm_astore_n (lv' := [(3, .ref (p4 + 9)), (0, .ref a0), (1, .ref a1), (2, .int a2)]) d_co_holds_7 rfl rfl ?_
  refine sm_lconst (v := 0) (by decide) d_co_holds_8 ?_
  refine sm_lstore (lv' := [(4, .long 0), (3, .ref (p4 + 9)), (0, .ref a0), (1, .ref a1), (2, .int a2)]) d_co_holds_9 rfl rfl ?_
  refine sm_aload_n 1 rfl d_co_holds_11 ?_
  refine sm_iload_n 4 rfl d_co_holds_12 ?_
  obtain ⟨r6, g7, c8, hf⟩ := sm_b2E hf
  refine sm_callV (As := [.int a2]) (rv := some (.int r6)) (h1 := g7) (c := 6) cvv_co_123 rfl rfl (sm_inner v3 15 rfl rfl rfl) (m_ru_codeStart l lo hi _ (sm_inner v3 15 rfl rfl rfl) c8) rfl rfl d_co_holds_13 ?_
  refine sm_istore (lv' := [(6, .int r6), (4, .long 0), (3, .ref (p4 + 9)), (0, .ref a0), (1, .ref a1), (2, .int a2)]) d_co_holds_16 rfl rfl ?_
  refine sm_sub [4, 5, 2, 1, 0] rfl ?_
  exact w_co_holds_L18 l lo hi d hS sm_N _ _ _ _ _ _ e1 (sm_inner v3 15 rfl rfl rfl) hf
theorem d_ru_actionStart_0 : decode q_ru_actionStart.2.1 0 = .ok (.iload_n 1, 1) := by decide +kernel
theorem d_ru_actionStart_1 : decode q_ru_actionStart.2.1 1 = .ok (.ifCond .le 14, 3) := by decide +kernel
theorem d_ru_actionStart_4 : decode q_ru_actionStart.2.1 4 = .ok (.aload_n 0, 1) := by decide +kernel
theorem d_ru_actionStart_5 : decode q_ru_actionStart.2.1 5 = .ok (.getfield 27, 3) := by decide +kernel
theorem d_ru_actionStart_8 : decode q_ru_actionStart.2.1 8 = .ok (.iload_n 1, 1) := by decide +kernel
theorem d_ru_actionStart_9 : decode q_ru_actionStart.2.1 9 = .ok (.iconst 1, 1) := by decide +kernel
theorem d_ru_actionStart_10 : decode q_ru_actionStart.2.1 10 = .ok (.isub, 1) := by decide +kernel
theorem d_ru_actionStart_11 : decode q_ru_actionStart.2.1 11 = .ok (.iaload, 1) := by decide +kernel
theorem d_ru_actionStart_12 : decode q_ru_actionStart.2.1 12 = .ok (.goto 4, 3) := by decide +kernel
theorem d_ru_actionStart_15 : decode q_ru_actionStart.2.1 15 = .ok (.iconst 0, 1) := by decide +kernel
theorem d_ru_actionStart_16 : decode q_ru_actionStart.2.1 16 = .ok (.ireturn, 1) := by decide +kernel
theorem w_ru_actionStart_L16 (l : Launch) (lo hi d : Nat) {h' : sm_H} {r0 : Int32} (s0 : Int32) (h : sm_H) (hf : f_ru_actionStart_L16 s0 h = some (r0, h')) : sm_W l lo hi (d) q_ru_actionStart 16 [] [.int s0] h (some (.int r0)) h' := by
  unfold f_ru_actionStart_L16 at hf
  obtain ⟨rfl, rfl⟩ := sm_ret2 hf
  exact sm_iret d_ru_actionStart_16 rfl
theorem m_ru_actionStart (l : Launch) (lo hi d : Nat) {a0 : Nat} {a1 : Int32} {r0 : Int32} {h h' : sm_H} (e0 : sm_at lo hi (0, 6, 0) a0) (hf : f_ru_actionStart a0 a1 h = some (r0, h')) : sm_Met l lo hi (d) q_ru_actionStart [.ref a0, .int a1] h (some (.int r0)) h' := by
  refine sm_Met.of (by decide +kernel) rfl ?_
  show sm_W l lo hi (d) q_ru_actionStart 0 [(0, .ref a0), (1, .int a1)] [] h (some (.int r0)) h'
  unfold f_ru_actionStart at hf
  refine sm_iload_n 1 rfl d_ru_actionStart_0 ?_
  refine sm_if_le 15 d_ru_actionStart_1 rfl (fun c1 => ?_) (fun c1 => ?_)
  · have hf := sm_ifT c1 hf
    refine sm_iconst (v := 0) (by decide) d_ru_actionStart_15 ?_
    refine sm_sub [] rfl ?_
    exact w_ru_actionStart_L16 l lo hi d _ _ hf
  · have hf := sm_ifF c1 hf
    refine sm_aload_n 0 rfl d_ru_actionStart_4 ?_
    refine sm_getR (n := 6) fl_ru_27 e0 rfl d_ru_actionStart_5 ?_
    refine sm_iload_n 1 rfl d_ru_actionStart_8 ?_
    refine sm_iconst (v := 1) (by decide) d_ru_actionStart_9 ?_
    refine sm_isub d_ru_actionStart_10 ?_
    obtain ⟨c2, hf⟩ := sm_gdE hf
    refine sm_iald (sm_at_arr (sm_inner e0 8 rfl rfl rfl)) c2 d_ru_actionStart_11 ?_
    refine sm_goto 16 d_ru_actionStart_12 rfl ?_
    refine sm_sub [] rfl ?_
    exact w_ru_actionStart_L16 l lo hi d _ _ hf
theorem d_co_followRules_0 : decode q_co_followRules.2.1 0 = .ok (.aload_n 0, 1) := by decide +kernel
theorem d_co_followRules_1 : decode q_co_followRules.2.1 1 = .ok (.getfield 9, 3) := by decide +kernel
theorem d_co_followRules_4 : decode q_co_followRules.2.1 4 = .ok (.iconst 0, 1) := by decide +kernel
theorem d_co_followRules_5 : decode q_co_followRules.2.1 5 = .ok (.invokestatic 65, 3) := by decide +kernel
theorem d_co_followRules_8 : decode q_co_followRules.2.1 8 = .ok (.aload_n 1, 1) := by decide +kernel
theorem d_co_followRules_9 : decode q_co_followRules.2.1 9 = .ok (.getfield 71, 3) := by decide +kernel
theorem d_co_followRules_12 : decode q_co_followRules.2.1 12 = .ok (.getfield 75, 3) := by decide +kernel
theorem d_co_followRules_15 : decode q_co_followRules.2.1 15 = .ok (.ifCond .ne 4, 3) := by decide +kernel
theorem d_co_followRules_18 : decode q_co_followRules.2.1 18 = .ok (.return_, 1) := by decide +kernel
theorem d_co_followRules_19 : decode q_co_followRules.2.1 19 = .ok (.aload_n 1, 1) := by decide +kernel
theorem d_co_followRules_20 : decode q_co_followRules.2.1 20 = .ok (.getfield 21, 3) := by decide +kernel
theorem d_co_followRules_23 : decode q_co_followRules.2.1 23 = .ok (.getfield 80, 3) := by decide +kernel
theorem d_co_followRules_26 : decode q_co_followRules.2.1 26 = .ok (.astore_n 2, 1) := by decide +kernel
theorem d_co_followRules_27 : decode q_co_followRules.2.1 27 = .ok (.iconst 0, 1) := by decide +kernel
theorem d_co_followRules_28 : decode q_co_followRules.2.1 28 = .ok (.istore_n 3, 1) := by decide +kernel
theorem d_co_followRules_29 : decode q_co_followRules.2.1 29 = .ok (.iload_n 3, 1) := by decide +kernel
theorem d_co_followRules_30 : decode q_co_followRules.2.1 30 = .ok (.aload_n 2, 1) := by decide +kernel
theorem d_co_followRules_31 : decode q_co_followRules.2.1 31 = .ok (.getfield 84, 3) := by decide +kernel
theorem d_co_followRules_34 : decode q_co_followRules.2.1 34 = .ok (.if_icmp .ge 64, 3) := by decide +kernel
theorem d_co_followRules_37 : decode q_co_followRules.2.1 37 = .ok (.aload_n 0, 1) := by decide +kernel
theorem d_co_followRules_38 : decode q_co_followRules.2.1 38 = .ok (.aload_n 1, 1) := by decide +kernel
theorem d_co_followRules_39 : decode q_co_followRules.2.1 39 = .ok (.iload_n 3, 1) := by decide +kernel
theorem d_co_followRules_40 : decode q_co_followRules.2.1 40 = .ok (.invokevirtual 88, 3) := by decide +kernel
theorem d_co_followRules_43 : decode q_co_followRules.2.1 43 = .ok (.ifCond .eq 49, 3) := by decide +kernel
theorem d_co_followRules_46 : decode q_co_followRules.2.1 46 = .ok (.aload_n 2, 1) := by decide +kernel
theorem d_co_followRules_47 : decode q_co_followRules.2.1 47 = .ok (.iload_n 3, 1) := by decide +kernel
theorem d_co_followRules_48 : decode q_co_followRules.2.1 48 = .ok (.invokevirtual 92, 3) := by decide +kernel
theorem d_co_followRules_51 : decode q_co_followRules.2.1 51 = .ok (.istore 4, 2) := by decide +kernel
theorem d_co_followRules_53 : decode q_co_followRules.2.1 53 = .ok (.iload 4, 2) := by decide +kernel
theorem d_co_followRules_55 : decode q_co_followRules.2.1 55 = .ok (.aload_n 2, 1) := by decide +kernel
theorem d_co_followRules_56 : decode q_co_followRules.2.1 56 = .ok (.getfield 96, 3) := by decide +kernel
theorem d_co_followRules_59 : decode q_co_followRules.2.1 59 = .ok (.iload_n 3, 1) := by decide +kernel
theorem d_co_followRules_60 : decode q_co_followRules.2.1 60 = .ok (.iaload, 1) := by decide +kernel
theorem d_co_followRules_61 : decode q_co_followRules.2.1 61 = .ok (.if_icmp .ge 31, 3) := by decide +kernel
theorem d_co_followRules_64 : decode q_co_followRules.2.1 64 = .ok (.aload_n 0, 1) := by decide +kernel
theorem d_co_followRules_65 : decode q_co_followRules.2.1 65 = .ok (.aload_n 1, 1) := by decide +kernel
theorem d_co_followRules_66 : decode q_co_followRules.2.1 66 = .ok (.getfield 21, 3) := by decide +kernel
theorem d_co_followRules_69 : decode q_co_followRules.2.1 69 = .ok (.aload_n 2, 1) := by decide +kernel
theorem d_co_followRules_70 : decode q_co_followRules.2.1 70 = .ok (.getfield 99, 3) := by decide +kernel
theorem d_co_followRules_73 : decode q_co_followRules.2.1 73 = .ok (.iload 4, 2) := by decide +kernel
theorem d_co_followRules_75 : decode q_co_followRules.2.1 75 = .ok (.iaload, 1) := by decide +kernel
theorem d_co_followRules_76 : decode q_co_followRules.2.1 76 = .ok (.aload_n 2, 1) := by decide +kernel
theorem d_co_followRules_77 : decode q_co_followRules.2.1 77 = .ok (.getfield 102, 3) := by decide +kernel
theorem d_co_followRules_80 : decode q_co_followRules.2.1 80 = .ok (.iload 4, 2) := by decide +kernel
theorem d_co_followRules_82 : decode q_co_followRules.2.1 82 = .ok (.iaload, 1) := by decide +kernel
theorem d_co_followRules_83 : decode q_co_followRules.2.1 83 = .ok (.invokevirtual 105, 3) := by decide +kernel
theorem d_co_followRules_86 : decode q_co_followRules.2.1 86 = .ok (.iinc 4 1, 3) := by decide +kernel
theorem d_co_followRules_89 : decode q_co_followRules.2.1 89 = .ok (.goto (-36), 3) := by decide +kernel
theorem d_co_followRules_92 : decode q_co_followRules.2.1 92 = .ok (.iinc 3 1, 3) := by decide +kernel
theorem d_co_followRules_95 : decode q_co_followRules.2.1 95 = .ok (.goto (-66), 3) := by decide +kernel
theorem d_co_followRules_98 : decode q_co_followRules.2.1 98 = .ok (.return_, 1) := by decide +kernel
theorem w_co_followRules_L92 (l : Launch) (lo hi d : Nat) (hS : sm_has lo hi) {k29 : Nat → Nat → Nat → Int32 → sm_H → Option sm_H} {h' : sm_H} (hk29 : ∀ (a0 : Nat) (a1 : Nat) (a2 : Nat) (a3 : Int32) (h : sm_H) (_ : sm_at lo hi (0, 1, 0) a0) (_ : sm_at lo hi (0, 7, 0) a1) (_ : sm_at lo hi (0, 6, 0) a2) , k29 a0 a1 a2 a3 h = some h' → sm_W l lo hi (d + 3) q_co_followRules 29 [(0, .ref a0), (1, .ref a1), (2, .ref a2), (3, .int a3)] [] h none h') (a0 : Nat) (a1 : Nat) (a2 : Nat) (a3 : Int32) (h : sm_H) (e0 : sm_at lo hi (0, 1, 0) a0) (e1 : sm_at lo hi (0, 7, 0) a1) (e2 : sm_at lo hi (0, 6, 0) a2) (hf : f_co_followRules_L92 k29 a0 a1 a2 a3 h = some h') : sm_W l lo hi (d + 3) q_co_followRules 92 [(0, .ref a0), (1, .ref a1), (2, .ref a2), (3, .int a3)] [] h none h' := by
  unfold f_co_followRules_L92 at hf
  obtain ⟨x30, w31⟩ : ∃ v : Int32, v = a3 + 1 := ⟨_, rfl⟩
  have hf := sm_letV w31 hf
  refine sm_iinc (v := x30) (lv' := [(3, .int x30), (0, .ref a0), (1, .ref a1), (2, .ref a2)]) 3 rfl (by rw [w31]; rfl) d_co_followRules_92 rfl rfl ?_
  refine sm_goto 29 d_co_followRules_95 rfl ?_
  refine sm_sub [1, 2, 3, 0] rfl ?_
  exact hk29 _ _ _ _ _ e0 e1 e2 hf
theorem w_co_followRules_L53 (l : Launch) (lo hi d : Nat) (hS : sm_has lo hi) {k29 : Nat → Nat → Nat → Int32 → sm_H → Option sm_H} {h' : sm_H} (hk29 : ∀ (a0 : Nat) (a1 : Nat) (a2 : Nat) (a3 : Int32) (h : sm_H) (_ : sm_at lo hi (0, 1, 0) a0) (_ : sm_at lo hi (0, 7, 0) a1) (_ : sm_at lo hi (0, 6, 0) a2) , k29 a0 a1 a2 a3 h = some h' → sm_W l lo hi (d + 3) q_co_followRules 29 [(0, .ref a0), (1, .ref a1), (2, .ref a2), (3, .int a3)] [] h none h') : ∀ (n : Nat) (a0 : Nat) (a1 : Nat) (a2 : Nat) (a3 : Int32) (a4 : Int32) (h : sm_H) (e0 : sm_at lo hi (0, 1, 0) a0) (e1 : sm_at lo hi (0, 7, 0) a1) (e2 : sm_at lo hi (0, 6, 0) a2) (hf : f_co_followRules_L53 k29 n a0 a1 a2 a3 a4 h = some h'), sm_W l lo hi (d + 3) q_co_followRules 53 [(0, .ref a0), (1, .ref a1), (2, .ref a2), (3, .int a3), (4, .int a4)] [] h none h' := by
  intro n
  induction n with
  | zero =>
    intro a0 a1 a2 a3 a4 h e0 e1 e2 hf
    have z : (none : Option sm_H) = some _ := hf
    cases z
  | succ n ih =>
    intro a0 a1 a2 a3 a4 h e0 e1 e2 hf
    unfold f_co_followRules_L53 at hf
    refine sm_iload 4 rfl d_co_followRules_53 ?_
    refine sm_aload_n 2 rfl d_co_followRules_55 ?_
    refine sm_getR (n := 6) fl_co_96 e2 rfl d_co_followRules_56 ?_
    refine sm_iload_n 3 rfl d_co_followRules_59 ?_
    obtain ⟨c17, hf⟩ := sm_gdE hf
    refine sm_iald (sm_at_arr (sm_inner e2 8 rfl rfl rfl)) c17 d_co_followRules_60 ?_
    refine sm_icmp_ge 92 d_co_followRules_61 rfl (fun c18 => ?_) (fun c18 => ?_)
    · have hf := sm_ifT c18 hf
      refine sm_sub [0, 1, 2, 3] rfl ?_
      exact w_co_followRules_L92 l lo hi d hS hk29 _ _ _ _ _ e0 e1 e2 hf
    · have hf := sm_ifF c18 hf
      refine sm_aload_n 0 rfl d_co_followRules_64 ?_
      refine sm_aload_n 1 rfl d_co_followRules_65 ?_
      obtain ⟨c19, hf⟩ := sm_gdE hf
      obtain ⟨z20, v21⟩ := sm_isP_at hS c19
      refine sm_getD fl_co_21 e1 rfl z20 d_co_followRules_66 ?_
      refine sm_nmR (fun p22 w23 => ?_)
      have hf := sm_letV w23 hf
      have v21 := sm_ev w23 v21
      refine sm_aload_n 2 rfl d_co_followRules_69 ?_
      refine sm_getR (n := 4) fl_co_99 e2 rfl d_co_followRules_70 ?_
      refine sm_iload 4 rfl d_co_followRules_73 ?_
      obtain ⟨c24, hf⟩ := sm_gdE hf
      refine sm_iald (sm_at_arr (sm_inner e2 6 rfl rfl rfl)) c24 d_co_followRules_75 ?_
      refine sm_aload_n 2 rfl d_co_followRules_76 ?_
      refine sm_getR (n := 5) fl_co_102 e2 rfl d_co_followRules_77 ?_
      refine sm_iload 4 rfl d_co_followRules_80 ?_
      obtain ⟨c25, hf⟩ := sm_gdE hf
      refine sm_iald (sm_at_arr (sm_inner e2 7 rfl rfl rfl)) c25 d_co_followRules_82 ?_
      obtain ⟨g26, c27, hf⟩ := sm_bindE hf
      refine sm_callV (As := [.ref p22, .int (h (a2 + 4) (a4 : Int32).toNatClampNeg), .int (h (a2 + 5) (a4 : Int32).toNatClampNeg)]) (rv := none) (h1 := g26) (c := 1) cvv_co_105 rfl rfl e0 (m_co_act l lo hi _ e0 v21 c27) rfl rfl d_co_followRules_83 ?_
      obtain ⟨x28, w29⟩ : ∃ v : Int32, v = a4 + 1 := ⟨_, rfl⟩
      have hf := sm_letV w29 hf
      refine sm_iinc (v := x28) (lv' := [(4, .int x28), (0, .ref a0), (1, .ref a1), (2, .ref a2), (3, .int a3)]) 4 rfl (by rw [w29]; rfl) d_co_followRules_86 rfl rfl ?_
      refine sm_goto 53 d_co_followRules_89 rfl ?_
      refine sm_sub [1, 2, 3, 4, 0] rfl ?_
      exact ih _ _ _ _ _ _ e0 e1 e2 hf
theorem w_co_followRules_L29 (l : Launch) (lo hi d : Nat) (hS : sm_has lo hi) {h' : sm_H} : ∀ (n : Nat) (a0 : Nat) (a1 : Nat) (a2 : Nat) (a3 : Int32) (h : sm_H) (e0 : sm_at lo hi (0, 1, 0) a0) (e1 : sm_at lo hi (0, 7, 0) a1) (e2 : sm_at lo hi (0, 6, 0) a2) (hf : f_co_followRules_L29 n a0 a1 a2 a3 h = some h'), sm_W l lo hi (d + 3) q_co_followRules 29 [(0, .ref a0), (1, .ref a1), (2, .ref a2), (3, .int a3)] [] h none h' := by
  intro n
  induction n with
  | zero =>
    intro a0 a1 a2 a3 h e0 e1 e2 hf
    have z : (none : Option sm_H) = some _ := hf
    cases z
  | succ n ih =>
    intro a0 a1 a2 a3 h e0 e1 e2 hf
    unfold f_co_followRules_L29 at hf
    refine sm_iload_n 3 rfl d_co_followRules_29 ?_
    refine sm_aload_n 2 rfl d_co_followRules_30 ?_
    refine sm_getI fl_co_84 e2 rfl d_co_followRules_31 ?_
    refine sm_icmp_ge 98 d_co_followRules_34 rfl (fun c9 => ?_) (fun c9 => ?_)
    · have hf := sm_ifT c9 hf
      obtain rfl := sm_ret1 hf
      exact sm_vret d_co_followRules_98 rfl
    · have hf := sm_ifF c9 hf
      refine sm_aload_n 0 rfl d_co_followRules_37 ?_
      refine sm_aload_n 1 rfl d_co_followRules_38 ?_
      refine sm_iload_n 3 rfl d_co_followRules_39 ?_
      obtain ⟨r10, g11, c12, hf⟩ := sm_b2E hf
      refine sm_callV (As := [.ref a1, .int a3]) (rv := some (.int r10)) (h1 := g11) (c := 1) cvv_co_88 rfl rfl e0 (m_co_holds l lo hi _ hS e0 e1 c12) rfl rfl d_co_followRules_40 ?_
      refine sm_if_eq 92 d_co_followRules_43 rfl (fun c13 => ?_) (fun c13 => ?_)
      · have hf := sm_ifT c13 hf
        exact w_co_followRules_L92 l lo hi d hS ih _ _ _ _ _ e0 e1 e2 hf
      · have hf := sm_ifF c13 hf
        refine sm_aload_n 2 rfl d_co_followRules_46 ?_
        refine sm_iload_n 3 rfl d_co_followRules_47 ?_
        obtain ⟨r14, g15, c16, hf⟩ := sm_b2E hf
        refine sm_callV (As := [.int a3]) (rv := some (.int r14)) (h1 := g15) (c := 6) cvv_co_92 rfl rfl e2 (m_ru_actionStart l lo hi _ e2 c16) rfl rfl d_co_followRules_48 ?_
        refine sm_istore (lv' := [(4, .int r14), (0, .ref a0), (1, .ref a1), (2, .ref a2), (3, .int a3)]) d_co_followRules_51 rfl rfl ?_
        refine sm_sub [1, 2, 3, 4, 0] rfl ?_
        exact w_co_followRules_L53 l lo hi d hS ih sm_N _ _ _ _ _ _ e0 e1 e2 hf
theorem m_co_followRules (l : Launch) (lo hi d : Nat) (hS : sm_has lo hi) {a0 : Nat} {a1 : Nat} {h h' : sm_H} (e0 : sm_at lo hi (0, 1, 0) a0) (e1 : sm_at lo hi (0, 7, 0) a1) (hf : f_co_followRules a0 a1 h = some h') : sm_Met l lo hi (d + 3) q_co_followRules [.ref a0, .ref a1] h none h' := by
  refine sm_Met.of (by decide +kernel) rfl ?_
  show sm_W l lo hi (d + 3) q_co_followRules 0 [(0, .ref a0), (1, .ref a1)] [] h none h'
  unfold f_co_followRules at hf
  refine sm_aload_n 0 rfl d_co_followRules_0 ?_
  refine sm_getR (n := 1) fl_co_9 e0 rfl d_co_followRules_1 ?_
  refine sm_iconst (v := 0) (by decide) d_co_followRules_4 ?_
  obtain ⟨g1, c2, hf⟩ := sm_bindE hf
  refine sm_callS (As := [.ref (a0 + 1), .int 0]) (rv := none) (h1 := g1) cvs_co_65 (m_ja_fill l lo hi _ (sm_arr_self (sm_at_arr (sm_inner e0 0 rfl rfl rfl))) c2) rfl rfl d_co_followRules_5 ?_
  refine sm_aload_n 1 rfl d_co_followRules_8 ?_
  refine sm_getR (n := 8) fl_co_71 e1 rfl d_co_followRules_9 ?_
  refine sm_getI fl_co_75 (sm_inner e1 16 rfl rfl rfl) rfl d_co_followRules_12 ?_
  refine sm_if_ne 19 d_co_followRules_15 rfl (fun c3 => ?_) (fun c3 => ?_)
  · have hf := sm_ifF c3 hf
    refine sm_aload_n 1 rfl d_co_followRules_19 ?_
    obtain ⟨c4, hf⟩ := sm_gdE hf
    obtain ⟨z5, v6⟩ := sm_isP_at hS c4
    refine sm_getD fl_co_21 e1 rfl z5 d_co_followRules_20 ?_
    refine sm_nmR (fun p7 w8 => ?_)
    have hf := sm_letV w8 hf
    have v6 := sm_ev w8 v6
    refine sm_getR (n := 9) fl_co_80 v6 rfl d_co_followRules_23 ?_
    refine sm_astore_n (lv' := [(2, .ref (p7 + 9)), (0, .ref a0), (1, .ref a1)]) d_co_followRules_26 rfl rfl ?_
    refine sm_iconst (v := 0) (by decide) d_co_followRules_27 ?_
    refine sm_istore_n (lv' := [(3, .int 0), (2, .ref (p7 + 9)), (0, .ref a0), (1, .ref a1)]) d_co_followRules_28 rfl rfl ?_
    refine sm_sub [2, 3, 1, 0] rfl ?_
    exact w_co_followRules_L29 l lo hi d hS sm_N _ _ _ _ _ e0 e1 (sm_inner v6 15 rfl rfl rfl) hf
  · have hf := sm_ifT c3 hf
    obtain rfl := sm_ret1 hf
    exact sm_vret d_co_followRules_18 rfl
theorem d_co_give_0 : decode q_co_give.2.1 0 = .ok (.aload_n 0, 1) := by decide +kernel
theorem d_co_give_1 : decode q_co_give.2.1 1 = .ok (.getfield 15, 3) := by decide +kernel
theorem d_co_give_4 : decode q_co_give.2.1 4 = .ok (.iload_n 1, 1) := by decide +kernel
theorem d_co_give_5 : decode q_co_give.2.1 5 = .ok (.iload_n 2, 1) := by decide +kernel
theorem d_co_give_6 : decode q_co_give.2.1 6 = .ok (.iastore, 1) := by decide +kernel
theorem d_co_give_7 : decode q_co_give.2.1 7 = .ok (.aload_n 0, 1) := by decide +kernel
theorem d_co_give_8 : decode q_co_give.2.1 8 = .ok (.getfield 18, 3) := by decide +kernel
theorem d_co_give_11 : decode q_co_give.2.1 11 = .ok (.iload_n 1, 1) := by decide +kernel
theorem d_co_give_12 : decode q_co_give.2.1 12 = .ok (.iload_n 3, 1) := by decide +kernel
theorem d_co_give_13 : decode q_co_give.2.1 13 = .ok (.iastore, 1) := by decide +kernel
theorem d_co_give_14 : decode q_co_give.2.1 14 = .ok (.return_, 1) := by decide +kernel
theorem m_co_give (l : Launch) (lo hi d : Nat) {a0 : Nat} {a1 : Int32} {a2 : Int32} {a3 : Int32} {h h' : sm_H} (e0 : sm_at lo hi (0, 1, 0) a0) (hf : f_co_give a0 a1 a2 a3 h = some h') : sm_Met l lo hi (d) q_co_give [.ref a0, .int a1, .int a2, .int a3] h none h' := by
  refine sm_Met.of (by decide +kernel) rfl ?_
  show sm_W l lo hi (d) q_co_give 0 [(0, .ref a0), (1, .int a1), (2, .int a2), (3, .int a3)] [] h none h'
  unfold f_co_give at hf
  refine sm_aload_n 0 rfl d_co_give_0 ?_
  refine sm_getR (n := 2) fl_co_15 e0 rfl d_co_give_1 ?_
  refine sm_iload_n 1 rfl d_co_give_4 ?_
  refine sm_iload_n 2 rfl d_co_give_5 ?_
  obtain ⟨c1, hf⟩ := sm_gdE hf
  refine sm_iast (sm_at_arr (sm_inner e0 1 rfl rfl rfl)) c1 d_co_give_6 ?_
  refine sm_nmH (fun g2 w3 => ?_)
  have hf := sm_letV w3 hf
  refine sm_aload_n 0 rfl d_co_give_7 ?_
  refine sm_getR (n := 3) fl_co_18 e0 rfl d_co_give_8 ?_
  refine sm_iload_n 1 rfl d_co_give_11 ?_
  refine sm_iload_n 3 rfl d_co_give_12 ?_
  obtain ⟨c4, hf⟩ := sm_gdE hf
  refine sm_iast (sm_at_arr (sm_inner e0 2 rfl rfl rfl)) c4 d_co_give_13 ?_
  refine sm_nmH (fun g5 w6 => ?_)
  have hf := sm_letV w6 hf
  obtain rfl := sm_ret1 hf
  exact sm_vret d_co_give_14 rfl
theorem d_co_settle_0 : decode q_co_settle.2.1 0 = .ok (.aload_n 1, 1) := by decide +kernel
theorem d_co_settle_1 : decode q_co_settle.2.1 1 = .ok (.getfield 51, 3) := by decide +kernel
theorem d_co_settle_4 : decode q_co_settle.2.1 4 = .ok (.ifCond .eq 27, 3) := by decide +kernel
theorem d_co_settle_7 : decode q_co_settle.2.1 7 = .ok (.aload_n 1, 1) := by decide +kernel
theorem d_co_settle_8 : decode q_co_settle.2.1 8 = .ok (.getfield 55, 3) := by decide +kernel
theorem d_co_settle_11 : decode q_co_settle.2.1 11 = .ok (.iload_n 2, 1) := by decide +kernel
theorem d_co_settle_12 : decode q_co_settle.2.1 12 = .ok (.iaload, 1) := by decide +kernel
theorem d_co_settle_13 : decode q_co_settle.2.1 13 = .ok (.ifCond .eq 18, 3) := by decide +kernel
theorem d_co_settle_16 : decode q_co_settle.2.1 16 = .ok (.aload_n 0, 1) := by decide +kernel
theorem d_co_settle_17 : decode q_co_settle.2.1 17 = .ok (.iload_n 2, 1) := by decide +kernel
theorem d_co_settle_18 : decode q_co_settle.2.1 18 = .ok (.aload_n 1, 1) := by decide +kernel
theorem d_co_settle_19 : decode q_co_settle.2.1 19 = .ok (.getfield 55, 3) := by decide +kernel
theorem d_co_settle_22 : decode q_co_settle.2.1 22 = .ok (.iload_n 2, 1) := by decide +kernel
theorem d_co_settle_23 : decode q_co_settle.2.1 23 = .ok (.iaload, 1) := by decide +kernel
theorem d_co_settle_24 : decode q_co_settle.2.1 24 = .ok (.iconst 3, 1) := by decide +kernel
theorem d_co_settle_25 : decode q_co_settle.2.1 25 = .ok (.invokevirtual 58, 3) := by decide +kernel
theorem d_co_settle_28 : decode q_co_settle.2.1 28 = .ok (.goto 58, 3) := by decide +kernel
theorem d_co_settle_31 : decode q_co_settle.2.1 31 = .ok (.aload_n 0, 1) := by decide +kernel
theorem d_co_settle_32 : decode q_co_settle.2.1 32 = .ok (.getfield 9, 3) := by decide +kernel
theorem d_co_settle_35 : decode q_co_settle.2.1 35 = .ok (.iload_n 2, 1) := by decide +kernel
theorem d_co_settle_36 : decode q_co_settle.2.1 36 = .ok (.iaload, 1) := by decide +kernel
theorem d_co_settle_37 : decode q_co_settle.2.1 37 = .ok (.ifCond .eq 18, 3) := by decide +kernel
theorem d_co_settle_40 : decode q_co_settle.2.1 40 = .ok (.aload_n 0, 1) := by decide +kernel
theorem d_co_settle_41 : decode q_co_settle.2.1 41 = .ok (.iload_n 2, 1) := by decide +kernel
theorem d_co_settle_42 : decode q_co_settle.2.1 42 = .ok (.aload_n 0, 1) := by decide +kernel
theorem d_co_settle_43 : decode q_co_settle.2.1 43 = .ok (.getfield 9, 3) := by decide +kernel
theorem d_co_settle_46 : decode q_co_settle.2.1 46 = .ok (.iload_n 2, 1) := by decide +kernel
theorem d_co_settle_47 : decode q_co_settle.2.1 47 = .ok (.iaload, 1) := by decide +kernel
theorem d_co_settle_48 : decode q_co_settle.2.1 48 = .ok (.iconst 2, 1) := by decide +kernel
theorem d_co_settle_49 : decode q_co_settle.2.1 49 = .ok (.invokevirtual 58, 3) := by decide +kernel
theorem d_co_settle_52 : decode q_co_settle.2.1 52 = .ok (.goto 34, 3) := by decide +kernel
theorem d_co_settle_55 : decode q_co_settle.2.1 55 = .ok (.aload_n 1, 1) := by decide +kernel
theorem d_co_settle_56 : decode q_co_settle.2.1 56 = .ok (.getfield 62, 3) := by decide +kernel
theorem d_co_settle_59 : decode q_co_settle.2.1 59 = .ok (.iload_n 2, 1) := by decide +kernel
theorem d_co_settle_60 : decode q_co_settle.2.1 60 = .ok (.iaload, 1) := by decide +kernel
theorem d_co_settle_61 : decode q_co_settle.2.1 61 = .ok (.ifCond .eq 18, 3) := by decide +kernel
theorem d_co_settle_64 : decode q_co_settle.2.1 64 = .ok (.aload_n 0, 1) := by decide +kernel
theorem d_co_settle_65 : decode q_co_settle.2.1 65 = .ok (.iload_n 2, 1) := by decide +kernel
theorem d_co_settle_66 : decode q_co_settle.2.1 66 = .ok (.aload_n 1, 1) := by decide +kernel
theorem d_co_settle_67 : decode q_co_settle.2.1 67 = .ok (.getfield 62, 3) := by decide +kernel
theorem d_co_settle_70 : decode q_co_settle.2.1 70 = .ok (.iload_n 2, 1) := by decide +kernel
theorem d_co_settle_71 : decode q_co_settle.2.1 71 = .ok (.iaload, 1) := by decide +kernel
theorem d_co_settle_72 : decode q_co_settle.2.1 72 = .ok (.iconst 1, 1) := by decide +kernel
theorem d_co_settle_73 : decode q_co_settle.2.1 73 = .ok (.invokevirtual 58, 3) := by decide +kernel
theorem d_co_settle_76 : decode q_co_settle.2.1 76 = .ok (.goto 10, 3) := by decide +kernel
theorem d_co_settle_79 : decode q_co_settle.2.1 79 = .ok (.aload_n 0, 1) := by decide +kernel
theorem d_co_settle_80 : decode q_co_settle.2.1 80 = .ok (.iload_n 2, 1) := by decide +kernel
theorem d_co_settle_81 : decode q_co_settle.2.1 81 = .ok (.iload_n 3, 1) := by decide +kernel
theorem d_co_settle_82 : decode q_co_settle.2.1 82 = .ok (.iconst 0, 1) := by decide +kernel
theorem d_co_settle_83 : decode q_co_settle.2.1 83 = .ok (.invokevirtual 58, 3) := by decide +kernel
theorem d_co_settle_86 : decode q_co_settle.2.1 86 = .ok (.return_, 1) := by decide +kernel
theorem w_co_settle_L31 (l : Launch) (lo hi d : Nat) {h' : sm_H} (a0 : Nat) (a1 : Nat) (a2 : Int32) (a3 : Int32) (h : sm_H) (e0 : sm_at lo hi (0, 1, 0) a0) (e1 : sm_at lo hi (0, 7, 0) a1) (hf : f_co_settle_L31 a0 a1 a2 a3 h = some h') : sm_W l lo hi (d + 1) q_co_settle 31 [(0, .ref a0), (1, .ref a1), (2, .int a2), (3, .int a3)] [] h none h' := by
  unfold f_co_settle_L31 at hf
  refine sm_aload_n 0 rfl d_co_settle_31 ?_
  refine sm_getR (n := 1) fl_co_9 e0 rfl d_co_settle_32 ?_
  refine sm_iload_n 2 rfl d_co_settle_35 ?_
  obtain ⟨c7, hf⟩ := sm_gdE hf
  refine sm_iald (sm_at_arr (sm_inner e0 0 rfl rfl rfl)) c7 d_co_settle_36 ?_
  refine sm_if_eq 55 d_co_settle_37 rfl (fun c8 => ?_) (fun c8 => ?_)
  · have hf := sm_ifT c8 hf
    refine sm_aload_n 1 rfl d_co_settle_55 ?_
    refine sm_getR (n := 5) fl_co_62 e1 rfl d_co_settle_56 ?_
    refine sm_iload_n 2 rfl d_co_settle_59 ?_
    obtain ⟨c9, hf⟩ := sm_gdE hf
    refine sm_iald (sm_at_arr (sm_inner e1 13 rfl rfl rfl)) c9 d_co_settle_60 ?_
    refine sm_if_eq 79 d_co_settle_61 rfl (fun c10 => ?_) (fun c10 => ?_)
    · have hf := sm_ifT c10 hf
      refine sm_aload_n 0 rfl d_co_settle_79 ?_
      refine sm_iload_n 2 rfl d_co_settle_80 ?_
      refine sm_iload_n 3 rfl d_co_settle_81 ?_
      refine sm_iconst (v := 0) (by decide) d_co_settle_82 ?_
      obtain ⟨g11, c12, hf⟩ := sm_bindE hf
      refine sm_callV (As := [.int a2, .int a3, .int 0]) (rv := none) (h1 := g11) (c := 1) cvv_co_58 rfl rfl e0 (m_co_give l lo hi _ e0 c12) rfl rfl d_co_settle_83 ?_
      obtain rfl := sm_ret1 hf
      exact sm_vret d_co_settle_86 rfl
    · have hf := sm_ifF c10 hf
      refine sm_aload_n 0 rfl d_co_settle_64 ?_
      refine sm_iload_n 2 rfl d_co_settle_65 ?_
      refine sm_aload_n 1 rfl d_co_settle_66 ?_
      refine sm_getR (n := 5) fl_co_62 e1 rfl d_co_settle_67 ?_
      refine sm_iload_n 2 rfl d_co_settle_70 ?_
      obtain ⟨c13, hf⟩ := sm_gdE hf
      refine sm_iald (sm_at_arr (sm_inner e1 13 rfl rfl rfl)) c13 d_co_settle_71 ?_
      refine sm_iconst (v := 1) (by decide) d_co_settle_72 ?_
      obtain ⟨g14, c15, hf⟩ := sm_bindE hf
      refine sm_callV (As := [.int a2, .int (h (a1 + 5) (a2 : Int32).toNatClampNeg), .int 1]) (rv := none) (h1 := g14) (c := 1) cvv_co_58 rfl rfl e0 (m_co_give l lo hi _ e0 c15) rfl rfl d_co_settle_73 ?_
      refine sm_goto 86 d_co_settle_76 rfl ?_
      obtain rfl := sm_ret1 hf
      exact sm_vret d_co_settle_86 rfl
  · have hf := sm_ifF c8 hf
    refine sm_aload_n 0 rfl d_co_settle_40 ?_
    refine sm_iload_n 2 rfl d_co_settle_41 ?_
    refine sm_aload_n 0 rfl d_co_settle_42 ?_
    refine sm_getR (n := 1) fl_co_9 e0 rfl d_co_settle_43 ?_
    refine sm_iload_n 2 rfl d_co_settle_46 ?_
    obtain ⟨c16, hf⟩ := sm_gdE hf
    refine sm_iald (sm_at_arr (sm_inner e0 0 rfl rfl rfl)) c16 d_co_settle_47 ?_
    refine sm_iconst (v := 2) (by decide) d_co_settle_48 ?_
    obtain ⟨g17, c18, hf⟩ := sm_bindE hf
    refine sm_callV (As := [.int a2, .int (h (a0 + 1) (a2 : Int32).toNatClampNeg), .int 2]) (rv := none) (h1 := g17) (c := 1) cvv_co_58 rfl rfl e0 (m_co_give l lo hi _ e0 c18) rfl rfl d_co_settle_49 ?_
    refine sm_goto 86 d_co_settle_52 rfl ?_
    obtain rfl := sm_ret1 hf
    exact sm_vret d_co_settle_86 rfl
theorem m_co_settle (l : Launch) (lo hi d : Nat) {a0 : Nat} {a1 : Nat} {a2 : Int32} {a3 : Int32} {h h' : sm_H} (e0 : sm_at lo hi (0, 1, 0) a0) (e1 : sm_at lo hi (0, 7, 0) a1) (hf : f_co_settle a0 a1 a2 a3 h = some h') : sm_Met l lo hi (d + 1) q_co_settle [.ref a0, .ref a1, .int a2, .int a3] h none h' := by
  refine sm_Met.of (by decide +kernel) rfl ?_
  show sm_W l lo hi (d + 1) q_co_settle 0 [(0, .ref a0), (1, .ref a1), (2, .int a2), (3, .int a3)] [] h none h'
  unfold f_co_settle at hf
  refine sm_aload_n 1 rfl d_co_settle_0 ?_
  refine sm_getI fl_co_51 e1 rfl d_co_settle_1 ?_
  refine sm_if_eq 31 d_co_settle_4 rfl (fun c1 => ?_) (fun c1 => ?_)
  · have hf := sm_ifT c1 hf
    exact w_co_settle_L31 l lo hi d _ _ _ _ _ e0 e1 hf
  · have hf := sm_ifF c1 hf
    refine sm_aload_n 1 rfl d_co_settle_7 ?_
    refine sm_getR (n := 4) fl_co_55 e1 rfl d_co_settle_8 ?_
    refine sm_iload_n 2 rfl d_co_settle_11 ?_
    obtain ⟨c2, hf⟩ := sm_gdE hf
    refine sm_iald (sm_at_arr (sm_inner e1 12 rfl rfl rfl)) c2 d_co_settle_12 ?_
    refine sm_if_eq 31 d_co_settle_13 rfl (fun c3 => ?_) (fun c3 => ?_)
    · have hf := sm_ifT c3 hf
      exact w_co_settle_L31 l lo hi d _ _ _ _ _ e0 e1 hf
    · have hf := sm_ifF c3 hf
      refine sm_aload_n 0 rfl d_co_settle_16 ?_
      refine sm_iload_n 2 rfl d_co_settle_17 ?_
      refine sm_aload_n 1 rfl d_co_settle_18 ?_
      refine sm_getR (n := 4) fl_co_55 e1 rfl d_co_settle_19 ?_
      refine sm_iload_n 2 rfl d_co_settle_22 ?_
      obtain ⟨c4, hf⟩ := sm_gdE hf
      refine sm_iald (sm_at_arr (sm_inner e1 12 rfl rfl rfl)) c4 d_co_settle_23 ?_
      refine sm_iconst (v := 3) (by decide) d_co_settle_24 ?_
      obtain ⟨g5, c6, hf⟩ := sm_bindE hf
      refine sm_callV (As := [.int a2, .int (h (a1 + 4) (a2 : Int32).toNatClampNeg), .int 3]) (rv := none) (h1 := g5) (c := 1) cvv_co_58 rfl rfl e0 (m_co_give l lo hi _ e0 c6) rfl rfl d_co_settle_25 ?_
      refine sm_goto 86 d_co_settle_28 rfl ?_
      obtain rfl := sm_ret1 hf
      exact sm_vret d_co_settle_86 rfl
theorem d_co_determine_0 : decode q_co_determine.2.1 0 = .ok (.aload_n 1, 1) := by decide +kernel
theorem d_co_determine_1 : decode q_co_determine.2.1 1 = .ok (.getfield 21, 3) := by decide +kernel
theorem d_co_determine_4 : decode q_co_determine.2.1 4 = .ok (.astore_n 2, 1) := by decide +kernel
theorem d_co_determine_5 : decode q_co_determine.2.1 5 = .ok (.aload_n 0, 1) := by decide +kernel
theorem d_co_determine_6 : decode q_co_determine.2.1 6 = .ok (.aload_n 1, 1) := by decide +kernel
theorem d_co_determine_7 : decode q_co_determine.2.1 7 = .ok (.invokevirtual 27, 3) := by decide +kernel
theorem d_co_determine_10 : decode q_co_determine.2.1 10 = .ok (.iconst 0, 1) := by decide +kernel
theorem d_co_determine_11 : decode q_co_determine.2.1 11 = .ok (.istore_n 3, 1) := by decide +kernel
theorem d_co_determine_12 : decode q_co_determine.2.1 12 = .ok (.iload_n 3, 1) := by decide +kernel
theorem d_co_determine_13 : decode q_co_determine.2.1 13 = .ok (.aload_n 2, 1) := by decide +kernel
theorem d_co_determine_14 : decode q_co_determine.2.1 14 = .ok (.getfield 31, 3) := by decide +kernel
theorem d_co_determine_17 : decode q_co_determine.2.1 17 = .ok (.if_icmp .ge 31, 3) := by decide +kernel
theorem d_co_determine_20 : decode q_co_determine.2.1 20 = .ok (.aload_n 0, 1) := by decide +kernel
theorem d_co_determine_21 : decode q_co_determine.2.1 21 = .ok (.aload_n 1, 1) := by decide +kernel
theorem d_co_determine_22 : decode q_co_determine.2.1 22 = .ok (.iload_n 3, 1) := by decide +kernel
theorem d_co_determine_23 : decode q_co_determine.2.1 23 = .ok (.aload_n 2, 1) := by decide +kernel
theorem d_co_determine_24 : decode q_co_determine.2.1 24 = .ok (.getfield 37, 3) := by decide +kernel
theorem d_co_determine_27 : decode q_co_determine.2.1 27 = .ok (.iload_n 3, 1) := by decide +kernel
theorem d_co_determine_28 : decode q_co_determine.2.1 28 = .ok (.invokestatic 40, 3) := by decide +kernel
theorem d_co_determine_31 : decode q_co_determine.2.1 31 = .ok (.ifCond .eq 7, 3) := by decide +kernel
theorem d_co_determine_34 : decode q_co_determine.2.1 34 = .ok (.iconst 1, 1) := by decide +kernel
theorem d_co_determine_35 : decode q_co_determine.2.1 35 = .ok (.goto 4, 3) := by decide +kernel
theorem d_co_determine_38 : decode q_co_determine.2.1 38 = .ok (.iconst 2, 1) := by decide +kernel
theorem d_co_determine_39 : decode q_co_determine.2.1 39 = .ok (.invokevirtual 44, 3) := by decide +kernel
theorem d_co_determine_42 : decode q_co_determine.2.1 42 = .ok (.iinc 3 1, 3) := by decide +kernel
theorem d_co_determine_45 : decode q_co_determine.2.1 45 = .ok (.goto (-33), 3) := by decide +kernel
theorem d_co_determine_48 : decode q_co_determine.2.1 48 = .ok (.iconst 0, 1) := by decide +kernel
theorem d_co_determine_49 : decode q_co_determine.2.1 49 = .ok (.istore_n 3, 1) := by decide +kernel
theorem d_co_determine_50 : decode q_co_determine.2.1 50 = .ok (.iload_n 3, 1) := by decide +kernel
theorem d_co_determine_51 : decode q_co_determine.2.1 51 = .ok (.aload_n 2, 1) := by decide +kernel
theorem d_co_determine_52 : decode q_co_determine.2.1 52 = .ok (.getfield 48, 3) := by decide +kernel
theorem d_co_determine_55 : decode q_co_determine.2.1 55 = .ok (.if_icmp .ge 19, 3) := by decide +kernel
theorem d_co_determine_58 : decode q_co_determine.2.1 58 = .ok (.aload_n 0, 1) := by decide +kernel
theorem d_co_determine_59 : decode q_co_determine.2.1 59 = .ok (.aload_n 1, 1) := by decide +kernel
theorem d_co_determine_60 : decode q_co_determine.2.1 60 = .ok (.bipush 16, 2) := by decide +kernel
theorem d_co_determine_62 : decode q_co_determine.2.1 62 = .ok (.iload_n 3, 1) := by decide +kernel
theorem d_co_determine_63 : decode q_co_determine.2.1 63 = .ok (.iadd, 1) := by decide +kernel
theorem d_co_determine_64 : decode q_co_determine.2.1 64 = .ok (.iconst 2, 1) := by decide +kernel
theorem d_co_determine_65 : decode q_co_determine.2.1 65 = .ok (.invokevirtual 44, 3) := by decide +kernel
theorem d_co_determine_68 : decode q_co_determine.2.1 68 = .ok (.iinc 3 1, 3) := by decide +kernel
theorem d_co_determine_71 : decode q_co_determine.2.1 71 = .ok (.goto (-21), 3) := by decide +kernel
theorem d_co_determine_74 : decode q_co_determine.2.1 74 = .ok (.return_, 1) := by decide +kernel
theorem w_co_determine_L50 (l : Launch) (lo hi d : Nat) (hS : sm_has lo hi) {h' : sm_H} : ∀ (n : Nat) (a0 : Nat) (a1 : Nat) (a2 : Nat) (a3 : Int32) (h : sm_H) (e0 : sm_at lo hi (0, 1, 0) a0) (e1 : sm_at lo hi (0, 7, 0) a1) (e2 : sm_at lo hi (0, 4, 0) a2) (hf : f_co_determine_L50 n a0 a1 a2 a3 h = some h'), sm_W l lo hi (d + 4) q_co_determine 50 [(0, .ref a0), (1, .ref a1), (2, .ref a2), (3, .int a3)] [] h none h' := by
  intro n
  induction n with
  | zero =>
    intro a0 a1 a2 a3 h e0 e1 e2 hf
    have z : (none : Option sm_H) = some _ := hf
    cases z
  | succ n ih =>
    intro a0 a1 a2 a3 h e0 e1 e2 hf
    unfold f_co_determine_L50 at hf
    refine sm_iload_n 3 rfl d_co_determine_50 ?_
    refine sm_aload_n 2 rfl d_co_determine_51 ?_
    refine sm_getI fl_co_48 e2 rfl d_co_determine_52 ?_
    refine sm_icmp_ge 74 d_co_determine_55 rfl (fun c17 => ?_) (fun c17 => ?_)
    · have hf := sm_ifT c17 hf
      obtain rfl := sm_ret1 hf
      exact sm_vret d_co_determine_74 rfl
    · have hf := sm_ifF c17 hf
      refine sm_aload_n 0 rfl d_co_determine_58 ?_
      refine sm_aload_n 1 rfl d_co_determine_59 ?_
      refine sm_bipush (v := 16) (by decide) d_co_determine_60 ?_
      refine sm_iload_n 3 rfl d_co_determine_62 ?_
      refine sm_iadd d_co_determine_63 ?_
      refine sm_iconst (v := 2) (by decide) d_co_determine_64 ?_
      obtain ⟨g18, c19, hf⟩ := sm_bindE hf
      refine sm_callV (As := [.ref a1, .int (16 + a3), .int 2]) (rv := none) (h1 := g18) (c := 1) cvv_co_44 rfl rfl e0 (m_co_settle l lo hi _ e0 e1 c19) rfl rfl d_co_determine_65 ?_
      obtain ⟨x20, w21⟩ : ∃ v : Int32, v = a3 + 1 := ⟨_, rfl⟩
      have hf := sm_letV w21 hf
      refine sm_iinc (v := x20) (lv' := [(3, .int x20), (0, .ref a0), (1, .ref a1), (2, .ref a2)]) 3 rfl (by rw [w21]; rfl) d_co_determine_68 rfl rfl ?_
      refine sm_goto 50 d_co_determine_71 rfl ?_
      refine sm_sub [1, 2, 3, 0] rfl ?_
      exact ih _ _ _ _ _ e0 e1 e2 hf
theorem w_co_determine_L48 (l : Launch) (lo hi d : Nat) (hS : sm_has lo hi) {h' : sm_H} (a0 : Nat) (a1 : Nat) (a2 : Nat) (h : sm_H) (e0 : sm_at lo hi (0, 1, 0) a0) (e1 : sm_at lo hi (0, 7, 0) a1) (e2 : sm_at lo hi (0, 4, 0) a2) (hf : f_co_determine_L48 a0 a1 a2 h = some h') : sm_W l lo hi (d + 4) q_co_determine 48 [(0, .ref a0), (1, .ref a1), (2, .ref a2)] [] h none h' := by
  unfold f_co_determine_L48 at hf
  refine sm_iconst (v := 0) (by decide) d_co_determine_48 ?_
  refine sm_istore_n (lv' := [(3, .int 0), (0, .ref a0), (1, .ref a1), (2, .ref a2)]) d_co_determine_49 rfl rfl ?_
  refine sm_sub [1, 2, 3, 0] rfl ?_
  exact w_co_determine_L50 l lo hi d hS sm_N _ _ _ _ _ e0 e1 e2 hf
theorem w_co_determine_L39 (l : Launch) (lo hi d : Nat) (hS : sm_has lo hi) {k12 : Nat → Nat → Nat → Int32 → sm_H → Option sm_H} {h' : sm_H} (hk12 : ∀ (a0 : Nat) (a1 : Nat) (a2 : Nat) (a3 : Int32) (h : sm_H) (_ : sm_at lo hi (0, 1, 0) a0) (_ : sm_at lo hi (0, 7, 0) a1) (_ : sm_at lo hi (0, 4, 0) a2) , k12 a0 a1 a2 a3 h = some h' → sm_W l lo hi (d + 4) q_co_determine 12 [(0, .ref a0), (1, .ref a1), (2, .ref a2), (3, .int a3)] [] h none h') (a0 : Nat) (a1 : Nat) (a2 : Nat) (a3 : Int32) (s0 : Int32) (s1 : Int32) (s2 : Nat) (s3 : Nat) (h : sm_H) (e0 : sm_at lo hi (0, 1, 0) a0) (e1 : sm_at lo hi (0, 7, 0) a1) (e2 : sm_at lo hi (0, 4, 0) a2) (t2 : sm_at lo hi (0, 7, 0) s2) (t3 : sm_at lo hi (0, 1, 0) s3) (hf : f_co_determine_L39 k12 a0 a1 a2 a3 s0 s1 s2 s3 h = some h') : sm_W l lo hi (d + 4) q_co_determine 39 [(0, .ref a0), (1, .ref a1), (2, .ref a2), (3, .int a3)] [.int s0, .int s1, .ref s2, .ref s3] h none h' := by
  unfold f_co_determine_L39 at hf
  obtain ⟨g13, c14, hf⟩ := sm_bindE hf
  refine sm_callV (As := [.ref s2, .int s1, .int s0]) (rv := none) (h1 := g13) (c := 1) cvv_co_44 rfl rfl t3 (m_co_settle l lo hi _ t3 t2 c14) rfl rfl d_co_determine_39 ?_
  obtain ⟨x15, w16⟩ : ∃ v : Int32, v = a3 + 1 := ⟨_, rfl⟩
  have hf := sm_letV w16 hf
  refine sm_iinc (v := x15) (lv' := [(3, .int x15), (0, .ref a0), (1, .ref a1), (2, .ref a2)]) 3 rfl (by rw [w16]; rfl) d_co_determine_42 rfl rfl ?_
  refine sm_goto 12 d_co_determine_45 rfl ?_
  refine sm_sub [1, 2, 3, 0] rfl ?_
  exact hk12 _ _ _ _ _ e0 e1 e2 hf
theorem w_co_determine_L12 (l : Launch) (lo hi d : Nat) (hS : sm_has lo hi) {h' : sm_H} : ∀ (n : Nat) (a0 : Nat) (a1 : Nat) (a2 : Nat) (a3 : Int32) (h : sm_H) (e0 : sm_at lo hi (0, 1, 0) a0) (e1 : sm_at lo hi (0, 7, 0) a1) (e2 : sm_at lo hi (0, 4, 0) a2) (hf : f_co_determine_L12 n a0 a1 a2 a3 h = some h'), sm_W l lo hi (d + 4) q_co_determine 12 [(0, .ref a0), (1, .ref a1), (2, .ref a2), (3, .int a3)] [] h none h' := by
  intro n
  induction n with
  | zero =>
    intro a0 a1 a2 a3 h e0 e1 e2 hf
    have z : (none : Option sm_H) = some _ := hf
    cases z
  | succ n ih =>
    intro a0 a1 a2 a3 h e0 e1 e2 hf
    unfold f_co_determine_L12 at hf
    refine sm_iload_n 3 rfl d_co_determine_12 ?_
    refine sm_aload_n 2 rfl d_co_determine_13 ?_
    refine sm_getI fl_co_31 e2 rfl d_co_determine_14 ?_
    refine sm_icmp_ge 48 d_co_determine_17 rfl (fun c8 => ?_) (fun c8 => ?_)
    · have hf := sm_ifT c8 hf
      refine sm_sub [0, 1, 2] rfl ?_
      exact w_co_determine_L48 l lo hi d hS _ _ _ _ e0 e1 e2 hf
    · have hf := sm_ifF c8 hf
      refine sm_aload_n 0 rfl d_co_determine_20 ?_
      refine sm_aload_n 1 rfl d_co_determine_21 ?_
      refine sm_iload_n 3 rfl d_co_determine_22 ?_
      refine sm_aload_n 2 rfl d_co_determine_23 ?_
      refine sm_getI fl_co_37 e2 rfl d_co_determine_24 ?_
      refine sm_iload_n 3 rfl d_co_determine_27 ?_
      obtain ⟨r9, g10, c11, hf⟩ := sm_b2E hf
      refine sm_callN (As := [.int (h a2 6), .int a3]) (rv := some (.int r9)) (h1 := g10) cvn_co_40 (m_sc_has l lo hi _ c11) rfl rfl d_co_determine_28 ?_
      refine sm_if_eq 38 d_co_determine_31 rfl (fun c12 => ?_) (fun c12 => ?_)
      · have hf := sm_ifT c12 hf
        refine sm_iconst (v := 2) (by decide) d_co_determine_38 ?_
        exact w_co_determine_L39 l lo hi d hS ih _ _ _ _ _ _ _ _ _ e0 e1 e2 e1 e0 hf
      · have hf := sm_ifF c12 hf
        refine sm_iconst (v := 1) (by decide) d_co_determine_34 ?_
        refine sm_goto 39 d_co_determine_35 rfl ?_
        exact w_co_determine_L39 l lo hi d hS ih _ _ _ _ _ _ _ _ _ e0 e1 e2 e1 e0 hf
theorem m_co_determine (l : Launch) (lo hi d : Nat) (hS : sm_has lo hi) {a0 : Nat} {a1 : Nat} {h h' : sm_H} (e0 : sm_at lo hi (0, 1, 0) a0) (e1 : sm_at lo hi (0, 7, 0) a1) (hf : f_co_determine a0 a1 h = some h') : sm_Met l lo hi (d + 4) q_co_determine [.ref a0, .ref a1] h none h' := by
  refine sm_Met.of (by decide +kernel) rfl ?_
  show sm_W l lo hi (d + 4) q_co_determine 0 [(0, .ref a0), (1, .ref a1)] [] h none h'
  unfold f_co_determine at hf
  refine sm_aload_n 1 rfl d_co_determine_0 ?_
  obtain ⟨c1, hf⟩ := sm_gdE hf
  obtain ⟨z2, v3⟩ := sm_isP_at hS c1
  refine sm_getD fl_co_21 e1 rfl z2 d_co_determine_1 ?_
  refine sm_nmR (fun p4 w5 => ?_)
  have hf := sm_letV w5 hf
  have v3 := sm_ev w5 v3
  refine sm_astore_n (lv' := [(2, .ref p4), (0, .ref a0), (1, .ref a1)]) d_co_determine_4 rfl rfl ?_
  refine sm_aload_n 1 rfl d_co_determine_5 ?_
  refine sm_aload_n 2 rfl d_co_determine_6 ?_
  obtain ⟨g6, c7, hf⟩ := sm_bindE hf
  refine sm_callV (As := [.ref a1]) (rv := none) (h1 := g6) (c := 1) cvv_co_27 rfl rfl e0 (m_co_followRules l lo hi _ hS e0 e1 c7) rfl rfl d_co_determine_7 ?_
  refine sm_iconst (v := 0) (by decide) d_co_determine_10 ?_
  refine sm_istore_n (lv' := [(3, .int 0), (2, .ref p4), (0, .ref a0), (1, .ref a1)]) d_co_determine_11 rfl rfl ?_
  refine sm_sub [2, 3, 1, 0] rfl ?_
  exact w_co_determine_L12 l lo hi d hS sm_N _ _ _ _ _ e0 e1 v3 hf
theorem d_pl_isStairFan_0 : decode q_pl_isStairFan.2.1 0 = .ok (.aload_n 0, 1) := by decide +kernel
theorem d_pl_isStairFan_1 : decode q_pl_isStairFan.2.1 1 = .ok (.getfield 9, 3) := by decide +kernel
theorem d_pl_isStairFan_4 : decode q_pl_isStairFan.2.1 4 = .ok (.bipush 16, 2) := by decide +kernel
theorem d_pl_isStairFan_6 : decode q_pl_isStairFan.2.1 6 = .ok (.iload_n 1, 1) := by decide +kernel
theorem d_pl_isStairFan_7 : decode q_pl_isStairFan.2.1 7 = .ok (.iadd, 1) := by decide +kernel
theorem d_pl_isStairFan_8 : decode q_pl_isStairFan.2.1 8 = .ok (.iaload, 1) := by decide +kernel
theorem d_pl_isStairFan_9 : decode q_pl_isStairFan.2.1 9 = .ok (.iconst 2, 1) := by decide +kernel
theorem d_pl_isStairFan_10 : decode q_pl_isStairFan.2.1 10 = .ok (.if_icmp .ne 7, 3) := by decide +kernel
theorem d_pl_isStairFan_13 : decode q_pl_isStairFan.2.1 13 = .ok (.iconst 1, 1) := by decide +kernel
theorem d_pl_isStairFan_14 : decode q_pl_isStairFan.2.1 14 = .ok (.goto 4, 3) := by decide +kernel
theorem d_pl_isStairFan_17 : decode q_pl_isStairFan.2.1 17 = .ok (.iconst 0, 1) := by decide +kernel
theorem d_pl_isStairFan_18 : decode q_pl_isStairFan.2.1 18 = .ok (.ireturn, 1) := by decide +kernel
theorem w_pl_isStairFan_L18 (l : Launch) (lo hi d : Nat) {h' : sm_H} {r0 : Int32} (s0 : Int32) (h : sm_H) (hf : f_pl_isStairFan_L18 s0 h = some (r0, h')) : sm_W l lo hi (d) q_pl_isStairFan 18 [] [.int s0] h (some (.int r0)) h' := by
  unfold f_pl_isStairFan_L18 at hf
  obtain ⟨c3, hf⟩ := sm_gdE hf
  obtain ⟨rfl, rfl⟩ := sm_ret2 hf
  exact sm_bret c3 d_pl_isStairFan_18 rfl
theorem m_pl_isStairFan (l : Launch) (lo hi d : Nat) {a0 : Nat} {a1 : Int32} {r0 : Int32} {h h' : sm_H} (e0 : sm_at lo hi (0, 4, 0) a0) (hf : f_pl_isStairFan a0 a1 h = some (r0, h')) : sm_Met l lo hi (d) q_pl_isStairFan [.ref a0, .int a1] h (some (.int r0)) h' := by
  refine sm_Met.of (by decide +kernel) rfl ?_
  show sm_W l lo hi (d) q_pl_isStairFan 0 [(0, .ref a0), (1, .int a1)] [] h (some (.int r0)) h'
  unfold f_pl_isStairFan at hf
  refine sm_aload_n 0 rfl d_pl_isStairFan_0 ?_
  refine sm_getR (n := 1) fl_pl_9 e0 rfl d_pl_isStairFan_1 ?_
  refine sm_bipush (v := 16) (by decide) d_pl_isStairFan_4 ?_
  refine sm_iload_n 1 rfl d_pl_isStairFan_6 ?_
  refine sm_iadd d_pl_isStairFan_7 ?_
  obtain ⟨c1, hf⟩ := sm_gdE hf
  refine sm_iald (sm_at_arr (sm_inner e0 7 rfl rfl rfl)) c1 d_pl_isStairFan_8 ?_
  refine sm_iconst (v := 2) (by decide) d_pl_isStairFan_9 ?_
  refine sm_icmp_ne 17 d_pl_isStairFan_10 rfl (fun c2 => ?_) (fun c2 => ?_)
  · have hf := sm_ifF c2 hf
    refine sm_iconst (v := 0) (by decide) d_pl_isStairFan_17 ?_
    refine sm_sub [] rfl ?_
    exact w_pl_isStairFan_L18 l lo hi d _ _ hf
  · have hf := sm_ifT c2 hf
    refine sm_iconst (v := 1) (by decide) d_pl_isStairFan_13 ?_
    refine sm_goto 18 d_pl_isStairFan_14 rfl ?_
    refine sm_sub [] rfl ?_
    exact w_pl_isStairFan_L18 l lo hi d _ _ hf
theorem d_en_isStairFanStarted_0 : decode q_en_isStairFanStarted.2.1 0 = .ok (.iconst 0, 1) := by decide +kernel
theorem d_en_isStairFanStarted_1 : decode q_en_isStairFanStarted.2.1 1 = .ok (.istore_n 2, 1) := by decide +kernel
theorem d_en_isStairFanStarted_2 : decode q_en_isStairFanStarted.2.1 2 = .ok (.iload_n 2, 1) := by decide +kernel
theorem d_en_isStairFanStarted_3 : decode q_en_isStairFanStarted.2.1 3 = .ok (.aload_n 1, 1) := by decide +kernel
theorem d_en_isStairFanStarted_4 : decode q_en_isStairFanStarted.2.1 4 = .ok (.getfield 108, 3) := by decide +kernel
theorem d_en_isStairFanStarted_7 : decode q_en_isStairFanStarted.2.1 7 = .ok (.if_icmp .ge 35, 3) := by decide +kernel
theorem d_en_isStairFanStarted_10 : decode q_en_isStairFanStarted.2.1 10 = .ok (.aload_n 1, 1) := by decide +kernel
theorem d_en_isStairFanStarted_11 : decode q_en_isStairFanStarted.2.1 11 = .ok (.iload_n 2, 1) := by decide +kernel
theorem d_en_isStairFanStarted_12 : decode q_en_isStairFanStarted.2.1 12 = .ok (.invokevirtual 153, 3) := by decide +kernel
theorem d_en_isStairFanStarted_15 : decode q_en_isStairFanStarted.2.1 15 = .ok (.ifCond .eq 21, 3) := by decide +kernel
theorem d_en_isStairFanStarted_18 : decode q_en_isStairFanStarted.2.1 18 = .ok (.aload_n 0, 1) := by decide +kernel
theorem d_en_isStairFanStarted_19 : decode q_en_isStairFanStarted.2.1 19 = .ok (.getfield 12, 3) := by decide +kernel
theorem d_en_isStairFanStarted_22 : decode q_en_isStairFanStarted.2.1 22 = .ok (.getfield 79, 3) := by decide +kernel
theorem d_en_isStairFanStarted_25 : decode q_en_isStairFanStarted.2.1 25 = .ok (.bipush 16, 2) := by decide +kernel
theorem d_en_isStairFanStarted_27 : decode q_en_isStairFanStarted.2.1 27 = .ok (.iload_n 2, 1) := by decide +kernel
theorem d_en_isStairFanStarted_28 : decode q_en_isStairFanStarted.2.1 28 = .ok (.iadd, 1) := by decide +kernel
theorem d_en_isStairFanStarted_29 : decode q_en_isStairFanStarted.2.1 29 = .ok (.iaload, 1) := by decide +kernel
theorem d_en_isStairFanStarted_30 : decode q_en_isStairFanStarted.2.1 30 = .ok (.iconst 1, 1) := by decide +kernel
theorem d_en_isStairFanStarted_31 : decode q_en_isStairFanStarted.2.1 31 = .ok (.if_icmp .ne 5, 3) := by decide +kernel
theorem d_en_isStairFanStarted_34 : decode q_en_isStairFanStarted.2.1 34 = .ok (.iconst 1, 1) := by decide +kernel
theorem d_en_isStairFanStarted_35 : decode q_en_isStairFanStarted.2.1 35 = .ok (.ireturn, 1) := by decide +kernel
theorem d_en_isStairFanStarted_36 : decode q_en_isStairFanStarted.2.1 36 = .ok (.iinc 2 1, 3) := by decide +kernel
theorem d_en_isStairFanStarted_39 : decode q_en_isStairFanStarted.2.1 39 = .ok (.goto (-37), 3) := by decide +kernel
theorem d_en_isStairFanStarted_42 : decode q_en_isStairFanStarted.2.1 42 = .ok (.iconst 0, 1) := by decide +kernel
theorem d_en_isStairFanStarted_43 : decode q_en_isStairFanStarted.2.1 43 = .ok (.ireturn, 1) := by decide +kernel
theorem w_en_isStairFanStarted_L36 (l : Launch) (lo hi d : Nat) {k2 : Nat → Nat → Int32 → sm_H → Option (Int32 × sm_H)} {h' : sm_H} {r0 : Int32} (hk2 : ∀ (a0 : Nat) (a1 : Nat) (a2 : Int32) (h : sm_H) (_ : sm_at lo hi (0, 2, 0) a0) (_ : sm_at lo hi (0, 4, 0) a1) , k2 a0 a1 a2 h = some (r0, h') → sm_W l lo hi (d + 1) q_en_isStairFanStarted 2 [(0, .ref a0), (1, .ref a1), (2, .int a2)] [] h (some (.int r0)) h') (a0 : Nat) (a1 : Nat) (a2 : Int32) (h : sm_H) (e0 : sm_at lo hi (0, 2, 0) a0) (e1 : sm_at lo hi (0, 4, 0) a1) (hf : f_en_isStairFanStarted_L36 k2 a0 a1 a2 h = some (r0, h')) : sm_W l lo hi (d + 1) q_en_isStairFanStarted 36 [(0, .ref a0), (1, .ref a1), (2, .int a2)] [] h (some (.int r0)) h' := by
  unfold f_en_isStairFanStarted_L36 at hf
  obtain ⟨x8, w9⟩ : ∃ v : Int32, v = a2 + 1 := ⟨_, rfl⟩
  have hf := sm_letV w9 hf
  refine sm_iinc (v := x8) (lv' := [(2, .int x8), (0, .ref a0), (1, .ref a1)]) 2 rfl (by rw [w9]; rfl) d_en_isStairFanStarted_36 rfl rfl ?_
  refine sm_goto 2 d_en_isStairFanStarted_39 rfl ?_
  refine sm_sub [1, 2, 0] rfl ?_
  exact hk2 _ _ _ _ e0 e1 hf
theorem w_en_isStairFanStarted_L2 (l : Launch) (lo hi d : Nat) {h' : sm_H} {r0 : Int32} : ∀ (n : Nat) (a0 : Nat) (a1 : Nat) (a2 : Int32) (h : sm_H) (e0 : sm_at lo hi (0, 2, 0) a0) (e1 : sm_at lo hi (0, 4, 0) a1) (hf : f_en_isStairFanStarted_L2 n a0 a1 a2 h = some (r0, h')), sm_W l lo hi (d + 1) q_en_isStairFanStarted 2 [(0, .ref a0), (1, .ref a1), (2, .int a2)] [] h (some (.int r0)) h' := by
  intro n
  induction n with
  | zero =>
    intro a0 a1 a2 h e0 e1 hf
    have z : (none : Option (Int32 × sm_H)) = some _ := hf
    cases z
  | succ n ih =>
    intro a0 a1 a2 h e0 e1 hf
    unfold f_en_isStairFanStarted_L2 at hf
    refine sm_iload_n 2 rfl d_en_isStairFanStarted_2 ?_
    refine sm_aload_n 1 rfl d_en_isStairFanStarted_3 ?_
    refine sm_getI fl_en_108 e1 rfl d_en_isStairFanStarted_4 ?_
    refine sm_icmp_ge 42 d_en_isStairFanStarted_7 rfl (fun c1 => ?_) (fun c1 => ?_)
    · have hf := sm_ifT c1 hf
      refine sm_iconst (v := 0) (by decide) d_en_isStairFanStarted_42 ?_
      obtain ⟨rfl, rfl⟩ := sm_ret2 hf
      exact sm_bret (by decide) d_en_isStairFanStarted_43 rfl
    · have hf := sm_ifF c1 hf
      refine sm_aload_n 1 rfl d_en_isStairFanStarted_10 ?_
      refine sm_iload_n 2 rfl d_en_isStairFanStarted_11 ?_
      obtain ⟨r2, g3, c4, hf⟩ := sm_b2E hf
      refine sm_callV (As := [.int a2]) (rv := some (.int r2)) (h1 := g3) (c := 4) cvv_en_153 rfl rfl e1 (m_pl_isStairFan l lo hi _ e1 c4) rfl rfl d_en_isStairFanStarted_12 ?_
      refine sm_if_eq 36 d_en_isStairFanStarted_15 rfl (fun c5 => ?_) (fun c5 => ?_)
      · have hf := sm_ifT c5 hf
        exact w_en_isStairFanStarted_L36 l lo hi d ih _ _ _ _ e0 e1 hf
      · have hf := sm_ifF c5 hf
        refine sm_aload_n 0 rfl d_en_isStairFanStarted_18 ?_
        refine sm_getR (n := 1) fl_en_12 e0 rfl d_en_isStairFanStarted_19 ?_
        refine sm_getR (n := 2) fl_en_79 (sm_inner e0 0 rfl rfl rfl) rfl d_en_isStairFanStarted_22 ?_
        refine sm_bipush (v := 16) (by decide) d_en_isStairFanStarted_25 ?_
        refine sm_iload_n 2 rfl d_en_isStairFanStarted_27 ?_
        refine sm_iadd d_en_isStairFanStarted_28 ?_
        obtain ⟨c6, hf⟩ := sm_gdE hf
        refine sm_iald (sm_at_arr (sm_inner (sm_inner e0 0 rfl rfl rfl) 1 rfl rfl rfl)) c6 d_en_isStairFanStarted_29 ?_
        refine sm_iconst (v := 1) (by decide) d_en_isStairFanStarted_30 ?_
        refine sm_icmp_ne 36 d_en_isStairFanStarted_31 rfl (fun c7 => ?_) (fun c7 => ?_)
        · have hf := sm_ifF c7 hf
          exact w_en_isStairFanStarted_L36 l lo hi d ih _ _ _ _ e0 e1 hf
        · have hf := sm_ifT c7 hf
          refine sm_iconst (v := 1) (by decide) d_en_isStairFanStarted_34 ?_
          obtain ⟨rfl, rfl⟩ := sm_ret2 hf
          exact sm_bret (by decide) d_en_isStairFanStarted_35 rfl
theorem m_en_isStairFanStarted (l : Launch) (lo hi d : Nat) {a0 : Nat} {a1 : Nat} {r0 : Int32} {h h' : sm_H} (e0 : sm_at lo hi (0, 2, 0) a0) (e1 : sm_at lo hi (0, 4, 0) a1) (hf : f_en_isStairFanStarted a0 a1 h = some (r0, h')) : sm_Met l lo hi (d + 1) q_en_isStairFanStarted [.ref a0, .ref a1] h (some (.int r0)) h' := by
  refine sm_Met.of (by decide +kernel) rfl ?_
  show sm_W l lo hi (d + 1) q_en_isStairFanStarted 0 [(0, .ref a0), (1, .ref a1)] [] h (some (.int r0)) h'
  unfold f_en_isStairFanStarted at hf
  refine sm_iconst (v := 0) (by decide) d_en_isStairFanStarted_0 ?_
  refine sm_istore_n (lv' := [(2, .int 0), (0, .ref a0), (1, .ref a1)]) d_en_isStairFanStarted_1 rfl rfl ?_
  refine sm_sub [1, 2, 0] rfl ?_
  exact w_en_isStairFanStarted_L2 l lo hi d sm_N _ _ _ _ e0 e1 hf
theorem d_pl_area_0 : decode q_pl_area.2.1 0 = .ok (.iconst 0, 1) := by decide +kernel
theorem d_pl_area_1 : decode q_pl_area.2.1 1 = .ok (.istore_n 2, 1) := by decide +kernel
theorem d_pl_area_2 : decode q_pl_area.2.1 2 = .ok (.iconst 0, 1) := by decide +kernel
theorem d_pl_area_3 : decode q_pl_area.2.1 3 = .ok (.istore_n 3, 1) := by decide +kernel
theorem d_pl_area_4 : decode q_pl_area.2.1 4 = .ok (.iload_n 3, 1) := by decide +kernel
theorem d_pl_area_5 : decode q_pl_area.2.1 5 = .ok (.aload_n 0, 1) := by decide +kernel
theorem d_pl_area_6 : decode q_pl_area.2.1 6 = .ok (.getfield 56, 3) := by decide +kernel
theorem d_pl_area_9 : decode q_pl_area.2.1 9 = .ok (.if_icmp .ge 35, 3) := by decide +kernel
theorem d_pl_area_12 : decode q_pl_area.2.1 12 = .ok (.iload_n 2, 1) := by decide +kernel
theorem d_pl_area_13 : decode q_pl_area.2.1 13 = .ok (.iload_n 1, 1) := by decide +kernel
theorem d_pl_area_14 : decode q_pl_area.2.1 14 = .ok (.iload_n 3, 1) := by decide +kernel
theorem d_pl_area_15 : decode q_pl_area.2.1 15 = .ok (.invokestatic 73, 3) := by decide +kernel
theorem d_pl_area_18 : decode q_pl_area.2.1 18 = .ok (.ifCond .eq 12, 3) := by decide +kernel
theorem d_pl_area_21 : decode q_pl_area.2.1 21 = .ok (.aload_n 0, 1) := by decide +kernel
theorem d_pl_area_22 : decode q_pl_area.2.1 22 = .ok (.getfield 33, 3) := by decide +kernel
theorem d_pl_area_25 : decode q_pl_area.2.1 25 = .ok (.iload_n 3, 1) := by decide +kernel
theorem d_pl_area_26 : decode q_pl_area.2.1 26 = .ok (.iaload, 1) := by decide +kernel
theorem d_pl_area_27 : decode q_pl_area.2.1 27 = .ok (.goto 9, 3) := by decide +kernel
theorem d_pl_area_30 : decode q_pl_area.2.1 30 = .ok (.aload_n 0, 1) := by decide +kernel
theorem d_pl_area_31 : decode q_pl_area.2.1 31 = .ok (.getfield 30, 3) := by decide +kernel
theorem d_pl_area_34 : decode q_pl_area.2.1 34 = .ok (.iload_n 3, 1) := by decide +kernel
theorem d_pl_area_35 : decode q_pl_area.2.1 35 = .ok (.iaload, 1) := by decide +kernel
theorem d_pl_area_36 : decode q_pl_area.2.1 36 = .ok (.iadd, 1) := by decide +kernel
theorem d_pl_area_37 : decode q_pl_area.2.1 37 = .ok (.istore_n 2, 1) := by decide +kernel
theorem d_pl_area_38 : decode q_pl_area.2.1 38 = .ok (.iinc 3 1, 3) := by decide +kernel
theorem d_pl_area_41 : decode q_pl_area.2.1 41 = .ok (.goto (-37), 3) := by decide +kernel
theorem d_pl_area_44 : decode q_pl_area.2.1 44 = .ok (.iload_n 2, 1) := by decide +kernel
theorem d_pl_area_45 : decode q_pl_area.2.1 45 = .ok (.ireturn, 1) := by decide +kernel
theorem w_pl_area_L44 (l : Launch) (lo hi d : Nat) {h' : sm_H} {r0 : Int32} (a2 : Int32) (h : sm_H) (hf : f_pl_area_L44 a2 h = some (r0, h')) : sm_W l lo hi (d + 1) q_pl_area 44 [(2, .int a2)] [] h (some (.int r0)) h' := by
  unfold f_pl_area_L44 at hf
  refine sm_iload_n 0 rfl d_pl_area_44 ?_
  obtain ⟨rfl, rfl⟩ := sm_ret2 hf
  exact sm_iret d_pl_area_45 rfl
theorem w_pl_area_L36 (l : Launch) (lo hi d : Nat) {k4 : Nat → Int32 → Int32 → Int32 → sm_H → Option (Int32 × sm_H)} {h' : sm_H} {r0 : Int32} (hk4 : ∀ (a0 : Nat) (a1 : Int32) (a2 : Int32) (a3 : Int32) (h : sm_H) (_ : sm_at lo hi (0, 4, 0) a0) , k4 a0 a1 a2 a3 h = some (r0, h') → sm_W l lo hi (d + 1) q_pl_area 4 [(0, .ref a0), (1, .int a1), (2, .int a2), (3, .int a3)] [] h (some (.int r0)) h') (a0 : Nat) (a1 : Int32) (a3 : Int32) (s0 : Int32) (s1 : Int32) (h : sm_H) (e0 : sm_at lo hi (0, 4, 0) a0) (hf : f_pl_area_L36 k4 a0 a1 a3 s0 s1 h = some (r0, h')) : sm_W l lo hi (d + 1) q_pl_area 36 [(0, .ref a0), (1, .int a1), (3, .int a3)] [.int s0, .int s1] h (some (.int r0)) h' := by
  unfold f_pl_area_L36 at hf
  refine sm_iadd d_pl_area_36 ?_
  refine sm_nmI (fun x8 w9 => ?_)
  have hf := sm_letV w9 hf
  refine sm_istore_n (lv' := [(2, .int x8), (0, .ref a0), (1, .int a1), (3, .int a3)]) d_pl_area_37 rfl rfl ?_
  obtain ⟨x10, w11⟩ : ∃ v : Int32, v = a3 + 1 := ⟨_, rfl⟩
  have hf := sm_letV w11 hf
  refine sm_iinc (v := x10) (lv' := [(3, .int x10), (2, .int x8), (0, .ref a0), (1, .int a1)]) 3 rfl (by rw [w11]; rfl) d_pl_area_38 rfl rfl ?_
  refine sm_goto 4 d_pl_area_41 rfl ?_
  refine sm_sub [2, 3, 1, 0] rfl ?_
  exact hk4 _ _ _ _ _ e0 hf
theorem w_pl_area_L4 (l : Launch) (lo hi d : Nat) {h' : sm_H} {r0 : Int32} : ∀ (n : Nat) (a0 : Nat) (a1 : Int32) (a2 : Int32) (a3 : Int32) (h : sm_H) (e0 : sm_at lo hi (0, 4, 0) a0) (hf : f_pl_area_L4 n a0 a1 a2 a3 h = some (r0, h')), sm_W l lo hi (d + 1) q_pl_area 4 [(0, .ref a0), (1, .int a1), (2, .int a2), (3, .int a3)] [] h (some (.int r0)) h' := by
  intro n
  induction n with
  | zero =>
    intro a0 a1 a2 a3 h e0 hf
    have z : (none : Option (Int32 × sm_H)) = some _ := hf
    cases z
  | succ n ih =>
    intro a0 a1 a2 a3 h e0 hf
    unfold f_pl_area_L4 at hf
    refine sm_iload_n 3 rfl d_pl_area_4 ?_
    refine sm_aload_n 0 rfl d_pl_area_5 ?_
    refine sm_getI fl_pl_56 e0 rfl d_pl_area_6 ?_
    refine sm_icmp_ge 44 d_pl_area_9 rfl (fun c1 => ?_) (fun c1 => ?_)
    · have hf := sm_ifT c1 hf
      refine sm_sub [2] rfl ?_
      exact w_pl_area_L44 l lo hi d _ _ hf
    · have hf := sm_ifF c1 hf
      refine sm_iload_n 2 rfl d_pl_area_12 ?_
      refine sm_iload_n 1 rfl d_pl_area_13 ?_
      refine sm_iload_n 3 rfl d_pl_area_14 ?_
      obtain ⟨r2, g3, c4, hf⟩ := sm_b2E hf
      refine sm_callN (As := [.int a1, .int a3]) (rv := some (.int r2)) (h1 := g3) cvn_pl_73 (m_sc_has l lo hi _ c4) rfl rfl d_pl_area_15 ?_
      refine sm_if_eq 30 d_pl_area_18 rfl (fun c5 => ?_) (fun c5 => ?_)
      · have hf := sm_ifT c5 hf
        refine sm_aload_n 0 rfl d_pl_area_30 ?_
        refine sm_getR (n := 7) fl_pl_30 e0 rfl d_pl_area_31 ?_
        refine sm_iload_n 3 rfl d_pl_area_34 ?_
        obtain ⟨c6, hf⟩ := sm_gdE hf
        refine sm_iald (sm_at_arr (sm_inner e0 13 rfl rfl rfl)) c6 d_pl_area_35 ?_
        refine sm_sub [0, 1, 3] rfl ?_
        exact w_pl_area_L36 l lo hi d ih _ _ _ _ _ _ e0 hf
      · have hf := sm_ifF c5 hf
        refine sm_aload_n 0 rfl d_pl_area_21 ?_
        refine sm_getR (n := 8) fl_pl_33 e0 rfl d_pl_area_22 ?_
        refine sm_iload_n 3 rfl d_pl_area_25 ?_
        obtain ⟨c7, hf⟩ := sm_gdE hf
        refine sm_iald (sm_at_arr (sm_inner e0 14 rfl rfl rfl)) c7 d_pl_area_26 ?_
        refine sm_goto 36 d_pl_area_27 rfl ?_
        refine sm_sub [0, 1, 3] rfl ?_
        exact w_pl_area_L36 l lo hi d ih _ _ _ _ _ _ e0 hf
theorem m_pl_area (l : Launch) (lo hi d : Nat) {a0 : Nat} {a1 : Int32} {r0 : Int32} {h h' : sm_H} (e0 : sm_at lo hi (0, 4, 0) a0) (hf : f_pl_area a0 a1 h = some (r0, h')) : sm_Met l lo hi (d + 1) q_pl_area [.ref a0, .int a1] h (some (.int r0)) h' := by
  refine sm_Met.of (by decide +kernel) rfl ?_
  show sm_W l lo hi (d + 1) q_pl_area 0 [(0, .ref a0), (1, .int a1)] [] h (some (.int r0)) h'
  unfold f_pl_area at hf
  refine sm_iconst (v := 0) (by decide) d_pl_area_0 ?_
  refine sm_istore_n (lv' := [(2, .int 0), (0, .ref a0), (1, .int a1)]) d_pl_area_1 rfl rfl ?_
  refine sm_iconst (v := 0) (by decide) d_pl_area_2 ?_
  refine sm_istore_n (lv' := [(3, .int 0), (2, .int 0), (0, .ref a0), (1, .int a1)]) d_pl_area_3 rfl rfl ?_
  refine sm_sub [2, 3, 1, 0] rfl ?_
  exact w_pl_area_L4 l lo hi d sm_N _ _ _ _ _ e0 hf
theorem d_jm_min_0 : decode q_jm_min.2.1 0 = .ok (.iload_n 0, 1) := by decide +kernel
theorem d_jm_min_1 : decode q_jm_min.2.1 1 = .ok (.iload_n 1, 1) := by decide +kernel
theorem d_jm_min_2 : decode q_jm_min.2.1 2 = .ok (.if_icmp .gt 7, 3) := by decide +kernel
theorem d_jm_min_5 : decode q_jm_min.2.1 5 = .ok (.iload_n 0, 1) := by decide +kernel
theorem d_jm_min_6 : decode q_jm_min.2.1 6 = .ok (.goto 4, 3) := by decide +kernel
theorem d_jm_min_9 : decode q_jm_min.2.1 9 = .ok (.iload_n 1, 1) := by decide +kernel
theorem d_jm_min_10 : decode q_jm_min.2.1 10 = .ok (.ireturn, 1) := by decide +kernel
theorem w_jm_min_L10 (l : Launch) (lo hi d : Nat) {h' : sm_H} {r0 : Int32} (s0 : Int32) (h : sm_H) (hf : f_jm_min_L10 s0 h = some (r0, h')) : sm_W l lo hi (d) q_jm_min 10 [] [.int s0] h (some (.int r0)) h' := by
  unfold f_jm_min_L10 at hf
  obtain ⟨rfl, rfl⟩ := sm_ret2 hf
  exact sm_iret d_jm_min_10 rfl
theorem m_jm_min (l : Launch) (lo hi d : Nat) {a0 : Int32} {a1 : Int32} {r0 : Int32} {h h' : sm_H} (hf : f_jm_min a0 a1 h = some (r0, h')) : sm_Met l lo hi (d) q_jm_min [.int a0, .int a1] h (some (.int r0)) h' := by
  refine sm_Met.of (by decide +kernel) rfl ?_
  show sm_W l lo hi (d) q_jm_min 0 [(0, .int a0), (1, .int a1)] [] h (some (.int r0)) h'
  unfold f_jm_min at hf
  refine sm_iload_n 0 rfl d_jm_min_0 ?_
  refine sm_iload_n 1 rfl d_jm_min_1 ?_
  refine sm_icmp_gt 9 d_jm_min_2 rfl (fun c1 => ?_) (fun c1 => ?_)
  · have hf := sm_ifT c1 hf
    refine sm_iload_n 1 rfl d_jm_min_9 ?_
    refine sm_sub [] rfl ?_
    exact w_jm_min_L10 l lo hi d _ _ hf
  · have hf := sm_ifF c1 hf
    refine sm_iload_n 0 rfl d_jm_min_5 ?_
    refine sm_goto 10 d_jm_min_6 rfl ?_
    refine sm_sub [] rfl ?_
    exact w_jm_min_L10 l lo hi d _ _ hf
theorem d_pl_pressureOf_0 : decode q_pl_pressureOf.2.1 0 = .ok (.aload_n 0, 1) := by decide +kernel
theorem d_pl_pressureOf_1 : decode q_pl_pressureOf.2.1 1 = .ok (.iload_n 2, 1) := by decide +kernel
theorem d_pl_pressureOf_2 : decode q_pl_pressureOf.2.1 2 = .ok (.invokevirtual 77, 3) := by decide +kernel
theorem d_pl_pressureOf_5 : decode q_pl_pressureOf.2.1 5 = .ok (.istore_n 3, 1) := by decide +kernel
theorem d_pl_pressureOf_6 : decode q_pl_pressureOf.2.1 6 = .ok (.iload_n 3, 1) := by decide +kernel
theorem d_pl_pressureOf_7 : decode q_pl_pressureOf.2.1 7 = .ok (.ifCond .le 19, 3) := by decide +kernel
theorem d_pl_pressureOf_10 : decode q_pl_pressureOf.2.1 10 = .ok (.sipush 999, 3) := by decide +kernel
theorem d_pl_pressureOf_13 : decode q_pl_pressureOf.2.1 13 = .ok (.iload_n 1, 1) := by decide +kernel
theorem d_pl_pressureOf_14 : decode q_pl_pressureOf.2.1 14 = .ok (.iload_n 1, 1) := by decide +kernel
theorem d_pl_pressureOf_15 : decode q_pl_pressureOf.2.1 15 = .ok (.imul, 1) := by decide +kernel
theorem d_pl_pressureOf_16 : decode q_pl_pressureOf.2.1 16 = .ok (.iload_n 3, 1) := by decide +kernel
theorem d_pl_pressureOf_17 : decode q_pl_pressureOf.2.1 17 = .ok (.iload_n 3, 1) := by decide +kernel
theorem d_pl_pressureOf_18 : decode q_pl_pressureOf.2.1 18 = .ok (.imul, 1) := by decide +kernel
theorem d_pl_pressureOf_19 : decode q_pl_pressureOf.2.1 19 = .ok (.idiv, 1) := by decide +kernel
theorem d_pl_pressureOf_20 : decode q_pl_pressureOf.2.1 20 = .ok (.invokestatic 81, 3) := by decide +kernel
theorem d_pl_pressureOf_23 : decode q_pl_pressureOf.2.1 23 = .ok (.goto 4, 3) := by decide +kernel
theorem d_pl_pressureOf_26 : decode q_pl_pressureOf.2.1 26 = .ok (.iconst 0, 1) := by decide +kernel
theorem d_pl_pressureOf_27 : decode q_pl_pressureOf.2.1 27 = .ok (.ireturn, 1) := by decide +kernel
theorem w_pl_pressureOf_L27 (l : Launch) (lo hi d : Nat) {h' : sm_H} {r0 : Int32} (s0 : Int32) (h : sm_H) (hf : f_pl_pressureOf_L27 s0 h = some (r0, h')) : sm_W l lo hi (d + 2) q_pl_pressureOf 27 [] [.int s0] h (some (.int r0)) h' := by
  unfold f_pl_pressureOf_L27 at hf
  obtain ⟨rfl, rfl⟩ := sm_ret2 hf
  exact sm_iret d_pl_pressureOf_27 rfl
theorem m_pl_pressureOf (l : Launch) (lo hi d : Nat) {a0 : Nat} {a1 : Int32} {a2 : Int32} {r0 : Int32} {h h' : sm_H} (e0 : sm_at lo hi (0, 4, 0) a0) (hf : f_pl_pressureOf a0 a1 a2 h = some (r0, h')) : sm_Met l lo hi (d + 2) q_pl_pressureOf [.ref a0, .int a1, .int a2] h (some (.int r0)) h' := by
  refine sm_Met.of (by decide +kernel) rfl ?_
  show sm_W l lo hi (d + 2) q_pl_pressureOf 0 [(0, .ref a0), (1, .int a1), (2, .int a2)] [] h (some (.int r0)) h'
  unfold f_pl_pressureOf at hf
  refine sm_aload_n 0 rfl d_pl_pressureOf_0 ?_
  refine sm_iload_n 2 rfl d_pl_pressureOf_1 ?_
  obtain ⟨r1, g2, c3, hf⟩ := sm_b2E hf
  refine sm_callV (As := [.int a2]) (rv := some (.int r1)) (h1 := g2) (c := 4) cvv_pl_77 rfl rfl e0 (m_pl_area l lo hi _ e0 c3) rfl rfl d_pl_pressureOf_2 ?_
  refine sm_istore_n (lv' := [(3, .int r1), (0, .ref a0), (1, .int a1), (2, .int a2)]) d_pl_pressureOf_5 rfl rfl ?_
  refine sm_iload_n 0 rfl d_pl_pressureOf_6 ?_
  refine sm_if_le 26 d_pl_pressureOf_7 rfl (fun c4 => ?_) (fun c4 => ?_)
  · have hf := sm_ifT c4 hf
    refine sm_iconst (v := 0) (by decide) d_pl_pressureOf_26 ?_
    refine sm_sub [] rfl ?_
    exact w_pl_pressureOf_L27 l lo hi d _ _ hf
  · have hf := sm_ifF c4 hf
    refine sm_sipush (v := 999) (by decide) d_pl_pressureOf_10 ?_
    refine sm_iload_n 2 rfl d_pl_pressureOf_13 ?_
    refine sm_iload_n 2 rfl d_pl_pressureOf_14 ?_
    refine sm_imul d_pl_pressureOf_15 ?_
    refine sm_iload_n 0 rfl d_pl_pressureOf_16 ?_
    refine sm_iload_n 0 rfl d_pl_pressureOf_17 ?_
    refine sm_imul d_pl_pressureOf_18 ?_
    obtain ⟨c5, hf⟩ := sm_gdE hf
    refine sm_idiv c5 d_pl_pressureOf_19 ?_
    obtain ⟨r6, g7, c8, hf⟩ := sm_b2E hf
    refine sm_callS (As := [.int 999, .int ((a1 * a1) / (r1 * r1))]) (rv := some (.int r6)) (h1 := g7) cvs_pl_81 (m_jm_min l lo hi _ c8) rfl rfl d_pl_pressureOf_20 ?_
    refine sm_goto 27 d_pl_pressureOf_23 rfl ?_
    refine sm_sub [] rfl ?_
    exact w_pl_pressureOf_L27 l lo hi d _ _ hf
theorem d_st_supervise_0 : decode q_st_supervise.2.1 0 = .ok (.iload_n 2, 1) := by decide +kernel
theorem d_st_supervise_1 : decode q_st_supervise.2.1 1 = .ok (.ifCond .ne 11, 3) := by decide +kernel
theorem d_st_supervise_4 : decode q_st_supervise.2.1 4 = .ok (.aload_n 0, 1) := by decide +kernel
theorem d_st_supervise_5 : decode q_st_supervise.2.1 5 = .ok (.getfield 30, 3) := by decide +kernel
theorem d_st_supervise_8 : decode q_st_supervise.2.1 8 = .ok (.iload_n 1, 1) := by decide +kernel
theorem d_st_supervise_9 : decode q_st_supervise.2.1 9 = .ok (.iconst 0, 1) := by decide +kernel
theorem d_st_supervise_10 : decode q_st_supervise.2.1 10 = .ok (.iastore, 1) := by decide +kernel
theorem d_st_supervise_11 : decode q_st_supervise.2.1 11 = .ok (.return_, 1) := by decide +kernel
theorem d_st_supervise_12 : decode q_st_supervise.2.1 12 = .ok (.aload_n 0, 1) := by decide +kernel
theorem d_st_supervise_13 : decode q_st_supervise.2.1 13 = .ok (.getfield 30, 3) := by decide +kernel
theorem d_st_supervise_16 : decode q_st_supervise.2.1 16 = .ok (.iload_n 1, 1) := by decide +kernel
theorem d_st_supervise_17 : decode q_st_supervise.2.1 17 = .ok (.dup2, 1) := by decide +kernel
theorem d_st_supervise_18 : decode q_st_supervise.2.1 18 = .ok (.iaload, 1) := by decide +kernel
theorem d_st_supervise_19 : decode q_st_supervise.2.1 19 = .ok (.iconst 1, 1) := by decide +kernel
theorem d_st_supervise_20 : decode q_st_supervise.2.1 20 = .ok (.iadd, 1) := by decide +kernel
theorem d_st_supervise_21 : decode q_st_supervise.2.1 21 = .ok (.iastore, 1) := by decide +kernel
theorem d_st_supervise_22 : decode q_st_supervise.2.1 22 = .ok (.aload_n 0, 1) := by decide +kernel
theorem d_st_supervise_23 : decode q_st_supervise.2.1 23 = .ok (.getfield 30, 3) := by decide +kernel
theorem d_st_supervise_26 : decode q_st_supervise.2.1 26 = .ok (.iload_n 1, 1) := by decide +kernel
theorem d_st_supervise_27 : decode q_st_supervise.2.1 27 = .ok (.iaload, 1) := by decide +kernel
theorem d_st_supervise_28 : decode q_st_supervise.2.1 28 = .ok (.iload_n 3, 1) := by decide +kernel
theorem d_st_supervise_29 : decode q_st_supervise.2.1 29 = .ok (.if_icmp .ne 42, 3) := by decide +kernel
theorem d_st_supervise_32 : decode q_st_supervise.2.1 32 = .ok (.aload_n 0, 1) := by decide +kernel
theorem d_st_supervise_33 : decode q_st_supervise.2.1 33 = .ok (.getfield 78, 3) := by decide +kernel
theorem d_st_supervise_36 : decode q_st_supervise.2.1 36 = .ok (.iload_n 1, 1) := by decide +kernel
theorem d_st_supervise_37 : decode q_st_supervise.2.1 37 = .ok (.invokestatic 100, 3) := by decide +kernel
theorem d_st_supervise_40 : decode q_st_supervise.2.1 40 = .ok (.ifCond .ne 31, 3) := by decide +kernel
theorem d_st_supervise_43 : decode q_st_supervise.2.1 43 = .ok (.aload_n 0, 1) := by decide +kernel
theorem d_st_supervise_44 : decode q_st_supervise.2.1 44 = .ok (.aload_n 0, 1) := by decide +kernel
theorem d_st_supervise_45 : decode q_st_supervise.2.1 45 = .ok (.getfield 78, 3) := by decide +kernel
theorem d_st_supervise_48 : decode q_st_supervise.2.1 48 = .ok (.iload_n 1, 1) := by decide +kernel
theorem d_st_supervise_49 : decode q_st_supervise.2.1 49 = .ok (.iconst 1, 1) := by decide +kernel
theorem d_st_supervise_50 : decode q_st_supervise.2.1 50 = .ok (.invokestatic 127, 3) := by decide +kernel
theorem d_st_supervise_53 : decode q_st_supervise.2.1 53 = .ok (.putfield 78, 3) := by decide +kernel
theorem d_st_supervise_56 : decode q_st_supervise.2.1 56 = .ok (.aload_n 0, 1) := by decide +kernel
theorem d_st_supervise_57 : decode q_st_supervise.2.1 57 = .ok (.getfield 43, 3) := by decide +kernel
theorem d_st_supervise_60 : decode q_st_supervise.2.1 60 = .ok (.aload_n 0, 1) := by decide +kernel
theorem d_st_supervise_61 : decode q_st_supervise.2.1 61 = .ok (.getfield 55, 3) := by decide +kernel
theorem d_st_supervise_64 : decode q_st_supervise.2.1 64 = .ok (.iload 4, 2) := by decide +kernel
theorem d_st_supervise_66 : decode q_st_supervise.2.1 66 = .ok (.iload 5, 2) := by decide +kernel
theorem d_st_supervise_68 : decode q_st_supervise.2.1 68 = .ok (.invokevirtual 148, 3) := by decide +kernel
theorem d_st_supervise_71 : decode q_st_supervise.2.1 71 = .ok (.return_, 1) := by decide +kernel
theorem m_st_supervise (l : Launch) (lo hi d : Nat) {a0 : Nat} {a1 : Int32} {a2 : Int32} {a3 : Int32} {a4 : Int32} {a5 : Int32} {h h' : sm_H} (e0 : sm_at lo hi (0, 7, 0) a0) (hf : f_st_supervise a0 a1 a2 a3 a4 a5 h = some h') : sm_Met l lo hi (d + 2) q_st_supervise [.ref a0, .int a1, .int a2, .int a3, .int a4, .int a5] h none h' := by
  refine sm_Met.of (by decide +kernel) rfl ?_
  show sm_W l lo hi (d + 2) q_st_supervise 0 [(0, .ref a0), (1, .int a1), (2, .int a2), (3, .int a3), (4, .int a4), (5, .int a5)] [] h none h'
  unfold f_st_supervise at hf
  refine sm_iload_n 2 rfl d_st_supervise_0 ?_
  refine sm_if_ne 12 d_st_supervise_1 rfl (fun c1 => ?_) (fun c1 => ?_)
  · have hf := sm_ifF c1 hf
    refine sm_aload_n 0 rfl d_st_supervise_12 ?_
    refine sm_getR (n := 7) fl_st_30 e0 rfl d_st_supervise_13 ?_
    refine sm_iload_n 1 rfl d_st_supervise_16 ?_
    refine sm_dup2 rfl rfl d_st_supervise_17 ?_
    obtain ⟨c2, hf⟩ := sm_gdE hf
    refine sm_iald (sm_at_arr (sm_inner e0 15 rfl rfl rfl)) c2 d_st_supervise_18 ?_
    refine sm_iconst (v := 1) (by decide) d_st_supervise_19 ?_
    refine sm_iadd d_st_supervise_20 ?_
    obtain ⟨c3, hf⟩ := sm_gdE hf
    refine sm_iast (sm_at_arr (sm_inner e0 15 rfl rfl rfl)) c3 d_st_supervise_21 ?_
    refine sm_nmH (fun g4 w5 => ?_)
    have hf := sm_letV w5 hf
    refine sm_aload_n 0 rfl d_st_supervise_22 ?_
    refine sm_getR (n := 7) fl_st_30 e0 rfl d_st_supervise_23 ?_
    refine sm_iload_n 1 rfl d_st_supervise_26 ?_
    obtain ⟨c6, hf⟩ := sm_gdE hf
    refine sm_iald (sm_at_arr (sm_inner e0 15 rfl rfl rfl)) c6 d_st_supervise_27 ?_
    refine sm_iload_n 3 rfl d_st_supervise_28 ?_
    refine sm_icmp_ne 71 d_st_supervise_29 rfl (fun c7 => ?_) (fun c7 => ?_)
    · have hf := sm_ifF c7 hf
      obtain rfl := sm_ret1 hf
      exact sm_vret d_st_supervise_71 rfl
    · have hf := sm_ifT c7 hf
      refine sm_aload_n 0 rfl d_st_supervise_32 ?_
      refine sm_getI fl_st_78 e0 rfl d_st_supervise_33 ?_
      refine sm_iload_n 1 rfl d_st_supervise_36 ?_
      obtain ⟨r8, g9, c10, hf⟩ := sm_b2E hf
      refine sm_callN (As := [.int (g4 a0 8), .int a1]) (rv := some (.int r8)) (h1 := g9) cvn_st_100 (m_sc_has l lo hi _ c10) rfl rfl d_st_supervise_37 ?_
      refine sm_if_ne 71 d_st_supervise_40 rfl (fun c11 => ?_) (fun c11 => ?_)
      · have hf := sm_ifF c11 hf
        obtain rfl := sm_ret1 hf
        exact sm_vret d_st_supervise_71 rfl
      · have hf := sm_ifT c11 hf
        refine sm_aload_n 0 rfl d_st_supervise_43 ?_
        refine sm_aload_n 0 rfl d_st_supervise_44 ?_
        refine sm_getI fl_st_78 e0 rfl d_st_supervise_45 ?_
        refine sm_iload_n 1 rfl d_st_supervise_48 ?_
        refine sm_iconst (v := 1) (by decide) d_st_supervise_49 ?_
        obtain ⟨r12, g13, c14, hf⟩ := sm_b2E hf
        refine sm_callN (As := [.int (g9 a0 8), .int a1, .int 1]) (rv := some (.int r12)) (h1 := g13) cvn_st_127 (m_sc_with l lo hi _ c14) rfl rfl d_st_supervise_50 ?_
        refine sm_putI fp_st_78 e0 rfl rfl d_st_supervise_53 ?_
        refine sm_nmH (fun g15 w16 => ?_)
        have hf := sm_letV w16 hf
        refine sm_aload_n 0 rfl d_st_supervise_56 ?_
        refine sm_getR (n := 9) fl_st_43 e0 rfl d_st_supervise_57 ?_
        refine sm_aload_n 0 rfl d_st_supervise_60 ?_
        refine sm_getI fl_st_55 e0 rfl d_st_supervise_61 ?_
        refine sm_iload 4 rfl d_st_supervise_64 ?_
        refine sm_iload 5 rfl d_st_supervise_66 ?_
        obtain ⟨g17, c18, hf⟩ := sm_bindE hf
        refine sm_callV (As := [.int (g15 a0 1), .int a4, .int a5]) (rv := none) (h1 := g17) (c := 3) cvv_st_148 rfl rfl (sm_inner e0 17 rfl rfl rfl) (m_lo_add l lo hi _ (sm_inner e0 17 rfl rfl rfl) c18) rfl rfl d_st_supervise_68 ?_
        obtain rfl := sm_ret1 hf
        exact sm_vret d_st_supervise_71 rfl
  · have hf := sm_ifT c1 hf
    refine sm_aload_n 0 rfl d_st_supervise_4 ?_
    refine sm_getR (n := 7) fl_st_30 e0 rfl d_st_supervise_5 ?_
    refine sm_iload_n 1 rfl d_st_supervise_8 ?_
    refine sm_iconst (v := 0) (by decide) d_st_supervise_9 ?_
    obtain ⟨c19, hf⟩ := sm_gdE hf
    refine sm_iast (sm_at_arr (sm_inner e0 15 rfl rfl rfl)) c19 d_st_supervise_10 ?_
    refine sm_nmH (fun g20 w21 => ?_)
    have hf := sm_letV w21 hf
    obtain rfl := sm_ret1 hf
    exact sm_vret d_st_supervise_11 rfl
theorem d_jm_max_0 : decode q_jm_max.2.1 0 = .ok (.iload_n 0, 1) := by decide +kernel
theorem d_jm_max_1 : decode q_jm_max.2.1 1 = .ok (.iload_n 1, 1) := by decide +kernel
theorem d_jm_max_2 : decode q_jm_max.2.1 2 = .ok (.if_icmp .lt 7, 3) := by decide +kernel
theorem d_jm_max_5 : decode q_jm_max.2.1 5 = .ok (.iload_n 0, 1) := by decide +kernel
theorem d_jm_max_6 : decode q_jm_max.2.1 6 = .ok (.goto 4, 3) := by decide +kernel
theorem d_jm_max_9 : decode q_jm_max.2.1 9 = .ok (.iload_n 1, 1) := by decide +kernel
theorem d_jm_max_10 : decode q_jm_max.2.1 10 = .ok (.ireturn, 1) := by decide +kernel
theorem w_jm_max_L10 (l : Launch) (lo hi d : Nat) {h' : sm_H} {r0 : Int32} (s0 : Int32) (h : sm_H) (hf : f_jm_max_L10 s0 h = some (r0, h')) : sm_W l lo hi (d) q_jm_max 10 [] [.int s0] h (some (.int r0)) h' := by
  unfold f_jm_max_L10 at hf
  obtain ⟨rfl, rfl⟩ := sm_ret2 hf
  exact sm_iret d_jm_max_10 rfl
theorem m_jm_max (l : Launch) (lo hi d : Nat) {a0 : Int32} {a1 : Int32} {r0 : Int32} {h h' : sm_H} (hf : f_jm_max a0 a1 h = some (r0, h')) : sm_Met l lo hi (d) q_jm_max [.int a0, .int a1] h (some (.int r0)) h' := by
  refine sm_Met.of (by decide +kernel) rfl ?_
  show sm_W l lo hi (d) q_jm_max 0 [(0, .int a0), (1, .int a1)] [] h (some (.int r0)) h'
  unfold f_jm_max at hf
  refine sm_iload_n 0 rfl d_jm_max_0 ?_
  refine sm_iload_n 1 rfl d_jm_max_1 ?_
  refine sm_icmp_lt 9 d_jm_max_2 rfl (fun c1 => ?_) (fun c1 => ?_)
  · have hf := sm_ifT c1 hf
    refine sm_iload_n 1 rfl d_jm_max_9 ?_
    refine sm_sub [] rfl ?_
    exact w_jm_max_L10 l lo hi d _ _ hf
  · have hf := sm_ifF c1 hf
    refine sm_iload_n 0 rfl d_jm_max_5 ?_
    refine sm_goto 10 d_jm_max_6 rfl ?_
    refine sm_sub [] rfl ?_
    exact w_jm_max_L10 l lo hi d _ _ hf
theorem d_en_controlPressure_0 : decode q_en_controlPressure.2.1 0 = .ok (.aload_n 1, 1) := by decide +kernel
theorem d_en_controlPressure_1 : decode q_en_controlPressure.2.1 1 = .ok (.getfield 70, 3) := by decide +kernel
theorem d_en_controlPressure_4 : decode q_en_controlPressure.2.1 4 = .ok (.getfield 128, 3) := by decide +kernel
theorem d_en_controlPressure_7 : decode q_en_controlPressure.2.1 7 = .ok (.istore_n 3, 1) := by decide +kernel
theorem d_en_controlPressure_8 : decode q_en_controlPressure.2.1 8 = .ok (.aload_n 1, 1) := by decide +kernel
theorem d_en_controlPressure_9 : decode q_en_controlPressure.2.1 9 = .ok (.aload_n 1, 1) := by decide +kernel
theorem d_en_controlPressure_10 : decode q_en_controlPressure.2.1 10 = .ok (.getfield 70, 3) := by decide +kernel
theorem d_en_controlPressure_13 : decode q_en_controlPressure.2.1 13 = .ok (.iload_n 2, 1) := by decide +kernel
theorem d_en_controlPressure_14 : decode q_en_controlPressure.2.1 14 = .ok (.aload_n 1, 1) := by decide +kernel
theorem d_en_controlPressure_15 : decode q_en_controlPressure.2.1 15 = .ok (.getfield 131, 3) := by decide +kernel
theorem d_en_controlPressure_18 : decode q_en_controlPressure.2.1 18 = .ok (.invokevirtual 134, 3) := by decide +kernel
theorem d_en_controlPressure_21 : decode q_en_controlPressure.2.1 21 = .ok (.putfield 138, 3) := by decide +kernel
theorem d_en_controlPressure_24 : decode q_en_controlPressure.2.1 24 = .ok (.aload_n 1, 1) := by decide +kernel
theorem d_en_controlPressure_25 : decode q_en_controlPressure.2.1 25 = .ok (.getfield 138, 3) := by decide +kernel
theorem d_en_controlPressure_28 : decode q_en_controlPressure.2.1 28 = .ok (.iload_n 3, 1) := by decide +kernel
theorem d_en_controlPressure_29 : decode q_en_controlPressure.2.1 29 = .ok (.if_icmp .ge 7, 3) := by decide +kernel
theorem d_en_controlPressure_32 : decode q_en_controlPressure.2.1 32 = .ok (.iconst 1, 1) := by decide +kernel
theorem d_en_controlPressure_33 : decode q_en_controlPressure.2.1 33 = .ok (.goto 4, 3) := by decide +kernel
theorem d_en_controlPressure_36 : decode q_en_controlPressure.2.1 36 = .ok (.iconst 0, 1) := by decide +kernel
theorem d_en_controlPressure_37 : decode q_en_controlPressure.2.1 37 = .ok (.istore 4, 2) := by decide +kernel
theorem d_en_controlPressure_39 : decode q_en_controlPressure.2.1 39 = .ok (.aload_n 1, 1) := by decide +kernel
theorem d_en_controlPressure_40 : decode q_en_controlPressure.2.1 40 = .ok (.getfield 138, 3) := by decide +kernel
theorem d_en_controlPressure_43 : decode q_en_controlPressure.2.1 43 = .ok (.iload_n 3, 1) := by decide +kernel
theorem d_en_controlPressure_44 : decode q_en_controlPressure.2.1 44 = .ok (.iconst 5, 1) := by decide +kernel
theorem d_en_controlPressure_45 : decode q_en_controlPressure.2.1 45 = .ok (.iadd, 1) := by decide +kernel
theorem d_en_controlPressure_46 : decode q_en_controlPressure.2.1 46 = .ok (.if_icmp .le 21, 3) := by decide +kernel
theorem d_en_controlPressure_49 : decode q_en_controlPressure.2.1 49 = .ok (.aload_n 1, 1) := by decide +kernel
theorem d_en_controlPressure_50 : decode q_en_controlPressure.2.1 50 = .ok (.bipush 20, 2) := by decide +kernel
theorem d_en_controlPressure_52 : decode q_en_controlPressure.2.1 52 = .ok (.aload_n 1, 1) := by decide +kernel
theorem d_en_controlPressure_53 : decode q_en_controlPressure.2.1 53 = .ok (.getfield 48, 3) := by decide +kernel
theorem d_en_controlPressure_56 : decode q_en_controlPressure.2.1 56 = .ok (.iconst 5, 1) := by decide +kernel
theorem d_en_controlPressure_57 : decode q_en_controlPressure.2.1 57 = .ok (.isub, 1) := by decide +kernel
theorem d_en_controlPressure_58 : decode q_en_controlPressure.2.1 58 = .ok (.invokestatic 141, 3) := by decide +kernel
theorem d_en_controlPressure_61 : decode q_en_controlPressure.2.1 61 = .ok (.putfield 48, 3) := by decide +kernel
theorem d_en_controlPressure_64 : decode q_en_controlPressure.2.1 64 = .ok (.goto 23, 3) := by decide +kernel
theorem d_en_controlPressure_67 : decode q_en_controlPressure.2.1 67 = .ok (.iload 4, 2) := by decide +kernel
theorem d_en_controlPressure_69 : decode q_en_controlPressure.2.1 69 = .ok (.ifCond .eq 18, 3) := by decide +kernel
theorem d_en_controlPressure_72 : decode q_en_controlPressure.2.1 72 = .ok (.aload_n 1, 1) := by decide +kernel
theorem d_en_controlPressure_73 : decode q_en_controlPressure.2.1 73 = .ok (.bipush 100, 2) := by decide +kernel
theorem d_en_controlPressure_75 : decode q_en_controlPressure.2.1 75 = .ok (.aload_n 1, 1) := by decide +kernel
theorem d_en_controlPressure_76 : decode q_en_controlPressure.2.1 76 = .ok (.getfield 48, 3) := by decide +kernel
theorem d_en_controlPressure_79 : decode q_en_controlPressure.2.1 79 = .ok (.iconst 5, 1) := by decide +kernel
theorem d_en_controlPressure_80 : decode q_en_controlPressure.2.1 80 = .ok (.iadd, 1) := by decide +kernel
theorem d_en_controlPressure_81 : decode q_en_controlPressure.2.1 81 = .ok (.invokestatic 146, 3) := by decide +kernel
theorem d_en_controlPressure_84 : decode q_en_controlPressure.2.1 84 = .ok (.putfield 48, 3) := by decide +kernel
theorem d_en_controlPressure_87 : decode q_en_controlPressure.2.1 87 = .ok (.aload_n 1, 1) := by decide +kernel
theorem d_en_controlPressure_88 : decode q_en_controlPressure.2.1 88 = .ok (.bipush 22, 2) := by decide +kernel
theorem d_en_controlPressure_90 : decode q_en_controlPressure.2.1 90 = .ok (.iload 4, 2) := by decide +kernel
theorem d_en_controlPressure_92 : decode q_en_controlPressure.2.1 92 = .ok (.ifCond .eq 18, 3) := by decide +kernel
theorem d_en_controlPressure_95 : decode q_en_controlPressure.2.1 95 = .ok (.aload_n 0, 1) := by decide +kernel
theorem d_en_controlPressure_96 : decode q_en_controlPressure.2.1 96 = .ok (.aload_n 1, 1) := by decide +kernel
theorem d_en_controlPressure_97 : decode q_en_controlPressure.2.1 97 = .ok (.getfield 70, 3) := by decide +kernel
theorem d_en_controlPressure_100 : decode q_en_controlPressure.2.1 100 = .ok (.invokevirtual 149, 3) := by decide +kernel
theorem d_en_controlPressure_103 : decode q_en_controlPressure.2.1 103 = .ok (.ifCond .eq 7, 3) := by decide +kernel
theorem d_en_controlPressure_106 : decode q_en_controlPressure.2.1 106 = .ok (.iconst 1, 1) := by decide +kernel
theorem d_en_controlPressure_107 : decode q_en_controlPressure.2.1 107 = .ok (.goto 4, 3) := by decide +kernel
theorem d_en_controlPressure_110 : decode q_en_controlPressure.2.1 110 = .ok (.iconst 0, 1) := by decide +kernel
theorem d_en_controlPressure_111 : decode q_en_controlPressure.2.1 111 = .ok (.bipush 30, 2) := by decide +kernel
theorem d_en_controlPressure_113 : decode q_en_controlPressure.2.1 113 = .ok (.iconst 3, 1) := by decide +kernel
theorem d_en_controlPressure_114 : decode q_en_controlPressure.2.1 114 = .ok (.iconst 0, 1) := by decide +kernel
theorem d_en_controlPressure_115 : decode q_en_controlPressure.2.1 115 = .ok (.invokevirtual 101, 3) := by decide +kernel
theorem d_en_controlPressure_118 : decode q_en_controlPressure.2.1 118 = .ok (.return_, 1) := by decide +kernel
theorem w_en_controlPressure_L111 (l : Launch) (lo hi d : Nat) (hS : sm_has lo hi) {h' : sm_H} (s0 : Int32) (s1 : Int32) (s2 : Nat) (h : sm_H) (t2 : sm_at lo hi (0, 7, 0) s2) (hf : f_en_controlPressure_L111 s0 s1 s2 h = some h') : sm_W l lo hi (d + 3) q_en_controlPressure 111 [] [.int s0, .int s1, .ref s2] h none h' := by
  unfold f_en_controlPressure_L111 at hf
  refine sm_bipush (v := 30) (by decide) d_en_controlPressure_111 ?_
  refine sm_iconst (v := 3) (by decide) d_en_controlPressure_113 ?_
  refine sm_iconst (v := 0) (by decide) d_en_controlPressure_114 ?_
  obtain ⟨g41, c42, hf⟩ := sm_bindE hf
  refine sm_callV (As := [.int s1, .int s0, .int 30, .int 3, .int 0]) (rv := none) (h1 := g41) (c := 7) cvv_en_101 rfl rfl t2 (m_st_supervise l lo hi _ t2 c42) rfl rfl d_en_controlPressure_115 ?_
  obtain rfl := sm_ret1 hf
  exact sm_vret d_en_controlPressure_118 rfl
theorem w_en_controlPressure_L110 (l : Launch) (lo hi d : Nat) (hS : sm_has lo hi) {h' : sm_H} (s0 : Int32) (s1 : Nat) (h : sm_H) (t1 : sm_at lo hi (0, 7, 0) s1) (hf : f_en_controlPressure_L110 s0 s1 h = some h') : sm_W l lo hi (d + 3) q_en_controlPressure 110 [] [.int s0, .ref s1] h none h' := by
  unfold f_en_controlPressure_L110 at hf
  refine sm_iconst (v := 0) (by decide) d_en_controlPressure_110 ?_
  exact w_en_controlPressure_L111 l lo hi d hS _ _ _ _ t1 hf
theorem w_en_controlPressure_L87 (l : Launch) (lo hi d : Nat) (hS : sm_has lo hi) {h' : sm_H} (a0 : Nat) (a1 : Nat) (a4 : Int32) (h : sm_H) (e0 : sm_at lo hi (0, 2, 0) a0) (e1 : sm_at lo hi (0, 7, 0) a1) (hf : f_en_controlPressure_L87 a0 a1 a4 h = some h') : sm_W l lo hi (d + 3) q_en_controlPressure 87 [(0, .ref a0), (1, .ref a1), (4, .int a4)] [] h none h' := by
  unfold f_en_controlPressure_L87 at hf
  refine sm_aload_n 1 rfl d_en_controlPressure_87 ?_
  refine sm_bipush (v := 22) (by decide) d_en_controlPressure_88 ?_
  refine sm_iload 2 rfl d_en_controlPressure_90 ?_
  refine sm_if_eq 110 d_en_controlPressure_92 rfl (fun c31 => ?_) (fun c31 => ?_)
  · have hf := sm_ifT c31 hf
    refine sm_sub [] rfl ?_
    exact w_en_controlPressure_L110 l lo hi d hS _ _ _ e1 hf
  · have hf := sm_ifF c31 hf
    refine sm_aload_n 0 rfl d_en_controlPressure_95 ?_
    refine sm_aload_n 1 rfl d_en_controlPressure_96 ?_
    obtain ⟨c32, hf⟩ := sm_gdE hf
    obtain ⟨z33, v34⟩ := sm_isP_at hS c32
    refine sm_getD fl_en_70 e1 rfl z33 d_en_controlPressure_97 ?_
    refine sm_nmR (fun p35 w36 => ?_)
    have hf := sm_letV w36 hf
    have v34 := sm_ev w36 v34
    obtain ⟨r37, g38, c39, hf⟩ := sm_b2E hf
    refine sm_callV (As := [.ref p35]) (rv := some (.int r37)) (h1 := g38) (c := 2) cvv_en_149 rfl rfl e0 (m_en_isStairFanStarted l lo hi _ e0 v34 c39) rfl rfl d_en_controlPressure_100 ?_
    refine sm_if_eq 110 d_en_controlPressure_103 rfl (fun c40 => ?_) (fun c40 => ?_)
    · have hf := sm_ifT c40 hf
      refine sm_sub [] rfl ?_
      exact w_en_controlPressure_L110 l lo hi d hS _ _ _ e1 hf
    · have hf := sm_ifF c40 hf
      refine sm_iconst (v := 1) (by decide) d_en_controlPressure_106 ?_
      refine sm_goto 111 d_en_controlPressure_107 rfl ?_
      refine sm_sub [] rfl ?_
      exact w_en_controlPressure_L111 l lo hi d hS _ _ _ _ e1 hf
theorem w_en_controlPressure_L37 (l : Launch) (lo hi d : Nat) (hS : sm_has lo hi) {h' : sm_H} (a0 : Nat) (a1 : Nat) (a3 : Int32) (s0 : Int32) (h : sm_H) (e0 : sm_at lo hi (0, 2, 0) a0) (e1 : sm_at lo hi (0, 7, 0) a1) (hf : f_en_controlPressure_L37 a0 a1 a3 s0 h = some h') : sm_W l lo hi (d + 3) q_en_controlPressure 37 [(0, .ref a0), (1, .ref a1), (3, .int a3)] [.int s0] h none h' := by
  unfold f_en_controlPressure_L37 at hf
  refine sm_istore (lv' := [(4, .int s0), (0, .ref a0), (1, .ref a1), (3, .int a3)]) d_en_controlPressure_37 rfl rfl ?_
  refine sm_aload_n 2 rfl d_en_controlPressure_39 ?_
  refine sm_getI fl_en_138 e1 rfl d_en_controlPressure_40 ?_
  refine sm_iload_n 3 rfl d_en_controlPressure_43 ?_
  refine sm_iconst (v := 5) (by decide) d_en_controlPressure_44 ?_
  refine sm_iadd d_en_controlPressure_45 ?_
  refine sm_icmp_le 67 d_en_controlPressure_46 rfl (fun c19 => ?_) (fun c19 => ?_)
  · have hf := sm_ifT c19 hf
    refine sm_iload 0 rfl d_en_controlPressure_67 ?_
    refine sm_if_eq 87 d_en_controlPressure_69 rfl (fun c20 => ?_) (fun c20 => ?_)
    · have hf := sm_ifT c20 hf
      refine sm_sub [1, 2, 0] rfl ?_
      exact w_en_controlPressure_L87 l lo hi d hS _ _ _ _ e0 e1 hf
    · have hf := sm_ifF c20 hf
      refine sm_aload_n 2 rfl d_en_controlPressure_72 ?_
      refine sm_bipush (v := 100) (by decide) d_en_controlPressure_73 ?_
      refine sm_aload_n 2 rfl d_en_controlPressure_75 ?_
      refine sm_getI fl_en_48 e1 rfl d_en_controlPressure_76 ?_
      refine sm_iconst (v := 5) (by decide) d_en_controlPressure_79 ?_
      refine sm_iadd d_en_controlPressure_80 ?_
      obtain ⟨r21, g22, c23, hf⟩ := sm_b2E hf
      refine sm_callS (As := [.int 100, .int ((h a1 4) + 5)]) (rv := some (.int r21)) (h1 := g22) cvs_en_146 (m_jm_min l lo hi _ c23) rfl rfl d_en_controlPressure_81 ?_
      refine sm_putI fp_en_48 e1 rfl rfl d_en_controlPressure_84 ?_
      refine sm_nmH (fun g24 w25 => ?_)
      have hf := sm_letV w25 hf
      refine sm_sub [1, 2, 0] rfl ?_
      exact w_en_controlPressure_L87 l lo hi d hS _ _ _ _ e0 e1 hf
  · have hf := sm_ifF c19 hf
    refine sm_aload_n 2 rfl d_en_controlPressure_49 ?_
    refine sm_bipush (v := 20) (by decide) d_en_controlPressure_50 ?_
    refine sm_aload_n 2 rfl d_en_controlPressure_52 ?_
    refine sm_getI fl_en_48 e1 rfl d_en_controlPressure_53 ?_
    refine sm_iconst (v := 5) (by decide) d_en_controlPressure_56 ?_
    refine sm_isub d_en_controlPressure_57 ?_
    obtain ⟨r26, g27, c28, hf⟩ := sm_b2E hf
    refine sm_callS (As := [.int 20, .int ((h a1 4) - 5)]) (rv := some (.int r26)) (h1 := g27) cvs_en_141 (m_jm_max l lo hi _ c28) rfl rfl d_en_controlPressure_58 ?_
    refine sm_putI fp_en_48 e1 rfl rfl d_en_controlPressure_61 ?_
    refine sm_nmH (fun g29 w30 => ?_)
    have hf := sm_letV w30 hf
    refine sm_goto 87 d_en_controlPressure_64 rfl ?_
    refine sm_sub [1, 2, 0] rfl ?_
    exact w_en_controlPressure_L87 l lo hi d hS _ _ _ _ e0 e1 hf
theorem m_en_controlPressure (l : Launch) (lo hi d : Nat) (hS : sm_has lo hi) {a0 : Nat} {a1 : Nat} {a2 : Int32} {h h' : sm_H} (e0 : sm_at lo hi (0, 2, 0) a0) (e1 : sm_at lo hi (0, 7, 0) a1) (hf : f_en_controlPressure a0 a1 a2 h = some h') : sm_Met l lo hi (d + 3) q_en_controlPressure [.ref a0, .ref a1, .int a2] h none h' := by
  refine sm_Met.of (by decide +kernel) rfl ?_
  show sm_W l lo hi (d + 3) q_en_controlPressure 0 [(0, .ref a0), (1, .ref a1), (2, .int a2)] [] h none h'
  unfold f_en_controlPressure at hf
  refine sm_aload_n 1 rfl d_en_controlPressure_0 ?_
  obtain ⟨c1, hf⟩ := sm_gdE hf
  obtain ⟨z2, v3⟩ := sm_isP_at hS c1
  refine sm_getD fl_en_70 e1 rfl z2 d_en_controlPressure_1 ?_
  refine sm_nmR (fun p4 w5 => ?_)
  have hf := sm_letV w5 hf
  have v3 := sm_ev w5 v3
  refine sm_getI fl_en_128 v3 rfl d_en_controlPressure_4 ?_
  refine sm_nmI (fun x6 w7 => ?_)
  have hf := sm_letV w7 hf
  refine sm_istore_n (lv' := [(3, .int x6), (0, .ref a0), (1, .ref a1), (2, .int a2)]) d_en_controlPressure_7 rfl rfl ?_
  refine sm_aload_n 2 rfl d_en_controlPressure_8 ?_
  refine sm_aload_n 2 rfl d_en_controlPressure_9 ?_
  obtain ⟨c8, hf⟩ := sm_gdE hf
  obtain ⟨z9, v10⟩ := sm_isP_at hS c8
  refine sm_getD fl_en_70 e1 rfl z9 d_en_controlPressure_10 ?_
  refine sm_nmR (fun p11 w12 => ?_)
  have hf := sm_letV w12 hf
  have v10 := sm_ev w12 v10
  refine sm_iload_n 3 rfl d_en_controlPressure_13 ?_
  refine sm_aload_n 2 rfl d_en_controlPressure_14 ?_
  refine sm_getI fl_en_131 e1 rfl d_en_controlPressure_15 ?_
  obtain ⟨r13, g14, c15, hf⟩ := sm_b2E hf
  refine sm_callV (As := [.int a2, .int (h a1 6)]) (rv := some (.int r13)) (h1 := g14) (c := 4) cvv_en_134 rfl rfl v10 (m_pl_pressureOf l lo hi _ v10 c15) rfl rfl d_en_controlPressure_18 ?_
  refine sm_putI fp_en_138 e1 rfl rfl d_en_controlPressure_21 ?_
  refine sm_nmH (fun g16 w17 => ?_)
  have hf := sm_letV w17 hf
  refine sm_aload_n 2 rfl d_en_controlPressure_24 ?_
  refine sm_getI fl_en_138 e1 rfl d_en_controlPressure_25 ?_
  refine sm_iload_n 0 rfl d_en_controlPressure_28 ?_
  refine sm_icmp_ge 36 d_en_controlPressure_29 rfl (fun c18 => ?_) (fun c18 => ?_)
  · have hf := sm_ifT c18 hf
    refine sm_iconst (v := 0) (by decide) d_en_controlPressure_36 ?_
    refine sm_sub [1, 2, 0] rfl ?_
    exact w_en_controlPressure_L37 l lo hi d hS _ _ _ _ _ e0 e1 hf
  · have hf := sm_ifF c18 hf
    refine sm_iconst (v := 1) (by decide) d_en_controlPressure_32 ?_
    refine sm_goto 37 d_en_controlPressure_33 rfl ?_
    refine sm_sub [1, 2, 0] rfl ?_
    exact w_en_controlPressure_L37 l lo hi d hS _ _ _ _ _ e0 e1 hf
theorem d_st_fanAir_0 : decode q_st_fanAir.2.1 0 = .ok (.aload_n 0, 1) := by decide +kernel
theorem d_st_fanAir_1 : decode q_st_fanAir.2.1 1 = .ok (.getfield 51, 3) := by decide +kernel
theorem d_st_fanAir_4 : decode q_st_fanAir.2.1 4 = .ok (.getfield 104, 3) := by decide +kernel
theorem d_st_fanAir_7 : decode q_st_fanAir.2.1 7 = .ok (.bipush 16, 2) := by decide +kernel
theorem d_st_fanAir_9 : decode q_st_fanAir.2.1 9 = .ok (.iload_n 1, 1) := by decide +kernel
theorem d_st_fanAir_10 : decode q_st_fanAir.2.1 10 = .ok (.iadd, 1) := by decide +kernel
theorem d_st_fanAir_11 : decode q_st_fanAir.2.1 11 = .ok (.iaload, 1) := by decide +kernel
theorem d_st_fanAir_12 : decode q_st_fanAir.2.1 12 = .ok (.istore_n 2, 1) := by decide +kernel
theorem d_st_fanAir_13 : decode q_st_fanAir.2.1 13 = .ok (.iload_n 2, 1) := by decide +kernel
theorem d_st_fanAir_14 : decode q_st_fanAir.2.1 14 = .ok (.ifCond .le 27, 3) := by decide +kernel
theorem d_st_fanAir_17 : decode q_st_fanAir.2.1 17 = .ok (.aload_n 0, 1) := by decide +kernel
theorem d_st_fanAir_18 : decode q_st_fanAir.2.1 18 = .ok (.getfield 51, 3) := by decide +kernel
theorem d_st_fanAir_21 : decode q_st_fanAir.2.1 21 = .ok (.getfield 138, 3) := by decide +kernel
theorem d_st_fanAir_24 : decode q_st_fanAir.2.1 24 = .ok (.iload_n 1, 1) := by decide +kernel
theorem d_st_fanAir_25 : decode q_st_fanAir.2.1 25 = .ok (.iaload, 1) := by decide +kernel
theorem d_st_fanAir_26 : decode q_st_fanAir.2.1 26 = .ok (.aload_n 0, 1) := by decide +kernel
theorem d_st_fanAir_27 : decode q_st_fanAir.2.1 27 = .ok (.getfield 18, 3) := by decide +kernel
theorem d_st_fanAir_30 : decode q_st_fanAir.2.1 30 = .ok (.bipush 16, 2) := by decide +kernel
theorem d_st_fanAir_32 : decode q_st_fanAir.2.1 32 = .ok (.iload_n 1, 1) := by decide +kernel
theorem d_st_fanAir_33 : decode q_st_fanAir.2.1 33 = .ok (.iadd, 1) := by decide +kernel
theorem d_st_fanAir_34 : decode q_st_fanAir.2.1 34 = .ok (.iaload, 1) := by decide +kernel
theorem d_st_fanAir_35 : decode q_st_fanAir.2.1 35 = .ok (.imul, 1) := by decide +kernel
theorem d_st_fanAir_36 : decode q_st_fanAir.2.1 36 = .ok (.iload_n 2, 1) := by decide +kernel
theorem d_st_fanAir_37 : decode q_st_fanAir.2.1 37 = .ok (.idiv, 1) := by decide +kernel
theorem d_st_fanAir_38 : decode q_st_fanAir.2.1 38 = .ok (.goto 4, 3) := by decide +kernel
theorem d_st_fanAir_41 : decode q_st_fanAir.2.1 41 = .ok (.iconst 0, 1) := by decide +kernel
theorem d_st_fanAir_42 : decode q_st_fanAir.2.1 42 = .ok (.ireturn, 1) := by decide +kernel
theorem w_st_fanAir_L42 (l : Launch) (lo hi d : Nat) (hS : sm_has lo hi) {h' : sm_H} {r0 : Int32} (s0 : Int32) (h : sm_H) (hf : f_st_fanAir_L42 s0 h = some (r0, h')) : sm_W l lo hi (d) q_st_fanAir 42 [] [.int s0] h (some (.int r0)) h' := by
  unfold f_st_fanAir_L42 at hf
  obtain ⟨rfl, rfl⟩ := sm_ret2 hf
  exact sm_iret d_st_fanAir_42 rfl
theorem m_st_fanAir (l : Launch) (lo hi d : Nat) (hS : sm_has lo hi) {a0 : Nat} {a1 : Int32} {r0 : Int32} {h h' : sm_H} (e0 : sm_at lo hi (0, 7, 0) a0) (hf : f_st_fanAir a0 a1 h = some (r0, h')) : sm_Met l lo hi (d) q_st_fanAir [.ref a0, .int a1] h (some (.int r0)) h' := by
  refine sm_Met.of (by decide +kernel) rfl ?_
  show sm_W l lo hi (d) q_st_fanAir 0 [(0, .ref a0), (1, .int a1)] [] h (some (.int r0)) h'
  unfold f_st_fanAir at hf
  refine sm_aload_n 0 rfl d_st_fanAir_0 ?_
  obtain ⟨c1, hf⟩ := sm_gdE hf
  obtain ⟨z2, v3⟩ := sm_isP_at hS c1
  refine sm_getD fl_st_51 e0 rfl z2 d_st_fanAir_1 ?_
  refine sm_nmR (fun p4 w5 => ?_)
  have hf := sm_letV w5 hf
  have v3 := sm_ev w5 v3
  refine sm_getR (n := 2) fl_st_104 v3 rfl d_st_fanAir_4 ?_
  refine sm_bipush (v := 16) (by decide) d_st_fanAir_7 ?_
  refine sm_iload_n 1 rfl d_st_fanAir_9 ?_
  refine sm_iadd d_st_fanAir_10 ?_
  obtain ⟨c6, hf⟩ := sm_gdE hf
  refine sm_iald (sm_at_arr (sm_inner v3 8 rfl rfl rfl)) c6 d_st_fanAir_11 ?_
  refine sm_nmI (fun x7 w8 => ?_)
  have hf := sm_letV w8 hf
  refine sm_istore_n (lv' := [(2, .int x7), (0, .ref a0), (1, .int a1)]) d_st_fanAir_12 rfl rfl ?_
  refine sm_iload_n 0 rfl d_st_fanAir_13 ?_
  refine sm_if_le 41 d_st_fanAir_14 rfl (fun c9 => ?_) (fun c9 => ?_)
  · have hf := sm_ifT c9 hf
    refine sm_iconst (v := 0) (by decide) d_st_fanAir_41 ?_
    refine sm_sub [] rfl ?_
    exact w_st_fanAir_L42 l lo hi d hS _ _ hf
  · have hf := sm_ifF c9 hf
    refine sm_aload_n 1 rfl d_st_fanAir_17 ?_
    obtain ⟨c10, hf⟩ := sm_gdE hf
    obtain ⟨z11, v12⟩ := sm_isP_at hS c10
    refine sm_getD fl_st_51 e0 rfl z11 d_st_fanAir_18 ?_
    refine sm_nmR (fun p13 w14 => ?_)
    have hf := sm_letV w14 hf
    have v12 := sm_ev w14 v12
    refine sm_getR (n := 4) fl_st_138 v12 rfl d_st_fanAir_21 ?_
    refine sm_iload_n 2 rfl d_st_fanAir_24 ?_
    obtain ⟨c15, hf⟩ := sm_gdE hf
    refine sm_iald (sm_at_arr (sm_inner v12 10 rfl rfl rfl)) c15 d_st_fanAir_25 ?_
    refine sm_aload_n 1 rfl d_st_fanAir_26 ?_
    refine sm_getR (n := 3) fl_st_18 e0 rfl d_st_fanAir_27 ?_
    refine sm_bipush (v := 16) (by decide) d_st_fanAir_30 ?_
    refine sm_iload_n 2 rfl d_st_fanAir_32 ?_
    refine sm_iadd d_st_fanAir_33 ?_
    obtain ⟨c16, hf⟩ := sm_gdE hf
    refine sm_iald (sm_at_arr (sm_inner e0 11 rfl rfl rfl)) c16 d_st_fanAir_34 ?_
    refine sm_imul d_st_fanAir_35 ?_
    refine sm_iload_n 0 rfl d_st_fanAir_36 ?_
    obtain ⟨c17, hf⟩ := sm_gdE hf
    refine sm_idiv c17 d_st_fanAir_37 ?_
    refine sm_goto 42 d_st_fanAir_38 rfl ?_
    refine sm_sub [] rfl ?_
    exact w_st_fanAir_L42 l lo hi d hS _ _ hf
theorem d_st_provenOpen_0 : decode q_st_provenOpen.2.1 0 = .ok (.iconst 0, 1) := by decide +kernel
theorem d_st_provenOpen_1 : decode q_st_provenOpen.2.1 1 = .ok (.istore_n 1, 1) := by decide +kernel
theorem d_st_provenOpen_2 : decode q_st_provenOpen.2.1 2 = .ok (.iconst 0, 1) := by decide +kernel
theorem d_st_provenOpen_3 : decode q_st_provenOpen.2.1 3 = .ok (.istore_n 2, 1) := by decide +kernel
theorem d_st_provenOpen_4 : decode q_st_provenOpen.2.1 4 = .ok (.iload_n 2, 1) := by decide +kernel
theorem d_st_provenOpen_5 : decode q_st_provenOpen.2.1 5 = .ok (.aload_n 0, 1) := by decide +kernel
theorem d_st_provenOpen_6 : decode q_st_provenOpen.2.1 6 = .ok (.getfield 51, 3) := by decide +kernel
theorem d_st_provenOpen_9 : decode q_st_provenOpen.2.1 9 = .ok (.getfield 92, 3) := by decide +kernel
theorem d_st_provenOpen_12 : decode q_st_provenOpen.2.1 12 = .ok (.if_icmp .ge 38, 3) := by decide +kernel
theorem d_st_provenOpen_15 : decode q_st_provenOpen.2.1 15 = .ok (.iload_n 1, 1) := by decide +kernel
theorem d_st_provenOpen_16 : decode q_st_provenOpen.2.1 16 = .ok (.iload_n 2, 1) := by decide +kernel
theorem d_st_provenOpen_17 : decode q_st_provenOpen.2.1 17 = .ok (.aload_n 0, 1) := by decide +kernel
theorem d_st_provenOpen_18 : decode q_st_provenOpen.2.1 18 = .ok (.getfield 18, 3) := by decide +kernel
theorem d_st_provenOpen_21 : decode q_st_provenOpen.2.1 21 = .ok (.iload_n 2, 1) := by decide +kernel
theorem d_st_provenOpen_22 : decode q_st_provenOpen.2.1 22 = .ok (.iaload, 1) := by decide +kernel
theorem d_st_provenOpen_23 : decode q_st_provenOpen.2.1 23 = .ok (.aload_n 0, 1) := by decide +kernel
theorem d_st_provenOpen_24 : decode q_st_provenOpen.2.1 24 = .ok (.getfield 51, 3) := by decide +kernel
theorem d_st_provenOpen_27 : decode q_st_provenOpen.2.1 27 = .ok (.getfield 104, 3) := by decide +kernel
theorem d_st_provenOpen_30 : decode q_st_provenOpen.2.1 30 = .ok (.iload_n 2, 1) := by decide +kernel
theorem d_st_provenOpen_31 : decode q_st_provenOpen.2.1 31 = .ok (.iaload, 1) := by decide +kernel
theorem d_st_provenOpen_32 : decode q_st_provenOpen.2.1 32 = .ok (.if_icmp .ne 7, 3) := by decide +kernel
theorem d_st_provenOpen_35 : decode q_st_provenOpen.2.1 35 = .ok (.iconst 1, 1) := by decide +kernel
theorem d_st_provenOpen_36 : decode q_st_provenOpen.2.1 36 = .ok (.goto 4, 3) := by decide +kernel
theorem d_st_provenOpen_39 : decode q_st_provenOpen.2.1 39 = .ok (.iconst 0, 1) := by decide +kernel
theorem d_st_provenOpen_40 : decode q_st_provenOpen.2.1 40 = .ok (.invokestatic 127, 3) := by decide +kernel
theorem d_st_provenOpen_43 : decode q_st_provenOpen.2.1 43 = .ok (.istore_n 1, 1) := by decide +kernel
theorem d_st_provenOpen_44 : decode q_st_provenOpen.2.1 44 = .ok (.iinc 2 1, 3) := by decide +kernel
theorem d_st_provenOpen_47 : decode q_st_provenOpen.2.1 47 = .ok (.goto (-43), 3) := by decide +kernel
theorem d_st_provenOpen_50 : decode q_st_provenOpen.2.1 50 = .ok (.iload_n 1, 1) := by decide +kernel
theorem d_st_provenOpen_51 : decode q_st_provenOpen.2.1 51 = .ok (.ireturn, 1) := by decide +kernel
theorem w_st_provenOpen_L50 (l : Launch) (lo hi d : Nat) (hS : sm_has lo hi) {h' : sm_H} {r0 : Int32} (a1 : Int32) (h : sm_H) (hf : f_st_provenOpen_L50 a1 h = some (r0, h')) : sm_W l lo hi (d + 1) q_st_provenOpen 50 [(1, .int a1)] [] h (some (.int r0)) h' := by
  unfold f_st_provenOpen_L50 at hf
  refine sm_iload_n 0 rfl d_st_provenOpen_50 ?_
  obtain ⟨rfl, rfl⟩ := sm_ret2 hf
  exact sm_iret d_st_provenOpen_51 rfl
theorem w_st_provenOpen_L40 (l : Launch) (lo hi d : Nat) (hS : sm_has lo hi) {k4 : Nat → Int32 → Int32 → sm_H → Option (Int32 × sm_H)} {h' : sm_H} {r0 : Int32} (hk4 : ∀ (a0 : Nat) (a1 : Int32) (a2 : Int32) (h : sm_H) (_ : sm_at lo hi (0, 7, 0) a0) , k4 a0 a1 a2 h = some (r0, h') → sm_W l lo hi (d + 1) q_st_provenOpen 4 [(0, .ref a0), (1, .int a1), (2, .int a2)] [] h (some (.int r0)) h') (a0 : Nat) (a2 : Int32) (s0 : Int32) (s1 : Int32) (s2 : Int32) (h : sm_H) (e0 : sm_at lo hi (0, 7, 0) a0) (hf : f_st_provenOpen_L40 k4 a0 a2 s0 s1 s2 h = some (r0, h')) : sm_W l lo hi (d + 1) q_st_provenOpen 40 [(0, .ref a0), (2, .int a2)] [.int s0, .int s1, .int s2] h (some (.int r0)) h' := by
  unfold f_st_provenOpen_L40 at hf
  obtain ⟨r15, g16, c17, hf⟩ := sm_b2E hf
  refine sm_callN (As := [.int s2, .int s1, .int s0]) (rv := some (.int r15)) (h1 := g16) cvn_st_127 (m_sc_with l lo hi _ c17) rfl rfl d_st_provenOpen_40 ?_
  refine sm_istore_n (lv' := [(1, .int r15), (0, .ref a0), (2, .int a2)]) d_st_provenOpen_43 rfl rfl ?_
  obtain ⟨x18, w19⟩ : ∃ v : Int32, v = a2 + 1 := ⟨_, rfl⟩
  have hf := sm_letV w19 hf
  refine sm_iinc (v := x18) (lv' := [(2, .int x18), (1, .int r15), (0, .ref a0)]) 2 rfl (by rw [w19]; rfl) d_st_provenOpen_44 rfl rfl ?_
  refine sm_goto 4 d_st_provenOpen_47 rfl ?_
  refine sm_sub [2, 1, 0] rfl ?_
  exact hk4 _ _ _ _ e0 hf
theorem w_st_provenOpen_L4 (l : Launch) (lo hi d : Nat) (hS : sm_has lo hi) {h' : sm_H} {r0 : Int32} : ∀ (n : Nat) (a0 : Nat) (a1 : Int32) (a2 : Int32) (h : sm_H) (e0 : sm_at lo hi (0, 7, 0) a0) (hf : f_st_provenOpen_L4 n a0 a1 a2 h = some (r0, h')), sm_W l lo hi (d + 1) q_st_provenOpen 4 [(0, .ref a0), (1, .int a1), (2, .int a2)] [] h (some (.int r0)) h' := by
  intro n
  induction n with
  | zero =>
    intro a0 a1 a2 h e0 hf
    have z : (none : Option (Int32 × sm_H)) = some _ := hf
    cases z
  | succ n ih =>
    intro a0 a1 a2 h e0 hf
    unfold f_st_provenOpen_L4 at hf
    refine sm_iload_n 2 rfl d_st_provenOpen_4 ?_
    refine sm_aload_n 0 rfl d_st_provenOpen_5 ?_
    obtain ⟨c1, hf⟩ := sm_gdE hf
    obtain ⟨z2, v3⟩ := sm_isP_at hS c1
    refine sm_getD fl_st_51 e0 rfl z2 d_st_provenOpen_6 ?_
    refine sm_nmR (fun p4 w5 => ?_)
    have hf := sm_letV w5 hf
    have v3 := sm_ev w5 v3
    refine sm_getI fl_st_92 v3 rfl d_st_provenOpen_9 ?_
    refine sm_icmp_ge 50 d_st_provenOpen_12 rfl (fun c6 => ?_) (fun c6 => ?_)
    · have hf := sm_ifT c6 hf
      refine sm_sub [1] rfl ?_
      exact w_st_provenOpen_L50 l lo hi d hS _ _ hf
    · have hf := sm_ifF c6 hf
      refine sm_iload_n 1 rfl d_st_provenOpen_15 ?_
      refine sm_iload_n 2 rfl d_st_provenOpen_16 ?_
      refine sm_aload_n 0 rfl d_st_provenOpen_17 ?_
      refine sm_getR (n := 3) fl_st_18 e0 rfl d_st_provenOpen_18 ?_
      refine sm_iload_n 2 rfl d_st_provenOpen_21 ?_
      obtain ⟨c7, hf⟩ := sm_gdE hf
      refine sm_iald (sm_at_arr (sm_inner e0 11 rfl rfl rfl)) c7 d_st_provenOpen_22 ?_
      refine sm_aload_n 0 rfl d_st_provenOpen_23 ?_
      obtain ⟨c8, hf⟩ := sm_gdE hf
      obtain ⟨z9, v10⟩ := sm_isP_at hS c8
      refine sm_getD fl_st_51 e0 rfl z9 d_st_provenOpen_24 ?_
      refine sm_nmR (fun p11 w12 => ?_)
      have hf := sm_letV w12 hf
      have v10 := sm_ev w12 v10
      refine sm_getR (n := 2) fl_st_104 v10 rfl d_st_provenOpen_27 ?_
      refine sm_iload_n 2 rfl d_st_provenOpen_30 ?_
      obtain ⟨c13, hf⟩ := sm_gdE hf
      refine sm_iald (sm_at_arr (sm_inner v10 8 rfl rfl rfl)) c13 d_st_provenOpen_31 ?_
      refine sm_icmp_ne 39 d_st_provenOpen_32 rfl (fun c14 => ?_) (fun c14 => ?_)
      · have hf := sm_ifF c14 hf
        refine sm_iconst (v := 0) (by decide) d_st_provenOpen_39 ?_
        refine sm_sub [0, 2] rfl ?_
        exact w_st_provenOpen_L40 l lo hi d hS ih _ _ _ _ _ _ e0 hf
      · have hf := sm_ifT c14 hf
        refine sm_iconst (v := 1) (by decide) d_st_provenOpen_35 ?_
        refine sm_goto 40 d_st_provenOpen_36 rfl ?_
        refine sm_sub [0, 2] rfl ?_
        exact w_st_provenOpen_L40 l lo hi d hS ih _ _ _ _ _ _ e0 hf
theorem m_st_provenOpen (l : Launch) (lo hi d : Nat) (hS : sm_has lo hi) {a0 : Nat} {r0 : Int32} {h h' : sm_H} (e0 : sm_at lo hi (0, 7, 0) a0) (hf : f_st_provenOpen a0 h = some (r0, h')) : sm_Met l lo hi (d + 1) q_st_provenOpen [.ref a0] h (some (.int r0)) h' := by
  refine sm_Met.of (by decide +kernel) rfl ?_
  show sm_W l lo hi (d + 1) q_st_provenOpen 0 [(0, .ref a0)] [] h (some (.int r0)) h'
  unfold f_st_provenOpen at hf
  refine sm_iconst (v := 0) (by decide) d_st_provenOpen_0 ?_
  refine sm_istore_n (lv' := [(1, .int 0), (0, .ref a0)]) d_st_provenOpen_1 rfl rfl ?_
  refine sm_iconst (v := 0) (by decide) d_st_provenOpen_2 ?_
  refine sm_istore_n (lv' := [(2, .int 0), (1, .int 0), (0, .ref a0)]) d_st_provenOpen_3 rfl rfl ?_
  refine sm_sub [2, 1, 0] rfl ?_
  exact w_st_provenOpen_L4 l lo hi d hS sm_N _ _ _ _ e0 hf
theorem d_ji_bitCount_0 : decode q_ji_bitCount.2.1 0 = .ok (.iload_n 0, 1) := by decide +kernel
theorem d_ji_bitCount_1 : decode q_ji_bitCount.2.1 1 = .ok (.iload_n 0, 1) := by decide +kernel
theorem d_ji_bitCount_2 : decode q_ji_bitCount.2.1 2 = .ok (.iconst 1, 1) := by decide +kernel
theorem d_ji_bitCount_3 : decode q_ji_bitCount.2.1 3 = .ok (.iushr, 1) := by decide +kernel
theorem d_ji_bitCount_4 : decode q_ji_bitCount.2.1 4 = .ok (.ldc_w 265, 3) := by decide +kernel
theorem d_ji_bitCount_7 : decode q_ji_bitCount.2.1 7 = .ok (.iand, 1) := by decide +kernel
theorem d_ji_bitCount_8 : decode q_ji_bitCount.2.1 8 = .ok (.isub, 1) := by decide +kernel
theorem d_ji_bitCount_9 : decode q_ji_bitCount.2.1 9 = .ok (.istore_n 0, 1) := by decide +kernel
theorem d_ji_bitCount_10 : decode q_ji_bitCount.2.1 10 = .ok (.iload_n 0, 1) := by decide +kernel
theorem d_ji_bitCount_11 : decode q_ji_bitCount.2.1 11 = .ok (.ldc_w 266, 3) := by decide +kernel
theorem d_ji_bitCount_14 : decode q_ji_bitCount.2.1 14 = .ok (.iand, 1) := by decide +kernel
theorem d_ji_bitCount_15 : decode q_ji_bitCount.2.1 15 = .ok (.iload_n 0, 1) := by decide +kernel
theorem d_ji_bitCount_16 : decode q_ji_bitCount.2.1 16 = .ok (.iconst 2, 1) := by decide +kernel
theorem d_ji_bitCount_17 : decode q_ji_bitCount.2.1 17 = .ok (.iushr, 1) := by decide +kernel
theorem d_ji_bitCount_18 : decode q_ji_bitCount.2.1 18 = .ok (.ldc_w 266, 3) := by decide +kernel
theorem d_ji_bitCount_21 : decode q_ji_bitCount.2.1 21 = .ok (.iand, 1) := by decide +kernel
theorem d_ji_bitCount_22 : decode q_ji_bitCount.2.1 22 = .ok (.iadd, 1) := by decide +kernel
theorem d_ji_bitCount_23 : decode q_ji_bitCount.2.1 23 = .ok (.istore_n 0, 1) := by decide +kernel
theorem d_ji_bitCount_24 : decode q_ji_bitCount.2.1 24 = .ok (.iload_n 0, 1) := by decide +kernel
theorem d_ji_bitCount_25 : decode q_ji_bitCount.2.1 25 = .ok (.iload_n 0, 1) := by decide +kernel
theorem d_ji_bitCount_26 : decode q_ji_bitCount.2.1 26 = .ok (.iconst 4, 1) := by decide +kernel
theorem d_ji_bitCount_27 : decode q_ji_bitCount.2.1 27 = .ok (.iushr, 1) := by decide +kernel
theorem d_ji_bitCount_28 : decode q_ji_bitCount.2.1 28 = .ok (.iadd, 1) := by decide +kernel
theorem d_ji_bitCount_29 : decode q_ji_bitCount.2.1 29 = .ok (.ldc_w 267, 3) := by decide +kernel
theorem d_ji_bitCount_32 : decode q_ji_bitCount.2.1 32 = .ok (.iand, 1) := by decide +kernel
theorem d_ji_bitCount_33 : decode q_ji_bitCount.2.1 33 = .ok (.istore_n 0, 1) := by decide +kernel
theorem d_ji_bitCount_34 : decode q_ji_bitCount.2.1 34 = .ok (.iload_n 0, 1) := by decide +kernel
theorem d_ji_bitCount_35 : decode q_ji_bitCount.2.1 35 = .ok (.iload_n 0, 1) := by decide +kernel
theorem d_ji_bitCount_36 : decode q_ji_bitCount.2.1 36 = .ok (.bipush 8, 2) := by decide +kernel
theorem d_ji_bitCount_38 : decode q_ji_bitCount.2.1 38 = .ok (.iushr, 1) := by decide +kernel
theorem d_ji_bitCount_39 : decode q_ji_bitCount.2.1 39 = .ok (.iadd, 1) := by decide +kernel
theorem d_ji_bitCount_40 : decode q_ji_bitCount.2.1 40 = .ok (.istore_n 0, 1) := by decide +kernel
theorem d_ji_bitCount_41 : decode q_ji_bitCount.2.1 41 = .ok (.iload_n 0, 1) := by decide +kernel
theorem d_ji_bitCount_42 : decode q_ji_bitCount.2.1 42 = .ok (.iload_n 0, 1) := by decide +kernel
theorem d_ji_bitCount_43 : decode q_ji_bitCount.2.1 43 = .ok (.bipush 16, 2) := by decide +kernel
theorem d_ji_bitCount_45 : decode q_ji_bitCount.2.1 45 = .ok (.iushr, 1) := by decide +kernel
theorem d_ji_bitCount_46 : decode q_ji_bitCount.2.1 46 = .ok (.iadd, 1) := by decide +kernel
theorem d_ji_bitCount_47 : decode q_ji_bitCount.2.1 47 = .ok (.istore_n 0, 1) := by decide +kernel
theorem d_ji_bitCount_48 : decode q_ji_bitCount.2.1 48 = .ok (.iload_n 0, 1) := by decide +kernel
theorem d_ji_bitCount_49 : decode q_ji_bitCount.2.1 49 = .ok (.bipush 63, 2) := by decide +kernel
theorem d_ji_bitCount_51 : decode q_ji_bitCount.2.1 51 = .ok (.iand, 1) := by decide +kernel
theorem d_ji_bitCount_52 : decode q_ji_bitCount.2.1 52 = .ok (.ireturn, 1) := by decide +kernel
theorem m_ji_bitCount (l : Launch) (lo hi d : Nat) {a0 : Int32} {r0 : Int32} {h h' : sm_H} (hf : f_ji_bitCount a0 h = some (r0, h')) : sm_Met l lo hi (d) q_ji_bitCount [.int a0] h (some (.int r0)) h' := by
  refine sm_Met.of (by decide +kernel) rfl ?_
  show sm_W l lo hi (d) q_ji_bitCount 0 [(0, .int a0)] [] h (some (.int r0)) h'
  unfold f_ji_bitCount at hf
  refine sm_iload_n 0 rfl d_ji_bitCount_0 ?_
  refine sm_iload_n 0 rfl d_ji_bitCount_1 ?_
  refine sm_iconst (v := 1) (by decide) d_ji_bitCount_2 ?_
  refine sm_iushr d_ji_bitCount_3 ?_
  refine sm_ldcw (v := 1431655765) (sm_mq4 203 (by decide +kernel) rfl) d_ji_bitCount_4 ?_
  refine sm_iand d_ji_bitCount_7 ?_
  refine sm_isub d_ji_bitCount_8 ?_
  refine sm_nmI (fun x1 w2 => ?_)
  have hf := sm_letV w2 hf
  refine sm_istore_n (lv' := [(0, .int x1)]) d_ji_bitCount_9 rfl rfl ?_
  refine sm_iload_n 0 rfl d_ji_bitCount_10 ?_
  refine sm_ldcw (v := 858993459) (sm_mq4 204 (by decide +kernel) rfl) d_ji_bitCount_11 ?_
  refine sm_iand d_ji_bitCount_14 ?_
  refine sm_iload_n 0 rfl d_ji_bitCount_15 ?_
  refine sm_iconst (v := 2) (by decide) d_ji_bitCount_16 ?_
  refine sm_iushr d_ji_bitCount_17 ?_
  refine sm_ldcw (v := 858993459) (sm_mq4 204 (by decide +kernel) rfl) d_ji_bitCount_18 ?_
  refine sm_iand d_ji_bitCount_21 ?_
  refine sm_iadd d_ji_bitCount_22 ?_
  refine sm_nmI (fun x3 w4 => ?_)
  have hf := sm_letV w4 hf
  refine sm_istore_n (lv' := [(0, .int x3)]) d_ji_bitCount_23 rfl rfl ?_
  refine sm_iload_n 0 rfl d_ji_bitCount_24 ?_
  refine sm_iload_n 0 rfl d_ji_bitCount_25 ?_
  refine sm_iconst (v := 4) (by decide) d_ji_bitCount_26 ?_
  refine sm_iushr d_ji_bitCount_27 ?_
  refine sm_iadd d_ji_bitCount_28 ?_
  refine sm_ldcw (v := 252645135) (sm_mq4 205 (by decide +kernel) rfl) d_ji_bitCount_29 ?_
  refine sm_iand d_ji_bitCount_32 ?_
  refine sm_nmI (fun x5 w6 => ?_)
  have hf := sm_letV w6 hf
  refine sm_istore_n (lv' := [(0, .int x5)]) d_ji_bitCount_33 rfl rfl ?_
  refine sm_iload_n 0 rfl d_ji_bitCount_34 ?_
  refine sm_iload_n 0 rfl d_ji_bitCount_35 ?_
  refine sm_bipush (v := 8) (by decide) d_ji_bitCount_36 ?_
  refine sm_iushr d_ji_bitCount_38 ?_
  refine sm_iadd d_ji_bitCount_39 ?_
  refine sm_nmI (fun x7 w8 => ?_)
  have hf := sm_letV w8 hf
  refine sm_istore_n (lv' := [(0, .int x7)]) d_ji_bitCount_40 rfl rfl ?_
  refine sm_iload_n 0 rfl d_ji_bitCount_41 ?_
  refine sm_iload_n 0 rfl d_ji_bitCount_42 ?_
  refine sm_bipush (v := 16) (by decide) d_ji_bitCount_43 ?_
  refine sm_iushr d_ji_bitCount_45 ?_
  refine sm_iadd d_ji_bitCount_46 ?_
  refine sm_nmI (fun x9 w10 => ?_)
  have hf := sm_letV w10 hf
  refine sm_istore_n (lv' := [(0, .int x9)]) d_ji_bitCount_47 rfl rfl ?_
  refine sm_iload_n 0 rfl d_ji_bitCount_48 ?_
  refine sm_bipush (v := 63) (by decide) d_ji_bitCount_49 ?_
  refine sm_iand d_ji_bitCount_51 ?_
  obtain ⟨rfl, rfl⟩ := sm_ret2 hf
  exact sm_iret d_ji_bitCount_52 rfl
theorem d_en_divideAir_0 : decode q_en_divideAir.2.1 0 = .ok (.aload_n 1, 1) := by decide +kernel
theorem d_en_divideAir_1 : decode q_en_divideAir.2.1 1 = .ok (.getfield 70, 3) := by decide +kernel
theorem d_en_divideAir_4 : decode q_en_divideAir.2.1 4 = .ok (.astore_n 2, 1) := by decide +kernel
theorem d_en_divideAir_5 : decode q_en_divideAir.2.1 5 = .ok (.aload_n 1, 1) := by decide +kernel
theorem d_en_divideAir_6 : decode q_en_divideAir.2.1 6 = .ok (.invokevirtual 105, 3) := by decide +kernel
theorem d_en_divideAir_9 : decode q_en_divideAir.2.1 9 = .ok (.istore_n 3, 1) := by decide +kernel
theorem d_en_divideAir_10 : decode q_en_divideAir.2.1 10 = .ok (.aload_n 0, 1) := by decide +kernel
theorem d_en_divideAir_11 : decode q_en_divideAir.2.1 11 = .ok (.getfield 18, 3) := by decide +kernel
theorem d_en_divideAir_14 : decode q_en_divideAir.2.1 14 = .ok (.iconst 0, 1) := by decide +kernel
theorem d_en_divideAir_15 : decode q_en_divideAir.2.1 15 = .ok (.invokestatic 157, 3) := by decide +kernel
theorem d_en_divideAir_18 : decode q_en_divideAir.2.1 18 = .ok (.aload_n 0, 1) := by decide +kernel
theorem d_en_divideAir_19 : decode q_en_divideAir.2.1 19 = .ok (.getfield 22, 3) := by decide +kernel
theorem d_en_divideAir_22 : decode q_en_divideAir.2.1 22 = .ok (.iconst 0, 1) := by decide +kernel
theorem d_en_divideAir_23 : decode q_en_divideAir.2.1 23 = .ok (.invokestatic 157, 3) := by decide +kernel
theorem d_en_divideAir_26 : decode q_en_divideAir.2.1 26 = .ok (.iconst 0, 1) := by decide +kernel
theorem d_en_divideAir_27 : decode q_en_divideAir.2.1 27 = .ok (.istore 4, 2) := by decide +kernel
theorem d_en_divideAir_29 : decode q_en_divideAir.2.1 29 = .ok (.iload 4, 2) := by decide +kernel
theorem d_en_divideAir_31 : decode q_en_divideAir.2.1 31 = .ok (.aload_n 2, 1) := by decide +kernel
theorem d_en_divideAir_32 : decode q_en_divideAir.2.1 32 = .ok (.getfield 108, 3) := by decide +kernel
theorem d_en_divideAir_35 : decode q_en_divideAir.2.1 35 = .ok (.if_icmp .ge 120, 3) := by decide +kernel
theorem d_en_divideAir_38 : decode q_en_divideAir.2.1 38 = .ok (.aload_n 2, 1) := by decide +kernel
theorem d_en_divideAir_39 : decode q_en_divideAir.2.1 39 = .ok (.getfield 163, 3) := by decide +kernel
theorem d_en_divideAir_42 : decode q_en_divideAir.2.1 42 = .ok (.iload 4, 2) := by decide +kernel
theorem d_en_divideAir_44 : decode q_en_divideAir.2.1 44 = .ok (.iaload, 1) := by decide +kernel
theorem d_en_divideAir_45 : decode q_en_divideAir.2.1 45 = .ok (.iload_n 3, 1) := by decide +kernel
theorem d_en_divideAir_46 : decode q_en_divideAir.2.1 46 = .ok (.iand, 1) := by decide +kernel
theorem d_en_divideAir_47 : decode q_en_divideAir.2.1 47 = .ok (.istore 5, 2) := by decide +kernel
theorem d_en_divideAir_49 : decode q_en_divideAir.2.1 49 = .ok (.iload 5, 2) := by decide +kernel
theorem d_en_divideAir_51 : decode q_en_divideAir.2.1 51 = .ok (.invokestatic 166, 3) := by decide +kernel
theorem d_en_divideAir_54 : decode q_en_divideAir.2.1 54 = .ok (.istore 6, 2) := by decide +kernel
theorem d_en_divideAir_56 : decode q_en_divideAir.2.1 56 = .ok (.iload 6, 2) := by decide +kernel
theorem d_en_divideAir_58 : decode q_en_divideAir.2.1 58 = .ok (.ifCond .le 15, 3) := by decide +kernel
theorem d_en_divideAir_61 : decode q_en_divideAir.2.1 61 = .ok (.aload_n 1, 1) := by decide +kernel
theorem d_en_divideAir_62 : decode q_en_divideAir.2.1 62 = .ok (.iload 4, 2) := by decide +kernel
theorem d_en_divideAir_64 : decode q_en_divideAir.2.1 64 = .ok (.invokevirtual 172, 3) := by decide +kernel
theorem d_en_divideAir_67 : decode q_en_divideAir.2.1 67 = .ok (.iload 6, 2) := by decide +kernel
theorem d_en_divideAir_69 : decode q_en_divideAir.2.1 69 = .ok (.idiv, 1) := by decide +kernel
theorem d_en_divideAir_70 : decode q_en_divideAir.2.1 70 = .ok (.goto 4, 3) := by decide +kernel
theorem d_en_divideAir_73 : decode q_en_divideAir.2.1 73 = .ok (.iconst 0, 1) := by decide +kernel
theorem d_en_divideAir_74 : decode q_en_divideAir.2.1 74 = .ok (.istore 7, 2) := by decide +kernel
theorem d_en_divideAir_76 : decode q_en_divideAir.2.1 76 = .ok (.aload_n 2, 1) := by decide +kernel
theorem d_en_divideAir_77 : decode q_en_divideAir.2.1 77 = .ok (.getfield 175, 3) := by decide +kernel
theorem d_en_divideAir_80 : decode q_en_divideAir.2.1 80 = .ok (.bipush 16, 2) := by decide +kernel
theorem d_en_divideAir_82 : decode q_en_divideAir.2.1 82 = .ok (.iload 4, 2) := by decide +kernel
theorem d_en_divideAir_84 : decode q_en_divideAir.2.1 84 = .ok (.iadd, 1) := by decide +kernel
theorem d_en_divideAir_85 : decode q_en_divideAir.2.1 85 = .ok (.iaload, 1) := by decide +kernel
theorem d_en_divideAir_86 : decode q_en_divideAir.2.1 86 = .ok (.ifCond .ne 10, 3) := by decide +kernel
theorem d_en_divideAir_89 : decode q_en_divideAir.2.1 89 = .ok (.aload_n 0, 1) := by decide +kernel
theorem d_en_divideAir_90 : decode q_en_divideAir.2.1 90 = .ok (.getfield 18, 3) := by decide +kernel
theorem d_en_divideAir_93 : decode q_en_divideAir.2.1 93 = .ok (.goto 7, 3) := by decide +kernel
theorem d_en_divideAir_96 : decode q_en_divideAir.2.1 96 = .ok (.aload_n 0, 1) := by decide +kernel
theorem d_en_divideAir_97 : decode q_en_divideAir.2.1 97 = .ok (.getfield 22, 3) := by decide +kernel
theorem d_en_divideAir_100 : decode q_en_divideAir.2.1 100 = .ok (.astore 8, 2) := by decide +kernel
theorem d_en_divideAir_102 : decode q_en_divideAir.2.1 102 = .ok (.iconst 0, 1) := by decide +kernel
theorem d_en_divideAir_103 : decode q_en_divideAir.2.1 103 = .ok (.istore 9, 2) := by decide +kernel
theorem d_en_divideAir_105 : decode q_en_divideAir.2.1 105 = .ok (.iload 9, 2) := by decide +kernel
theorem d_en_divideAir_107 : decode q_en_divideAir.2.1 107 = .ok (.aload_n 2, 1) := by decide +kernel
theorem d_en_divideAir_108 : decode q_en_divideAir.2.1 108 = .ok (.getfield 74, 3) := by decide +kernel
theorem d_en_divideAir_111 : decode q_en_divideAir.2.1 111 = .ok (.if_icmp .ge 38, 3) := by decide +kernel
theorem d_en_divideAir_114 : decode q_en_divideAir.2.1 114 = .ok (.aload 8, 2) := by decide +kernel
theorem d_en_divideAir_116 : decode q_en_divideAir.2.1 116 = .ok (.aload_n 2, 1) := by decide +kernel
theorem d_en_divideAir_117 : decode q_en_divideAir.2.1 117 = .ok (.getfield 178, 3) := by decide +kernel
theorem d_en_divideAir_120 : decode q_en_divideAir.2.1 120 = .ok (.iload 9, 2) := by decide +kernel
theorem d_en_divideAir_122 : decode q_en_divideAir.2.1 122 = .ok (.iaload, 1) := by decide +kernel
theorem d_en_divideAir_123 : decode q_en_divideAir.2.1 123 = .ok (.dup2, 1) := by decide +kernel
theorem d_en_divideAir_124 : decode q_en_divideAir.2.1 124 = .ok (.iaload, 1) := by decide +kernel
theorem d_en_divideAir_125 : decode q_en_divideAir.2.1 125 = .ok (.iload 5, 2) := by decide +kernel
theorem d_en_divideAir_127 : decode q_en_divideAir.2.1 127 = .ok (.iload 9, 2) := by decide +kernel
theorem d_en_divideAir_129 : decode q_en_divideAir.2.1 129 = .ok (.invokestatic 88, 3) := by decide +kernel
theorem d_en_divideAir_132 : decode q_en_divideAir.2.1 132 = .ok (.ifCond .eq 8, 3) := by decide +kernel
theorem d_en_divideAir_135 : decode q_en_divideAir.2.1 135 = .ok (.iload 7, 2) := by decide +kernel
theorem d_en_divideAir_137 : decode q_en_divideAir.2.1 137 = .ok (.goto 4, 3) := by decide +kernel
theorem d_en_divideAir_140 : decode q_en_divideAir.2.1 140 = .ok (.iconst 0, 1) := by decide +kernel
theorem d_en_divideAir_141 : decode q_en_divideAir.2.1 141 = .ok (.iadd, 1) := by decide +kernel
theorem d_en_divideAir_142 : decode q_en_divideAir.2.1 142 = .ok (.iastore, 1) := by decide +kernel
theorem d_en_divideAir_143 : decode q_en_divideAir.2.1 143 = .ok (.iinc 9 1, 3) := by decide +kernel
theorem d_en_divideAir_146 : decode q_en_divideAir.2.1 146 = .ok (.goto (-41), 3) := by decide +kernel
theorem d_en_divideAir_149 : decode q_en_divideAir.2.1 149 = .ok (.iinc 4 1, 3) := by decide +kernel
theorem d_en_divideAir_152 : decode q_en_divideAir.2.1 152 = .ok (.goto (-123), 3) := by decide +kernel
theorem d_en_divideAir_155 : decode q_en_divideAir.2.1 155 = .ok (.return_, 1) := by decide +kernel
theorem w_en_divideAir_L149 (l : Launch) (lo hi d : Nat) (hS : sm_has lo hi) {k29 : Nat → Nat → Nat → Int32 → Int32 → sm_H → Option sm_H} {h' : sm_H} (hk29 : ∀ (a0 : Nat) (a1 : Nat) (a2 : Nat) (a3 : Int32) (a4 : Int32) (h : sm_H) (_ : sm_at lo hi (0, 2, 0) a0) (_ : sm_at lo hi (0, 7, 0) a1) (_ : sm_at lo hi (0, 4, 0) a2) , k29 a0 a1 a2 a3 a4 h = some h' → sm_W l lo hi (d + 2) q_en_divideAir 29 [(0, .ref a0), (1, .ref a1), (2, .ref a2), (3, .int a3), (4, .int a4)] [] h none h') (a0 : Nat) (a1 : Nat) (a2 : Nat) (a3 : Int32) (a4 : Int32) (h : sm_H) (e0 : sm_at lo hi (0, 2, 0) a0) (e1 : sm_at lo hi (0, 7, 0) a1) (e2 : sm_at lo hi (0, 4, 0) a2) (hf : f_en_divideAir_L149 k29 a0 a1 a2 a3 a4 h = some h') : sm_W l lo hi (d + 2) q_en_divideAir 149 [(0, .ref a0), (1, .ref a1), (2, .ref a2), (3, .int a3), (4, .int a4)] [] h none h' := by
  unfold f_en_divideAir_L149 at hf
  obtain ⟨x39, w40⟩ : ∃ v : Int32, v = a4 + 1 := ⟨_, rfl⟩
  have hf := sm_letV w40 hf
  refine sm_iinc (v := x39) (lv' := [(4, .int x39), (0, .ref a0), (1, .ref a1), (2, .ref a2), (3, .int a3)]) 4 rfl (by rw [w40]; rfl) d_en_divideAir_149 rfl rfl ?_
  refine sm_goto 29 d_en_divideAir_152 rfl ?_
  refine sm_sub [1, 2, 3, 4, 0] rfl ?_
  exact hk29 _ _ _ _ _ _ e0 e1 e2 hf
theorem w_en_divideAir_L141 (l : Launch) (lo hi d : Nat) (hS : sm_has lo hi) {k105 : Nat → Nat → Nat → Int32 → Int32 → Int32 → Int32 → Nat → Int32 → sm_H → Option sm_H} {h' : sm_H} (hk105 : ∀ (a0 : Nat) (a1 : Nat) (a2 : Nat) (a3 : Int32) (a4 : Int32) (a5 : Int32) (a7 : Int32) (a8 : Nat) (a9 : Int32) (h : sm_H) (_ : sm_at lo hi (0, 2, 0) a0) (_ : sm_at lo hi (0, 7, 0) a1) (_ : sm_at lo hi (0, 4, 0) a2) (_ : sm_arr lo hi 0 8 a8) , k105 a0 a1 a2 a3 a4 a5 a7 a8 a9 h = some h' → sm_W l lo hi (d + 2) q_en_divideAir 105 [(0, .ref a0), (1, .ref a1), (2, .ref a2), (3, .int a3), (4, .int a4), (5, .int a5), (7, .int a7), (8, .ref a8), (9, .int a9)] [] h none h') (a0 : Nat) (a1 : Nat) (a2 : Nat) (a3 : Int32) (a4 : Int32) (a5 : Int32) (a7 : Int32) (a8 : Nat) (a9 : Int32) (s0 : Int32) (s1 : Int32) (s2 : Int32) (s3 : Nat) (h : sm_H) (e0 : sm_at lo hi (0, 2, 0) a0) (e1 : sm_at lo hi (0, 7, 0) a1) (e2 : sm_at lo hi (0, 4, 0) a2) (e8 : sm_arr lo hi 0 8 a8) (t3 : sm_arr lo hi 0 8 s3) (hf : f_en_divideAir_L141 k105 a0 a1 a2 a3 a4 a5 a7 a8 a9 s0 s1 s2 s3 h = some h') : sm_W l lo hi (d + 2) q_en_divideAir 141 [(0, .ref a0), (1, .ref a1), (2, .ref a2), (3, .int a3), (4, .int a4), (5, .int a5), (7, .int a7), (8, .ref a8), (9, .int a9)] [.int s0, .int s1, .int s2, .ref s3] h none h' := by
  unfold f_en_divideAir_L141 at hf
  refine sm_iadd d_en_divideAir_141 ?_
  obtain ⟨c34, hf⟩ := sm_gdE hf
  refine sm_iast t3 c34 d_en_divideAir_142 ?_
  refine sm_nmH (fun g35 w36 => ?_)
  have hf := sm_letV w36 hf
  obtain ⟨x37, w38⟩ : ∃ v : Int32, v = a9 + 1 := ⟨_, rfl⟩
  have hf := sm_letV w38 hf
  refine sm_iinc (v := x37) (lv' := [(9, .int x37), (0, .ref a0), (1, .ref a1), (2, .ref a2), (3, .int a3), (4, .int a4), (5, .int a5), (7, .int a7), (8, .ref a8)]) 8 rfl (by rw [w38]; rfl) d_en_divideAir_143 rfl rfl ?_
  refine sm_goto 105 d_en_divideAir_146 rfl ?_
  refine sm_sub [1, 2, 3, 4, 5, 6, 7, 8, 0] rfl ?_
  exact hk105 _ _ _ _ _ _ _ _ _ _ e0 e1 e2 e8 hf
theorem w_en_divideAir_L105 (l : Launch) (lo hi d : Nat) (hS : sm_has lo hi) {k29 : Nat → Nat → Nat → Int32 → Int32 → sm_H → Option sm_H} {h' : sm_H} (hk29 : ∀ (a0 : Nat) (a1 : Nat) (a2 : Nat) (a3 : Int32) (a4 : Int32) (h : sm_H) (_ : sm_at lo hi (0, 2, 0) a0) (_ : sm_at lo hi (0, 7, 0) a1) (_ : sm_at lo hi (0, 4, 0) a2) , k29 a0 a1 a2 a3 a4 h = some h' → sm_W l lo hi (d + 2) q_en_divideAir 29 [(0, .ref a0), (1, .ref a1), (2, .ref a2), (3, .int a3), (4, .int a4)] [] h none h') : ∀ (n : Nat) (a0 : Nat) (a1 : Nat) (a2 : Nat) (a3 : Int32) (a4 : Int32) (a5 : Int32) (a7 : Int32) (a8 : Nat) (a9 : Int32) (h : sm_H) (e0 : sm_at lo hi (0, 2, 0) a0) (e1 : sm_at lo hi (0, 7, 0) a1) (e2 : sm_at lo hi (0, 4, 0) a2) (e8 : sm_arr lo hi 0 8 a8) (hf : f_en_divideAir_L105 k29 n a0 a1 a2 a3 a4 a5 a7 a8 a9 h = some h'), sm_W l lo hi (d + 2) q_en_divideAir 105 [(0, .ref a0), (1, .ref a1), (2, .ref a2), (3, .int a3), (4, .int a4), (5, .int a5), (7, .int a7), (8, .ref a8), (9, .int a9)] [] h none h' := by
  intro n
  induction n with
  | zero =>
    intro a0 a1 a2 a3 a4 a5 a7 a8 a9 h e0 e1 e2 e8 hf
    have z : (none : Option sm_H) = some _ := hf
    cases z
  | succ n ih =>
    intro a0 a1 a2 a3 a4 a5 a7 a8 a9 h e0 e1 e2 e8 hf
    unfold f_en_divideAir_L105 at hf
    refine sm_iload 8 rfl d_en_divideAir_105 ?_
    refine sm_aload_n 2 rfl d_en_divideAir_107 ?_
    refine sm_getI fl_en_74 e2 rfl d_en_divideAir_108 ?_
    refine sm_icmp_ge 149 d_en_divideAir_111 rfl (fun c27 => ?_) (fun c27 => ?_)
    · have hf := sm_ifT c27 hf
      refine sm_sub [0, 1, 2, 3, 4] rfl ?_
      exact w_en_divideAir_L149 l lo hi d hS hk29 _ _ _ _ _ _ e0 e1 e2 hf
    · have hf := sm_ifF c27 hf
      refine sm_aload 7 rfl d_en_divideAir_114 ?_
      refine sm_aload_n 2 rfl d_en_divideAir_116 ?_
      refine sm_getR (n := 3) fl_en_178 e2 rfl d_en_divideAir_117 ?_
      refine sm_iload 8 rfl d_en_divideAir_120 ?_
      obtain ⟨c28, hf⟩ := sm_gdE hf
      refine sm_iald (sm_at_arr (sm_inner e2 9 rfl rfl rfl)) c28 d_en_divideAir_122 ?_
      refine sm_dup2 rfl rfl d_en_divideAir_123 ?_
      obtain ⟨c29, hf⟩ := sm_gdE hf
      refine sm_iald e8 c29 d_en_divideAir_124 ?_
      refine sm_iload 5 rfl d_en_divideAir_125 ?_
      refine sm_iload 8 rfl d_en_divideAir_127 ?_
      obtain ⟨r30, g31, c32, hf⟩ := sm_b2E hf
      refine sm_callN (As := [.int a5, .int a9]) (rv := some (.int r30)) (h1 := g31) cvn_en_88 (m_sc_has l lo hi _ c32) rfl rfl d_en_divideAir_129 ?_
      refine sm_if_eq 140 d_en_divideAir_132 rfl (fun c33 => ?_) (fun c33 => ?_)
      · have hf := sm_ifT c33 hf
        refine sm_iconst (v := 0) (by decide) d_en_divideAir_140 ?_
        exact w_en_divideAir_L141 l lo hi d hS ih _ _ _ _ _ _ _ _ _ _ _ _ _ _ e0 e1 e2 e8 e8 hf
      · have hf := sm_ifF c33 hf
        refine sm_iload 6 rfl d_en_divideAir_135 ?_
        refine sm_goto 141 d_en_divideAir_137 rfl ?_
        exact w_en_divideAir_L141 l lo hi d hS ih _ _ _ _ _ _ _ _ _ _ _ _ _ _ e0 e1 e2 e8 e8 hf
theorem w_en_divideAir_L100 (l : Launch) (lo hi d : Nat) (hS : sm_has lo hi) {k29 : Nat → Nat → Nat → Int32 → Int32 → sm_H → Option sm_H} {h' : sm_H} (hk29 : ∀ (a0 : Nat) (a1 : Nat) (a2 : Nat) (a3 : Int32) (a4 : Int32) (h : sm_H) (_ : sm_at lo hi (0, 2, 0) a0) (_ : sm_at lo hi (0, 7, 0) a1) (_ : sm_at lo hi (0, 4, 0) a2) , k29 a0 a1 a2 a3 a4 h = some h' → sm_W l lo hi (d + 2) q_en_divideAir 29 [(0, .ref a0), (1, .ref a1), (2, .ref a2), (3, .int a3), (4, .int a4)] [] h none h') (a0 : Nat) (a1 : Nat) (a2 : Nat) (a3 : Int32) (a4 : Int32) (a5 : Int32) (a7 : Int32) (s0 : Nat) (h : sm_H) (e0 : sm_at lo hi (0, 2, 0) a0) (e1 : sm_at lo hi (0, 7, 0) a1) (e2 : sm_at lo hi (0, 4, 0) a2) (t0 : sm_arr lo hi 0 8 s0) (hf : f_en_divideAir_L100 k29 a0 a1 a2 a3 a4 a5 a7 s0 h = some h') : sm_W l lo hi (d + 2) q_en_divideAir 100 [(0, .ref a0), (1, .ref a1), (2, .ref a2), (3, .int a3), (4, .int a4), (5, .int a5), (7, .int a7)] [.ref s0] h none h' := by
  unfold f_en_divideAir_L100 at hf
  refine sm_astore (lv' := [(8, .ref s0), (0, .ref a0), (1, .ref a1), (2, .ref a2), (3, .int a3), (4, .int a4), (5, .int a5), (7, .int a7)]) d_en_divideAir_100 rfl rfl ?_
  refine sm_iconst (v := 0) (by decide) d_en_divideAir_102 ?_
  refine sm_istore (lv' := [(9, .int 0), (8, .ref s0), (0, .ref a0), (1, .ref a1), (2, .ref a2), (3, .int a3), (4, .int a4), (5, .int a5), (7, .int a7)]) d_en_divideAir_103 rfl rfl ?_
  refine sm_sub [2, 3, 4, 5, 6, 7, 8, 1, 0] rfl ?_
  exact w_en_divideAir_L105 l lo hi d hS hk29 sm_N _ _ _ _ _ _ _ _ _ _ e0 e1 e2 t0 hf
theorem w_en_divideAir_L74 (l : Launch) (lo hi d : Nat) (hS : sm_has lo hi) {k29 : Nat → Nat → Nat → Int32 → Int32 → sm_H → Option sm_H} {h' : sm_H} (hk29 : ∀ (a0 : Nat) (a1 : Nat) (a2 : Nat) (a3 : Int32) (a4 : Int32) (h : sm_H) (_ : sm_at lo hi (0, 2, 0) a0) (_ : sm_at lo hi (0, 7, 0) a1) (_ : sm_at lo hi (0, 4, 0) a2) , k29 a0 a1 a2 a3 a4 h = some h' → sm_W l lo hi (d + 2) q_en_divideAir 29 [(0, .ref a0), (1, .ref a1), (2, .ref a2), (3, .int a3), (4, .int a4)] [] h none h') (a0 : Nat) (a1 : Nat) (a2 : Nat) (a3 : Int32) (a4 : Int32) (a5 : Int32) (s0 : Int32) (h : sm_H) (e0 : sm_at lo hi (0, 2, 0) a0) (e1 : sm_at lo hi (0, 7, 0) a1) (e2 : sm_at lo hi (0, 4, 0) a2) (hf : f_en_divideAir_L74 k29 a0 a1 a2 a3 a4 a5 s0 h = some h') : sm_W l lo hi (d + 2) q_en_divideAir 74 [(0, .ref a0), (1, .ref a1), (2, .ref a2), (3, .int a3), (4, .int a4), (5, .int a5)] [.int s0] h none h' := by
  unfold f_en_divideAir_L74 at hf
  refine sm_istore (lv' := [(7, .int s0), (0, .ref a0), (1, .ref a1), (2, .ref a2), (3, .int a3), (4, .int a4), (5, .int a5)]) d_en_divideAir_74 rfl rfl ?_
  refine sm_aload_n 3 rfl d_en_divideAir_76 ?_
  refine sm_getR (n := 1) fl_en_175 e2 rfl d_en_divideAir_77 ?_
  refine sm_bipush (v := 16) (by decide) d_en_divideAir_80 ?_
  refine sm_iload 5 rfl d_en_divideAir_82 ?_
  refine sm_iadd d_en_divideAir_84 ?_
  obtain ⟨c25, hf⟩ := sm_gdE hf
  refine sm_iald (sm_at_arr (sm_inner e2 7 rfl rfl rfl)) c25 d_en_divideAir_85 ?_
  refine sm_if_ne 96 d_en_divideAir_86 rfl (fun c26 => ?_) (fun c26 => ?_)
  · have hf := sm_ifF c26 hf
    refine sm_aload_n 1 rfl d_en_divideAir_96 ?_
    refine sm_getR (n := 6) fl_en_22 e0 rfl d_en_divideAir_97 ?_
    refine sm_sub [1, 2, 3, 4, 5, 6, 0] rfl ?_
    exact w_en_divideAir_L100 l lo hi d hS hk29 _ _ _ _ _ _ _ _ _ e0 e1 e2 (sm_at_arr (sm_inner e0 2 rfl rfl rfl)) hf
  · have hf := sm_ifT c26 hf
    refine sm_aload_n 1 rfl d_en_divideAir_89 ?_
    refine sm_getR (n := 5) fl_en_18 e0 rfl d_en_divideAir_90 ?_
    refine sm_goto 100 d_en_divideAir_93 rfl ?_
    refine sm_sub [1, 2, 3, 4, 5, 6, 0] rfl ?_
    exact w_en_divideAir_L100 l lo hi d hS hk29 _ _ _ _ _ _ _ _ _ e0 e1 e2 (sm_at_arr (sm_inner e0 1 rfl rfl rfl)) hf
theorem w_en_divideAir_L29 (l : Launch) (lo hi d : Nat) (hS : sm_has lo hi) {h' : sm_H} : ∀ (n : Nat) (a0 : Nat) (a1 : Nat) (a2 : Nat) (a3 : Int32) (a4 : Int32) (h : sm_H) (e0 : sm_at lo hi (0, 2, 0) a0) (e1 : sm_at lo hi (0, 7, 0) a1) (e2 : sm_at lo hi (0, 4, 0) a2) (hf : f_en_divideAir_L29 n a0 a1 a2 a3 a4 h = some h'), sm_W l lo hi (d + 2) q_en_divideAir 29 [(0, .ref a0), (1, .ref a1), (2, .ref a2), (3, .int a3), (4, .int a4)] [] h none h' := by
  intro n
  induction n with
  | zero =>
    intro a0 a1 a2 a3 a4 h e0 e1 e2 hf
    have z : (none : Option sm_H) = some _ := hf
    cases z
  | succ n ih =>
    intro a0 a1 a2 a3 a4 h e0 e1 e2 hf
    unfold f_en_divideAir_L29 at hf
    refine sm_iload 4 rfl d_en_divideAir_29 ?_
    refine sm_aload_n 2 rfl d_en_divideAir_31 ?_
    refine sm_getI fl_en_108 e2 rfl d_en_divideAir_32 ?_
    refine sm_icmp_ge 155 d_en_divideAir_35 rfl (fun c13 => ?_) (fun c13 => ?_)
    · have hf := sm_ifT c13 hf
      obtain rfl := sm_ret1 hf
      exact sm_vret d_en_divideAir_155 rfl
    · have hf := sm_ifF c13 hf
      refine sm_aload_n 2 rfl d_en_divideAir_38 ?_
      refine sm_getR (n := 5) fl_en_163 e2 rfl d_en_divideAir_39 ?_
      refine sm_iload 4 rfl d_en_divideAir_42 ?_
      obtain ⟨c14, hf⟩ := sm_gdE hf
      refine sm_iald (sm_at_arr (sm_inner e2 11 rfl rfl rfl)) c14 d_en_divideAir_44 ?_
      refine sm_iload_n 3 rfl d_en_divideAir_45 ?_
      refine sm_iand d_en_divideAir_46 ?_
      refine sm_nmI (fun x15 w16 => ?_)
      have hf := sm_letV w16 hf
      refine sm_istore (lv' := [(5, .int x15), (0, .ref a0), (1, .ref a1), (2, .ref a2), (3, .int a3), (4, .int a4)]) d_en_divideAir_47 rfl rfl ?_
      refine sm_iload 0 rfl d_en_divideAir_49 ?_
      obtain ⟨r17, g18, c19, hf⟩ := sm_b2E hf
      refine sm_callS (As := [.int x15]) (rv := some (.int r17)) (h1 := g18) cvs_en_166 (m_ji_bitCount l lo hi _ c19) rfl rfl d_en_divideAir_51 ?_
      refine sm_istore (lv' := [(6, .int r17), (5, .int x15), (0, .ref a0), (1, .ref a1), (2, .ref a2), (3, .int a3), (4, .int a4)]) d_en_divideAir_54 rfl rfl ?_
      refine sm_iload 0 rfl d_en_divideAir_56 ?_
      refine sm_if_le 73 d_en_divideAir_58 rfl (fun c20 => ?_) (fun c20 => ?_)
      · have hf := sm_ifT c20 hf
        refine sm_iconst (v := 0) (by decide) d_en_divideAir_73 ?_
        refine sm_sub [2, 3, 4, 5, 6, 1] rfl ?_
        exact w_en_divideAir_L74 l lo hi d hS ih _ _ _ _ _ _ _ _ e0 e1 e2 hf
      · have hf := sm_ifF c20 hf
        refine sm_aload_n 3 rfl d_en_divideAir_61 ?_
        refine sm_iload 6 rfl d_en_divideAir_62 ?_
        obtain ⟨r21, g22, c23, hf⟩ := sm_b2E hf
        refine sm_callV (As := [.int a4]) (rv := some (.int r21)) (h1 := g22) (c := 7) cvv_en_172 rfl rfl e1 (m_st_fanAir l lo hi _ hS e1 c23) rfl rfl d_en_divideAir_64 ?_
        refine sm_iload 0 rfl d_en_divideAir_67 ?_
        obtain ⟨c24, hf⟩ := sm_gdE hf
        refine sm_idiv c24 d_en_divideAir_69 ?_
        refine sm_goto 74 d_en_divideAir_70 rfl ?_
        refine sm_sub [2, 3, 4, 5, 6, 1] rfl ?_
        exact w_en_divideAir_L74 l lo hi d hS ih _ _ _ _ _ _ _ _ e0 e1 e2 hf
theorem m_en_divideAir (l : Launch) (lo hi d : Nat) (hS : sm_has lo hi) {a0 : Nat} {a1 : Nat} {h h' : sm_H} (e0 : sm_at lo hi (0, 2, 0) a0) (e1 : sm_at lo hi (0, 7, 0) a1) (hf : f_en_divideAir a0 a1 h = some h') : sm_Met l lo hi (d + 2) q_en_divideAir [.ref a0, .ref a1] h none h' := by
  refine sm_Met.of (by decide +kernel) rfl ?_
  show sm_W l lo hi (d + 2) q_en_divideAir 0 [(0, .ref a0), (1, .ref a1)] [] h none h'
  unfold f_en_divideAir at hf
  refine sm_aload_n 1 rfl d_en_divideAir_0 ?_
  obtain ⟨c1, hf⟩ := sm_gdE hf
  obtain ⟨z2, v3⟩ := sm_isP_at hS c1
  refine sm_getD fl_en_70 e1 rfl z2 d_en_divideAir_1 ?_
  refine sm_nmR (fun p4 w5 => ?_)
  have hf := sm_letV w5 hf
  have v3 := sm_ev w5 v3
  refine sm_astore_n (lv' := [(2, .ref p4), (0, .ref a0), (1, .ref a1)]) d_en_divideAir_4 rfl rfl ?_
  refine sm_aload_n 2 rfl d_en_divideAir_5 ?_
  obtain ⟨r6, g7, c8, hf⟩ := sm_b2E hf
  refine sm_callV (As := []) (rv := some (.int r6)) (h1 := g7) (c := 7) cvv_en_105 rfl rfl e1 (m_st_provenOpen l lo hi _ hS e1 c8) rfl rfl d_en_divideAir_6 ?_
  refine sm_istore_n (lv' := [(3, .int r6), (2, .ref p4), (0, .ref a0), (1, .ref a1)]) d_en_divideAir_9 rfl rfl ?_
  refine sm_aload_n 2 rfl d_en_divideAir_10 ?_
  refine sm_getR (n := 5) fl_en_18 e0 rfl d_en_divideAir_11 ?_
  refine sm_iconst (v := 0) (by decide) d_en_divideAir_14 ?_
  obtain ⟨g9, c10, hf⟩ := sm_bindE hf
  refine sm_callS (As := [.ref (a0 + 5), .int 0]) (rv := none) (h1 := g9) cvs_en_157 (m_ja_fill l lo hi _ (sm_arr_self (sm_at_arr (sm_inner e0 1 rfl rfl rfl))) c10) rfl rfl d_en_divideAir_15 ?_
  refine sm_aload_n 2 rfl d_en_divideAir_18 ?_
  refine sm_getR (n := 6) fl_en_22 e0 rfl d_en_divideAir_19 ?_
  refine sm_iconst (v := 0) (by decide) d_en_divideAir_22 ?_
  obtain ⟨g11, c12, hf⟩ := sm_bindE hf
  refine sm_callS (As := [.ref (a0 + 6), .int 0]) (rv := none) (h1 := g11) cvs_en_157 (m_ja_fill l lo hi _ (sm_arr_self (sm_at_arr (sm_inner e0 2 rfl rfl rfl))) c12) rfl rfl d_en_divideAir_23 ?_
  refine sm_iconst (v := 0) (by decide) d_en_divideAir_26 ?_
  refine sm_istore (lv' := [(4, .int 0), (3, .int r6), (2, .ref p4), (0, .ref a0), (1, .ref a1)]) d_en_divideAir_27 rfl rfl ?_
  refine sm_sub [3, 4, 2, 1, 0] rfl ?_
  exact w_en_divideAir_L29 l lo hi d hS sm_N _ _ _ _ _ _ e0 e1 v3 hf
theorem d_en_moveDampers_0 : decode q_en_moveDampers.2.1 0 = .ok (.aload_n 1, 1) := by decide +kernel
theorem d_en_moveDampers_1 : decode q_en_moveDampers.2.1 1 = .ok (.getfield 70, 3) := by decide +kernel
theorem d_en_moveDampers_4 : decode q_en_moveDampers.2.1 4 = .ok (.astore_n 2, 1) := by decide +kernel
theorem d_en_moveDampers_5 : decode q_en_moveDampers.2.1 5 = .ok (.iconst 0, 1) := by decide +kernel
theorem d_en_moveDampers_6 : decode q_en_moveDampers.2.1 6 = .ok (.istore_n 3, 1) := by decide +kernel
theorem d_en_moveDampers_7 : decode q_en_moveDampers.2.1 7 = .ok (.iload_n 3, 1) := by decide +kernel
theorem d_en_moveDampers_8 : decode q_en_moveDampers.2.1 8 = .ok (.aload_n 2, 1) := by decide +kernel
theorem d_en_moveDampers_9 : decode q_en_moveDampers.2.1 9 = .ok (.getfield 74, 3) := by decide +kernel
theorem d_en_moveDampers_12 : decode q_en_moveDampers.2.1 12 = .ok (.if_icmp .ge 137, 3) := by decide +kernel
theorem d_en_moveDampers_15 : decode q_en_moveDampers.2.1 15 = .ok (.aload_n 0, 1) := by decide +kernel
theorem d_en_moveDampers_16 : decode q_en_moveDampers.2.1 16 = .ok (.getfield 12, 3) := by decide +kernel
theorem d_en_moveDampers_19 : decode q_en_moveDampers.2.1 19 = .ok (.getfield 79, 3) := by decide +kernel
theorem d_en_moveDampers_22 : decode q_en_moveDampers.2.1 22 = .ok (.iload_n 3, 1) := by decide +kernel
theorem d_en_moveDampers_23 : decode q_en_moveDampers.2.1 23 = .ok (.iaload, 1) := by decide +kernel
theorem d_en_moveDampers_24 : decode q_en_moveDampers.2.1 24 = .ok (.istore 4, 2) := by decide +kernel
theorem d_en_moveDampers_26 : decode q_en_moveDampers.2.1 26 = .ok (.iload 4, 2) := by decide +kernel
theorem d_en_moveDampers_28 : decode q_en_moveDampers.2.1 28 = .ok (.iconst 1, 1) := by decide +kernel
theorem d_en_moveDampers_29 : decode q_en_moveDampers.2.1 29 = .ok (.if_icmp .ne 12, 3) := by decide +kernel
theorem d_en_moveDampers_32 : decode q_en_moveDampers.2.1 32 = .ok (.aload_n 2, 1) := by decide +kernel
theorem d_en_moveDampers_33 : decode q_en_moveDampers.2.1 33 = .ok (.getfield 82, 3) := by decide +kernel
theorem d_en_moveDampers_36 : decode q_en_moveDampers.2.1 36 = .ok (.iload_n 3, 1) := by decide +kernel
theorem d_en_moveDampers_37 : decode q_en_moveDampers.2.1 37 = .ok (.iaload, 1) := by decide +kernel
theorem d_en_moveDampers_38 : decode q_en_moveDampers.2.1 38 = .ok (.goto 4, 3) := by decide +kernel
theorem d_en_moveDampers_41 : decode q_en_moveDampers.2.1 41 = .ok (.iconst 0, 1) := by decide +kernel
theorem d_en_moveDampers_42 : decode q_en_moveDampers.2.1 42 = .ok (.istore 5, 2) := by decide +kernel
theorem d_en_moveDampers_44 : decode q_en_moveDampers.2.1 44 = .ok (.aload_n 1, 1) := by decide +kernel
theorem d_en_moveDampers_45 : decode q_en_moveDampers.2.1 45 = .ok (.getfield 85, 3) := by decide +kernel
theorem d_en_moveDampers_48 : decode q_en_moveDampers.2.1 48 = .ok (.iload_n 3, 1) := by decide +kernel
theorem d_en_moveDampers_49 : decode q_en_moveDampers.2.1 49 = .ok (.invokestatic 88, 3) := by decide +kernel
theorem d_en_moveDampers_52 : decode q_en_moveDampers.2.1 52 = .ok (.ifCond .ne 34, 3) := by decide +kernel
theorem d_en_moveDampers_55 : decode q_en_moveDampers.2.1 55 = .ok (.aload_n 1, 1) := by decide +kernel
theorem d_en_moveDampers_56 : decode q_en_moveDampers.2.1 56 = .ok (.getfield 92, 3) := by decide +kernel
theorem d_en_moveDampers_59 : decode q_en_moveDampers.2.1 59 = .ok (.iload_n 3, 1) := by decide +kernel
theorem d_en_moveDampers_60 : decode q_en_moveDampers.2.1 60 = .ok (.iaload, 1) := by decide +kernel
theorem d_en_moveDampers_61 : decode q_en_moveDampers.2.1 61 = .ok (.iload 5, 2) := by decide +kernel
theorem d_en_moveDampers_63 : decode q_en_moveDampers.2.1 63 = .ok (.if_icmp .eq 23, 3) := by decide +kernel
theorem d_en_moveDampers_66 : decode q_en_moveDampers.2.1 66 = .ok (.aload_n 1, 1) := by decide +kernel
theorem d_en_moveDampers_67 : decode q_en_moveDampers.2.1 67 = .ok (.getfield 92, 3) := by decide +kernel
theorem d_en_moveDampers_70 : decode q_en_moveDampers.2.1 70 = .ok (.iload_n 3, 1) := by decide +kernel
theorem d_en_moveDampers_71 : decode q_en_moveDampers.2.1 71 = .ok (.dup2, 1) := by decide +kernel
theorem d_en_moveDampers_72 : decode q_en_moveDampers.2.1 72 = .ok (.iaload, 1) := by decide +kernel
theorem d_en_moveDampers_73 : decode q_en_moveDampers.2.1 73 = .ok (.iload 4, 2) := by decide +kernel
theorem d_en_moveDampers_75 : decode q_en_moveDampers.2.1 75 = .ok (.iconst 1, 1) := by decide +kernel
theorem d_en_moveDampers_76 : decode q_en_moveDampers.2.1 76 = .ok (.if_icmp .ne 7, 3) := by decide +kernel
theorem d_en_moveDampers_79 : decode q_en_moveDampers.2.1 79 = .ok (.iconst 1, 1) := by decide +kernel
theorem d_en_moveDampers_80 : decode q_en_moveDampers.2.1 80 = .ok (.goto 4, 3) := by decide +kernel
theorem d_en_moveDampers_83 : decode q_en_moveDampers.2.1 83 = .ok (.iconst (-1), 1) := by decide +kernel
theorem d_en_moveDampers_84 : decode q_en_moveDampers.2.1 84 = .ok (.iadd, 1) := by decide +kernel
theorem d_en_moveDampers_85 : decode q_en_moveDampers.2.1 85 = .ok (.iastore, 1) := by decide +kernel
theorem d_en_moveDampers_86 : decode q_en_moveDampers.2.1 86 = .ok (.iload 4, 2) := by decide +kernel
theorem d_en_moveDampers_88 : decode q_en_moveDampers.2.1 88 = .ok (.aload_n 1, 1) := by decide +kernel
theorem d_en_moveDampers_89 : decode q_en_moveDampers.2.1 89 = .ok (.getfield 95, 3) := by decide +kernel
theorem d_en_moveDampers_92 : decode q_en_moveDampers.2.1 92 = .ok (.iload_n 3, 1) := by decide +kernel
theorem d_en_moveDampers_93 : decode q_en_moveDampers.2.1 93 = .ok (.iaload, 1) := by decide +kernel
theorem d_en_moveDampers_94 : decode q_en_moveDampers.2.1 94 = .ok (.if_icmp .ne 18, 3) := by decide +kernel
theorem d_en_moveDampers_97 : decode q_en_moveDampers.2.1 97 = .ok (.aload_n 1, 1) := by decide +kernel
theorem d_en_moveDampers_98 : decode q_en_moveDampers.2.1 98 = .ok (.getfield 92, 3) := by decide +kernel
theorem d_en_moveDampers_101 : decode q_en_moveDampers.2.1 101 = .ok (.iload_n 3, 1) := by decide +kernel
theorem d_en_moveDampers_102 : decode q_en_moveDampers.2.1 102 = .ok (.iaload, 1) := by decide +kernel
theorem d_en_moveDampers_103 : decode q_en_moveDampers.2.1 103 = .ok (.iload 5, 2) := by decide +kernel
theorem d_en_moveDampers_105 : decode q_en_moveDampers.2.1 105 = .ok (.if_icmp .eq 7, 3) := by decide +kernel
theorem d_en_moveDampers_108 : decode q_en_moveDampers.2.1 108 = .ok (.iconst 1, 1) := by decide +kernel
theorem d_en_moveDampers_109 : decode q_en_moveDampers.2.1 109 = .ok (.goto 4, 3) := by decide +kernel
theorem d_en_moveDampers_112 : decode q_en_moveDampers.2.1 112 = .ok (.iconst 0, 1) := by decide +kernel
theorem d_en_moveDampers_113 : decode q_en_moveDampers.2.1 113 = .ok (.istore 6, 2) := by decide +kernel
theorem d_en_moveDampers_115 : decode q_en_moveDampers.2.1 115 = .ok (.aload_n 1, 1) := by decide +kernel
theorem d_en_moveDampers_116 : decode q_en_moveDampers.2.1 116 = .ok (.getfield 95, 3) := by decide +kernel
theorem d_en_moveDampers_119 : decode q_en_moveDampers.2.1 119 = .ok (.iload_n 3, 1) := by decide +kernel
theorem d_en_moveDampers_120 : decode q_en_moveDampers.2.1 120 = .ok (.iload 4, 2) := by decide +kernel
theorem d_en_moveDampers_122 : decode q_en_moveDampers.2.1 122 = .ok (.iastore, 1) := by decide +kernel
theorem d_en_moveDampers_123 : decode q_en_moveDampers.2.1 123 = .ok (.aload_n 1, 1) := by decide +kernel
theorem d_en_moveDampers_124 : decode q_en_moveDampers.2.1 124 = .ok (.iload_n 3, 1) := by decide +kernel
theorem d_en_moveDampers_125 : decode q_en_moveDampers.2.1 125 = .ok (.iload 6, 2) := by decide +kernel
theorem d_en_moveDampers_127 : decode q_en_moveDampers.2.1 127 = .ok (.aload_n 2, 1) := by decide +kernel
theorem d_en_moveDampers_128 : decode q_en_moveDampers.2.1 128 = .ok (.getfield 82, 3) := by decide +kernel
theorem d_en_moveDampers_131 : decode q_en_moveDampers.2.1 131 = .ok (.iload_n 3, 1) := by decide +kernel
theorem d_en_moveDampers_132 : decode q_en_moveDampers.2.1 132 = .ok (.iaload, 1) := by decide +kernel
theorem d_en_moveDampers_133 : decode q_en_moveDampers.2.1 133 = .ok (.aload_n 2, 1) := by decide +kernel
theorem d_en_moveDampers_134 : decode q_en_moveDampers.2.1 134 = .ok (.getfield 98, 3) := by decide +kernel
theorem d_en_moveDampers_137 : decode q_en_moveDampers.2.1 137 = .ok (.iadd, 1) := by decide +kernel
theorem d_en_moveDampers_138 : decode q_en_moveDampers.2.1 138 = .ok (.iconst 1, 1) := by decide +kernel
theorem d_en_moveDampers_139 : decode q_en_moveDampers.2.1 139 = .ok (.iload_n 3, 1) := by decide +kernel
theorem d_en_moveDampers_140 : decode q_en_moveDampers.2.1 140 = .ok (.invokevirtual 101, 3) := by decide +kernel
theorem d_en_moveDampers_143 : decode q_en_moveDampers.2.1 143 = .ok (.iinc 3 1, 3) := by decide +kernel
theorem d_en_moveDampers_146 : decode q_en_moveDampers.2.1 146 = .ok (.goto (-139), 3) := by decide +kernel
theorem d_en_moveDampers_149 : decode q_en_moveDampers.2.1 149 = .ok (.return_, 1) := by decide +kernel
theorem w_en_moveDampers_L113 (l : Launch) (lo hi d : Nat) (hS : sm_has lo hi) {k7 : Nat → Nat → Nat → Int32 → sm_H → Option sm_H} {h' : sm_H} (hk7 : ∀ (a0 : Nat) (a1 : Nat) (a2 : Nat) (a3 : Int32) (h : sm_H) (_ : sm_at lo hi (0, 2, 0) a0) (_ : sm_at lo hi (0, 7, 0) a1) (_ : sm_at lo hi (0, 4, 0) a2) , k7 a0 a1 a2 a3 h = some h' → sm_W l lo hi (d + 3) q_en_moveDampers 7 [(0, .ref a0), (1, .ref a1), (2, .ref a2), (3, .int a3)] [] h none h') (a0 : Nat) (a1 : Nat) (a2 : Nat) (a3 : Int32) (a4 : Int32) (s0 : Int32) (h : sm_H) (e0 : sm_at lo hi (0, 2, 0) a0) (e1 : sm_at lo hi (0, 7, 0) a1) (e2 : sm_at lo hi (0, 4, 0) a2) (hf : f_en_moveDampers_L113 k7 a0 a1 a2 a3 a4 s0 h = some h') : sm_W l lo hi (d + 3) q_en_moveDampers 113 [(0, .ref a0), (1, .ref a1), (2, .ref a2), (3, .int a3), (4, .int a4)] [.int s0] h none h' := by
  unfold f_en_moveDampers_L113 at hf
  refine sm_istore (lv' := [(6, .int s0), (0, .ref a0), (1, .ref a1), (2, .ref a2), (3, .int a3), (4, .int a4)]) d_en_moveDampers_113 rfl rfl ?_
  refine sm_aload_n 2 rfl d_en_moveDampers_115 ?_
  refine sm_getR (n := 6) fl_en_95 e1 rfl d_en_moveDampers_116 ?_
  refine sm_iload_n 4 rfl d_en_moveDampers_119 ?_
  refine sm_iload 5 rfl d_en_moveDampers_120 ?_
  obtain ⟨c27, hf⟩ := sm_gdE hf
  refine sm_iast (sm_at_arr (sm_inner e1 14 rfl rfl rfl)) c27 d_en_moveDampers_122 ?_
  refine sm_nmH (fun g28 w29 => ?_)
  have hf := sm_letV w29 hf
  refine sm_aload_n 2 rfl d_en_moveDampers_123 ?_
  refine sm_iload_n 4 rfl d_en_moveDampers_124 ?_
  refine sm_iload 0 rfl d_en_moveDampers_125 ?_
  refine sm_aload_n 3 rfl d_en_moveDampers_127 ?_
  refine sm_getR (n := 2) fl_en_82 e2 rfl d_en_moveDampers_128 ?_
  refine sm_iload_n 4 rfl d_en_moveDampers_131 ?_
  obtain ⟨c30, hf⟩ := sm_gdE hf
  refine sm_iald (sm_at_arr (sm_inner e2 8 rfl rfl rfl)) c30 d_en_moveDampers_132 ?_
  refine sm_aload_n 3 rfl d_en_moveDampers_133 ?_
  refine sm_getI fl_en_98 e2 rfl d_en_moveDampers_134 ?_
  refine sm_iadd d_en_moveDampers_137 ?_
  refine sm_iconst (v := 1) (by decide) d_en_moveDampers_138 ?_
  refine sm_iload_n 4 rfl d_en_moveDampers_139 ?_
  obtain ⟨g31, c32, hf⟩ := sm_bindE hf
  refine sm_callV (As := [.int a3, .int s0, .int ((g28 (a2 + 2) (a3 : Int32).toNatClampNeg) + (g28 a2 5)), .int 1, .int a3]) (rv := none) (h1 := g31) (c := 7) cvv_en_101 rfl rfl e1 (m_st_supervise l lo hi _ e1 c32) rfl rfl d_en_moveDampers_140 ?_
  obtain ⟨x33, w34⟩ : ∃ v : Int32, v = a3 + 1 := ⟨_, rfl⟩
  have hf := sm_letV w34 hf
  refine sm_iinc (v := x33) (lv' := [(3, .int x33), (6, .int s0), (0, .ref a0), (1, .ref a1), (2, .ref a2), (4, .int a4)]) 4 rfl (by rw [w34]; rfl) d_en_moveDampers_143 rfl rfl ?_
  refine sm_goto 7 d_en_moveDampers_146 rfl ?_
  refine sm_sub [2, 3, 4, 0] rfl ?_
  exact hk7 _ _ _ _ _ e0 e1 e2 hf
theorem w_en_moveDampers_L112 (l : Launch) (lo hi d : Nat) (hS : sm_has lo hi) {k7 : Nat → Nat → Nat → Int32 → sm_H → Option sm_H} {h' : sm_H} (hk7 : ∀ (a0 : Nat) (a1 : Nat) (a2 : Nat) (a3 : Int32) (h : sm_H) (_ : sm_at lo hi (0, 2, 0) a0) (_ : sm_at lo hi (0, 7, 0) a1) (_ : sm_at lo hi (0, 4, 0) a2) , k7 a0 a1 a2 a3 h = some h' → sm_W l lo hi (d + 3) q_en_moveDampers 7 [(0, .ref a0), (1, .ref a1), (2, .ref a2), (3, .int a3)] [] h none h') (a0 : Nat) (a1 : Nat) (a2 : Nat) (a3 : Int32) (a4 : Int32) (h : sm_H) (e0 : sm_at lo hi (0, 2, 0) a0) (e1 : sm_at lo hi (0, 7, 0) a1) (e2 : sm_at lo hi (0, 4, 0) a2) (hf : f_en_moveDampers_L112 k7 a0 a1 a2 a3 a4 h = some h') : sm_W l lo hi (d + 3) q_en_moveDampers 112 [(0, .ref a0), (1, .ref a1), (2, .ref a2), (3, .int a3), (4, .int a4)] [] h none h' := by
  unfold f_en_moveDampers_L112 at hf
  refine sm_iconst (v := 0) (by decide) d_en_moveDampers_112 ?_
  exact w_en_moveDampers_L113 l lo hi d hS hk7 _ _ _ _ _ _ _ e0 e1 e2 hf
theorem w_en_moveDampers_L86 (l : Launch) (lo hi d : Nat) (hS : sm_has lo hi) {k7 : Nat → Nat → Nat → Int32 → sm_H → Option sm_H} {h' : sm_H} (hk7 : ∀ (a0 : Nat) (a1 : Nat) (a2 : Nat) (a3 : Int32) (h : sm_H) (_ : sm_at lo hi (0, 2, 0) a0) (_ : sm_at lo hi (0, 7, 0) a1) (_ : sm_at lo hi (0, 4, 0) a2) , k7 a0 a1 a2 a3 h = some h' → sm_W l lo hi (d + 3) q_en_moveDampers 7 [(0, .ref a0), (1, .ref a1), (2, .ref a2), (3, .int a3)] [] h none h') (a0 : Nat) (a1 : Nat) (a2 : Nat) (a3 : Int32) (a4 : Int32) (a5 : Int32) (h : sm_H) (e0 : sm_at lo hi (0, 2, 0) a0) (e1 : sm_at lo hi (0, 7, 0) a1) (e2 : sm_at lo hi (0, 4, 0) a2) (hf : f_en_moveDampers_L86 k7 a0 a1 a2 a3 a4 a5 h = some h') : sm_W l lo hi (d + 3) q_en_moveDampers 86 [(0, .ref a0), (1, .ref a1), (2, .ref a2), (3, .int a3), (4, .int a4), (5, .int a5)] [] h none h' := by
  unfold f_en_moveDampers_L86 at hf
  refine sm_iload 4 rfl d_en_moveDampers_86 ?_
  refine sm_aload_n 1 rfl d_en_moveDampers_88 ?_
  refine sm_getR (n := 6) fl_en_95 e1 rfl d_en_moveDampers_89 ?_
  refine sm_iload_n 3 rfl d_en_moveDampers_92 ?_
  obtain ⟨c23, hf⟩ := sm_gdE hf
  refine sm_iald (sm_at_arr (sm_inner e1 14 rfl rfl rfl)) c23 d_en_moveDampers_93 ?_
  refine sm_icmp_ne 112 d_en_moveDampers_94 rfl (fun c24 => ?_) (fun c24 => ?_)
  · have hf := sm_ifF c24 hf
    refine sm_sub [0, 1, 2, 3, 4] rfl ?_
    exact w_en_moveDampers_L112 l lo hi d hS hk7 _ _ _ _ _ _ e0 e1 e2 hf
  · have hf := sm_ifT c24 hf
    refine sm_aload_n 1 rfl d_en_moveDampers_97 ?_
    refine sm_getR (n := 3) fl_en_92 e1 rfl d_en_moveDampers_98 ?_
    refine sm_iload_n 3 rfl d_en_moveDampers_101 ?_
    obtain ⟨c25, hf⟩ := sm_gdE hf
    refine sm_iald (sm_at_arr (sm_inner e1 11 rfl rfl rfl)) c25 d_en_moveDampers_102 ?_
    refine sm_iload 5 rfl d_en_moveDampers_103 ?_
    refine sm_icmp_eq 112 d_en_moveDampers_105 rfl (fun c26 => ?_) (fun c26 => ?_)
    · have hf := sm_ifT c26 hf
      refine sm_sub [0, 1, 2, 3, 4] rfl ?_
      exact w_en_moveDampers_L112 l lo hi d hS hk7 _ _ _ _ _ _ e0 e1 e2 hf
    · have hf := sm_ifF c26 hf
      refine sm_iconst (v := 1) (by decide) d_en_moveDampers_108 ?_
      refine sm_goto 113 d_en_moveDampers_109 rfl ?_
      refine sm_sub [0, 1, 2, 3, 4] rfl ?_
      exact w_en_moveDampers_L113 l lo hi d hS hk7 _ _ _ _ _ _ _ e0 e1 e2 hf
theorem w_en_moveDampers_L84 (l : Launch) (lo hi d : Nat) (hS : sm_has lo hi) {k7 : Nat → Nat → Nat → Int32 → sm_H → Option sm_H} {h' : sm_H} (hk7 : ∀ (a0 : Nat) (a1 : Nat) (a2 : Nat) (a3 : Int32) (h : sm_H) (_ : sm_at lo hi (0, 2, 0) a0) (_ : sm_at lo hi (0, 7, 0) a1) (_ : sm_at lo hi (0, 4, 0) a2) , k7 a0 a1 a2 a3 h = some h' → sm_W l lo hi (d + 3) q_en_moveDampers 7 [(0, .ref a0), (1, .ref a1), (2, .ref a2), (3, .int a3)] [] h none h') (a0 : Nat) (a1 : Nat) (a2 : Nat) (a3 : Int32) (a4 : Int32) (a5 : Int32) (s0 : Int32) (s1 : Int32) (s2 : Int32) (s3 : Nat) (h : sm_H) (e0 : sm_at lo hi (0, 2, 0) a0) (e1 : sm_at lo hi (0, 7, 0) a1) (e2 : sm_at lo hi (0, 4, 0) a2) (t3 : sm_arr lo hi 0 23 s3) (hf : f_en_moveDampers_L84 k7 a0 a1 a2 a3 a4 a5 s0 s1 s2 s3 h = some h') : sm_W l lo hi (d + 3) q_en_moveDampers 84 [(0, .ref a0), (1, .ref a1), (2, .ref a2), (3, .int a3), (4, .int a4), (5, .int a5)] [.int s0, .int s1, .int s2, .ref s3] h none h' := by
  unfold f_en_moveDampers_L84 at hf
  refine sm_iadd d_en_moveDampers_84 ?_
  obtain ⟨c20, hf⟩ := sm_gdE hf
  refine sm_iast t3 c20 d_en_moveDampers_85 ?_
  refine sm_nmH (fun g21 w22 => ?_)
  have hf := sm_letV w22 hf
  exact w_en_moveDampers_L86 l lo hi d hS hk7 _ _ _ _ _ _ _ e0 e1 e2 hf
theorem w_en_moveDampers_L42 (l : Launch) (lo hi d : Nat) (hS : sm_has lo hi) {k7 : Nat → Nat → Nat → Int32 → sm_H → Option sm_H} {h' : sm_H} (hk7 : ∀ (a0 : Nat) (a1 : Nat) (a2 : Nat) (a3 : Int32) (h : sm_H) (_ : sm_at lo hi (0, 2, 0) a0) (_ : sm_at lo hi (0, 7, 0) a1) (_ : sm_at lo hi (0, 4, 0) a2) , k7 a0 a1 a2 a3 h = some h' → sm_W l lo hi (d + 3) q_en_moveDampers 7 [(0, .ref a0), (1, .ref a1), (2, .ref a2), (3, .int a3)] [] h none h') (a0 : Nat) (a1 : Nat) (a2 : Nat) (a3 : Int32) (a4 : Int32) (s0 : Int32) (h : sm_H) (e0 : sm_at lo hi (0, 2, 0) a0) (e1 : sm_at lo hi (0, 7, 0) a1) (e2 : sm_at lo hi (0, 4, 0) a2) (hf : f_en_moveDampers_L42 k7 a0 a1 a2 a3 a4 s0 h = some h') : sm_W l lo hi (d + 3) q_en_moveDampers 42 [(0, .ref a0), (1, .ref a1), (2, .ref a2), (3, .int a3), (4, .int a4)] [.int s0] h none h' := by
  unfold f_en_moveDampers_L42 at hf
  refine sm_istore (lv' := [(5, .int s0), (0, .ref a0), (1, .ref a1), (2, .ref a2), (3, .int a3), (4, .int a4)]) d_en_moveDampers_42 rfl rfl ?_
  refine sm_aload_n 2 rfl d_en_moveDampers_44 ?_
  refine sm_getI fl_en_85 e1 rfl d_en_moveDampers_45 ?_
  refine sm_iload_n 4 rfl d_en_moveDampers_48 ?_
  obtain ⟨r12, g13, c14, hf⟩ := sm_b2E hf
  refine sm_callN (As := [.int (h a1 7), .int a3]) (rv := some (.int r12)) (h1 := g13) cvn_en_88 (m_sc_has l lo hi _ c14) rfl rfl d_en_moveDampers_49 ?_
  refine sm_if_ne 86 d_en_moveDampers_52 rfl (fun c15 => ?_) (fun c15 => ?_)
  · have hf := sm_ifF c15 hf
    refine sm_sub [1, 2, 3, 4, 5, 0] rfl ?_
    exact w_en_moveDampers_L86 l lo hi d hS hk7 _ _ _ _ _ _ _ e0 e1 e2 hf
  · have hf := sm_ifT c15 hf
    refine sm_aload_n 2 rfl d_en_moveDampers_55 ?_
    refine sm_getR (n := 3) fl_en_92 e1 rfl d_en_moveDampers_56 ?_
    refine sm_iload_n 4 rfl d_en_moveDampers_59 ?_
    obtain ⟨c16, hf⟩ := sm_gdE hf
    refine sm_iald (sm_at_arr (sm_inner e1 11 rfl rfl rfl)) c16 d_en_moveDampers_60 ?_
    refine sm_iload 0 rfl d_en_moveDampers_61 ?_
    refine sm_icmp_eq 86 d_en_moveDampers_63 rfl (fun c17 => ?_) (fun c17 => ?_)
    · have hf := sm_ifT c17 hf
      refine sm_sub [1, 2, 3, 4, 5, 0] rfl ?_
      exact w_en_moveDampers_L86 l lo hi d hS hk7 _ _ _ _ _ _ _ e0 e1 e2 hf
    · have hf := sm_ifF c17 hf
      refine sm_aload_n 2 rfl d_en_moveDampers_66 ?_
      refine sm_getR (n := 3) fl_en_92 e1 rfl d_en_moveDampers_67 ?_
      refine sm_iload_n 4 rfl d_en_moveDampers_70 ?_
      refine sm_dup2 rfl rfl d_en_moveDampers_71 ?_
      obtain ⟨c18, hf⟩ := sm_gdE hf
      refine sm_iald (sm_at_arr (sm_inner e1 11 rfl rfl rfl)) c18 d_en_moveDampers_72 ?_
      refine sm_iload 5 rfl d_en_moveDampers_73 ?_
      refine sm_iconst (v := 1) (by decide) d_en_moveDampers_75 ?_
      refine sm_icmp_ne 83 d_en_moveDampers_76 rfl (fun c19 => ?_) (fun c19 => ?_)
      · have hf := sm_ifF c19 hf
        refine sm_iconst (v := (-1)) (by decide) d_en_moveDampers_83 ?_
        refine sm_sub [1, 2, 3, 4, 5, 0] rfl ?_
        exact w_en_moveDampers_L84 l lo hi d hS hk7 _ _ _ _ _ _ _ _ _ _ _ e0 e1 e2 (sm_at_arr (sm_inner e1 11 rfl rfl rfl)) hf
      · have hf := sm_ifT c19 hf
        refine sm_iconst (v := 1) (by decide) d_en_moveDampers_79 ?_
        refine sm_goto 84 d_en_moveDampers_80 rfl ?_
        refine sm_sub [1, 2, 3, 4, 5, 0] rfl ?_
        exact w_en_moveDampers_L84 l lo hi d hS hk7 _ _ _ _ _ _ _ _ _ _ _ e0 e1 e2 (sm_at_arr (sm_inner e1 11 rfl rfl rfl)) hf
theorem w_en_moveDampers_L7 (l : Launch) (lo hi d : Nat) (hS : sm_has lo hi) {h' : sm_H} : ∀ (n : Nat) (a0 : Nat) (a1 : Nat) (a2 : Nat) (a3 : Int32) (h : sm_H) (e0 : sm_at lo hi (0, 2, 0) a0) (e1 : sm_at lo hi (0, 7, 0) a1) (e2 : sm_at lo hi (0, 4, 0) a2) (hf : f_en_moveDampers_L7 n a0 a1 a2 a3 h = some h'), sm_W l lo hi (d + 3) q_en_moveDampers 7 [(0, .ref a0), (1, .ref a1), (2, .ref a2), (3, .int a3)] [] h none h' := by
  intro n
  induction n with
  | zero =>
    intro a0 a1 a2 a3 h e0 e1 e2 hf
    have z : (none : Option sm_H) = some _ := hf
    cases z
  | succ n ih =>
    intro a0 a1 a2 a3 h e0 e1 e2 hf
    unfold f_en_moveDampers_L7 at hf
    refine sm_iload_n 3 rfl d_en_moveDampers_7 ?_
    refine sm_aload_n 2 rfl d_en_moveDampers_8 ?_
    refine sm_getI fl_en_74 e2 rfl d_en_moveDampers_9 ?_
    refine sm_icmp_ge 149 d_en_moveDampers_12 rfl (fun c6 => ?_) (fun c6 => ?_)
    · have hf := sm_ifT c6 hf
      obtain rfl := sm_ret1 hf
      exact sm_vret d_en_moveDampers_149 rfl
    · have hf := sm_ifF c6 hf
      refine sm_aload_n 0 rfl d_en_moveDampers_15 ?_
      refine sm_getR (n := 1) fl_en_12 e0 rfl d_en_moveDampers_16 ?_
      refine sm_getR (n := 2) fl_en_79 (sm_inner e0 0 rfl rfl rfl) rfl d_en_moveDampers_19 ?_
      refine sm_iload_n 3 rfl d_en_moveDampers_22 ?_
      obtain ⟨c7, hf⟩ := sm_gdE hf
      refine sm_iald (sm_at_arr (sm_inner (sm_inner e0 0 rfl rfl rfl) 1 rfl rfl rfl)) c7 d_en_moveDampers_23 ?_
      refine sm_nmI (fun x8 w9 => ?_)
      have hf := sm_letV w9 hf
      refine sm_istore (lv' := [(4, .int x8), (0, .ref a0), (1, .ref a1), (2, .ref a2), (3, .int a3)]) d_en_moveDampers_24 rfl rfl ?_
      refine sm_iload 0 rfl d_en_moveDampers_26 ?_
      refine sm_iconst (v := 1) (by decide) d_en_moveDampers_28 ?_
      refine sm_icmp_ne 41 d_en_moveDampers_29 rfl (fun c10 => ?_) (fun c10 => ?_)
      · have hf := sm_ifF c10 hf
        refine sm_iconst (v := 0) (by decide) d_en_moveDampers_41 ?_
        refine sm_sub [1, 2, 3, 4, 0] rfl ?_
        exact w_en_moveDampers_L42 l lo hi d hS ih _ _ _ _ _ _ _ e0 e1 e2 hf
      · have hf := sm_ifT c10 hf
        refine sm_aload_n 3 rfl d_en_moveDampers_32 ?_
        refine sm_getR (n := 2) fl_en_82 e2 rfl d_en_moveDampers_33 ?_
        refine sm_iload_n 4 rfl d_en_moveDampers_36 ?_
        obtain ⟨c11, hf⟩ := sm_gdE hf
        refine sm_iald (sm_at_arr (sm_inner e2 8 rfl rfl rfl)) c11 d_en_moveDampers_37 ?_
        refine sm_goto 42 d_en_moveDampers_38 rfl ?_
        refine sm_sub [1, 2, 3, 4, 0] rfl ?_
        exact w_en_moveDampers_L42 l lo hi d hS ih _ _ _ _ _ _ _ e0 e1 e2 hf
theorem m_en_moveDampers (l : Launch) (lo hi d : Nat) (hS : sm_has lo hi) {a0 : Nat} {a1 : Nat} {h h' : sm_H} (e0 : sm_at lo hi (0, 2, 0) a0) (e1 : sm_at lo hi (0, 7, 0) a1) (hf : f_en_moveDampers a0 a1 h = some h') : sm_Met l lo hi (d + 3) q_en_moveDampers [.ref a0, .ref a1] h none h' := by
  refine sm_Met.of (by decide +kernel) rfl ?_
  show sm_W l lo hi (d + 3) q_en_moveDampers 0 [(0, .ref a0), (1, .ref a1)] [] h none h'
  unfold f_en_moveDampers at hf
  refine sm_aload_n 1 rfl d_en_moveDampers_0 ?_
  obtain ⟨c1, hf⟩ := sm_gdE hf
  obtain ⟨z2, v3⟩ := sm_isP_at hS c1
  refine sm_getD fl_en_70 e1 rfl z2 d_en_moveDampers_1 ?_
  refine sm_nmR (fun p4 w5 => ?_)
  have hf := sm_letV w5 hf
  have v3 := sm_ev w5 v3
  refine sm_astore_n (lv' := [(2, .ref p4), (0, .ref a0), (1, .ref a1)]) d_en_moveDampers_4 rfl rfl ?_
  refine sm_iconst (v := 0) (by decide) d_en_moveDampers_5 ?_
  refine sm_istore_n (lv' := [(3, .int 0), (2, .ref p4), (0, .ref a0), (1, .ref a1)]) d_en_moveDampers_6 rfl rfl ?_
  refine sm_sub [2, 3, 1, 0] rfl ?_
  exact w_en_moveDampers_L7 l lo hi d hS sm_N _ _ _ _ _ e0 e1 v3 hf
theorem d_en_fillStair_0 : decode q_en_fillStair.2.1 0 = .ok (.aload_n 0, 1) := by decide +kernel
theorem d_en_fillStair_1 : decode q_en_fillStair.2.1 1 = .ok (.getfield 70, 3) := by decide +kernel
theorem d_en_fillStair_4 : decode q_en_fillStair.2.1 4 = .ok (.astore_n 2, 1) := by decide +kernel
theorem d_en_fillStair_5 : decode q_en_fillStair.2.1 5 = .ok (.iconst 0, 1) := by decide +kernel
theorem d_en_fillStair_6 : decode q_en_fillStair.2.1 6 = .ok (.bipush 12, 2) := by decide +kernel
theorem d_en_fillStair_8 : decode q_en_fillStair.2.1 8 = .ok (.aload_n 0, 1) := by decide +kernel
theorem d_en_fillStair_9 : decode q_en_fillStair.2.1 9 = .ok (.getfield 138, 3) := by decide +kernel
theorem d_en_fillStair_12 : decode q_en_fillStair.2.1 12 = .ok (.isub, 1) := by decide +kernel
theorem d_en_fillStair_13 : decode q_en_fillStair.2.1 13 = .ok (.invokestatic 141, 3) := by decide +kernel
theorem d_en_fillStair_16 : decode q_en_fillStair.2.1 16 = .ok (.istore_n 3, 1) := by decide +kernel
theorem d_en_fillStair_17 : decode q_en_fillStair.2.1 17 = .ok (.iconst 0, 1) := by decide +kernel
theorem d_en_fillStair_18 : decode q_en_fillStair.2.1 18 = .ok (.istore 4, 2) := by decide +kernel
theorem d_en_fillStair_20 : decode q_en_fillStair.2.1 20 = .ok (.iconst 0, 1) := by decide +kernel
theorem d_en_fillStair_21 : decode q_en_fillStair.2.1 21 = .ok (.istore 5, 2) := by decide +kernel
theorem d_en_fillStair_23 : decode q_en_fillStair.2.1 23 = .ok (.iload 5, 2) := by decide +kernel
theorem d_en_fillStair_25 : decode q_en_fillStair.2.1 25 = .ok (.aload_n 2, 1) := by decide +kernel
theorem d_en_fillStair_26 : decode q_en_fillStair.2.1 26 = .ok (.getfield 197, 3) := by decide +kernel
theorem d_en_fillStair_29 : decode q_en_fillStair.2.1 29 = .ok (.if_icmp .ge 55, 3) := by decide +kernel
theorem d_en_fillStair_32 : decode q_en_fillStair.2.1 32 = .ok (.aload_n 0, 1) := by decide +kernel
theorem d_en_fillStair_33 : decode q_en_fillStair.2.1 33 = .ok (.getfield 131, 3) := by decide +kernel
theorem d_en_fillStair_36 : decode q_en_fillStair.2.1 36 = .ok (.iload 5, 2) := by decide +kernel
theorem d_en_fillStair_38 : decode q_en_fillStair.2.1 38 = .ok (.invokestatic 88, 3) := by decide +kernel
theorem d_en_fillStair_41 : decode q_en_fillStair.2.1 41 = .ok (.ifCond .eq 8, 3) := by decide +kernel
theorem d_en_fillStair_44 : decode q_en_fillStair.2.1 44 = .ok (.bipush 20, 2) := by decide +kernel
theorem d_en_fillStair_46 : decode q_en_fillStair.2.1 46 = .ok (.goto 4, 3) := by decide +kernel
theorem d_en_fillStair_49 : decode q_en_fillStair.2.1 49 = .ok (.iconst 1, 1) := by decide +kernel
theorem d_en_fillStair_50 : decode q_en_fillStair.2.1 50 = .ok (.istore 6, 2) := by decide +kernel
theorem d_en_fillStair_52 : decode q_en_fillStair.2.1 52 = .ok (.iload 4, 2) := by decide +kernel
theorem d_en_fillStair_54 : decode q_en_fillStair.2.1 54 = .ok (.aload_n 0, 1) := by decide +kernel
theorem d_en_fillStair_55 : decode q_en_fillStair.2.1 55 = .ok (.getfield 184, 3) := by decide +kernel
theorem d_en_fillStair_58 : decode q_en_fillStair.2.1 58 = .ok (.aload_n 2, 1) := by decide +kernel
theorem d_en_fillStair_59 : decode q_en_fillStair.2.1 59 = .ok (.getfield 200, 3) := by decide +kernel
theorem d_en_fillStair_62 : decode q_en_fillStair.2.1 62 = .ok (.iload 5, 2) := by decide +kernel
theorem d_en_fillStair_64 : decode q_en_fillStair.2.1 64 = .ok (.iaload, 1) := by decide +kernel
theorem d_en_fillStair_65 : decode q_en_fillStair.2.1 65 = .ok (.iaload, 1) := by decide +kernel
theorem d_en_fillStair_66 : decode q_en_fillStair.2.1 66 = .ok (.iload_n 3, 1) := by decide +kernel
theorem d_en_fillStair_67 : decode q_en_fillStair.2.1 67 = .ok (.imul, 1) := by decide +kernel
theorem d_en_fillStair_68 : decode q_en_fillStair.2.1 68 = .ok (.iload 6, 2) := by decide +kernel
theorem d_en_fillStair_70 : decode q_en_fillStair.2.1 70 = .ok (.imul, 1) := by decide +kernel
theorem d_en_fillStair_71 : decode q_en_fillStair.2.1 71 = .ok (.sipush 2400, 3) := by decide +kernel
theorem d_en_fillStair_74 : decode q_en_fillStair.2.1 74 = .ok (.idiv, 1) := by decide +kernel
theorem d_en_fillStair_75 : decode q_en_fillStair.2.1 75 = .ok (.iadd, 1) := by decide +kernel
theorem d_en_fillStair_76 : decode q_en_fillStair.2.1 76 = .ok (.istore 4, 2) := by decide +kernel
theorem d_en_fillStair_78 : decode q_en_fillStair.2.1 78 = .ok (.iinc 5 1, 3) := by decide +kernel
theorem d_en_fillStair_81 : decode q_en_fillStair.2.1 81 = .ok (.goto (-58), 3) := by decide +kernel
theorem d_en_fillStair_84 : decode q_en_fillStair.2.1 84 = .ok (.sipush 1000, 3) := by decide +kernel
theorem d_en_fillStair_87 : decode q_en_fillStair.2.1 87 = .ok (.aload_n 0, 1) := by decide +kernel
theorem d_en_fillStair_88 : decode q_en_fillStair.2.1 88 = .ok (.getfield 203, 3) := by decide +kernel
theorem d_en_fillStair_91 : decode q_en_fillStair.2.1 91 = .ok (.iload 4, 2) := by decide +kernel
theorem d_en_fillStair_93 : decode q_en_fillStair.2.1 93 = .ok (.iadd, 1) := by decide +kernel
theorem d_en_fillStair_94 : decode q_en_fillStair.2.1 94 = .ok (.invokestatic 146, 3) := by decide +kernel
theorem d_en_fillStair_97 : decode q_en_fillStair.2.1 97 = .ok (.istore 5, 2) := by decide +kernel
theorem d_en_fillStair_99 : decode q_en_fillStair.2.1 99 = .ok (.aload_n 0, 1) := by decide +kernel
theorem d_en_fillStair_100 : decode q_en_fillStair.2.1 100 = .ok (.iload 5, 2) := by decide +kernel
theorem d_en_fillStair_102 : decode q_en_fillStair.2.1 102 = .ok (.iload 5, 2) := by decide +kernel
theorem d_en_fillStair_104 : decode q_en_fillStair.2.1 104 = .ok (.sipush 1000, 3) := by decide +kernel
theorem d_en_fillStair_107 : decode q_en_fillStair.2.1 107 = .ok (.iload_n 1, 1) := by decide +kernel
theorem d_en_fillStair_108 : decode q_en_fillStair.2.1 108 = .ok (.invokestatic 146, 3) := by decide +kernel
theorem d_en_fillStair_111 : decode q_en_fillStair.2.1 111 = .ok (.imul, 1) := by decide +kernel
theorem d_en_fillStair_112 : decode q_en_fillStair.2.1 112 = .ok (.sipush 4000, 3) := by decide +kernel
theorem d_en_fillStair_115 : decode q_en_fillStair.2.1 115 = .ok (.idiv, 1) := by decide +kernel
theorem d_en_fillStair_116 : decode q_en_fillStair.2.1 116 = .ok (.isub, 1) := by decide +kernel
theorem d_en_fillStair_117 : decode q_en_fillStair.2.1 117 = .ok (.putfield 203, 3) := by decide +kernel
theorem d_en_fillStair_120 : decode q_en_fillStair.2.1 120 = .ok (.return_, 1) := by decide +kernel
theorem w_en_fillStair_L84 (l : Launch) (lo hi d : Nat) (hS : sm_has lo hi) {h' : sm_H} (a0 : Nat) (a1 : Int32) (a4 : Int32) (h : sm_H) (e0 : sm_at lo hi (0, 7, 0) a0) (hf : f_en_fillStair_L84 a0 a1 a4 h = some h') : sm_W l lo hi (d + 1) q_en_fillStair 84 [(0, .ref a0), (1, .int a1), (4, .int a4)] [] h none h' := by
  unfold f_en_fillStair_L84 at hf
  refine sm_sipush (v := 1000) (by decide) d_en_fillStair_84 ?_
  refine sm_aload_n 0 rfl d_en_fillStair_87 ?_
  refine sm_getI fl_en_203 e0 rfl d_en_fillStair_88 ?_
  refine sm_iload 2 rfl d_en_fillStair_91 ?_
  refine sm_iadd d_en_fillStair_93 ?_
  obtain ⟨r20, g21, c22, hf⟩ := sm_b2E hf
  refine sm_callS (As := [.int 1000, .int ((h a0 5) + a4)]) (rv := some (.int r20)) (h1 := g21) cvs_en_146 (m_jm_min l lo hi _ c22) rfl rfl d_en_fillStair_94 ?_
  refine sm_istore (lv' := [(5, .int r20), (0, .ref a0), (1, .int a1), (4, .int a4)]) d_en_fillStair_97 rfl rfl ?_
  refine sm_aload_n 1 rfl d_en_fillStair_99 ?_
  refine sm_iload 0 rfl d_en_fillStair_100 ?_
  refine sm_iload 0 rfl d_en_fillStair_102 ?_
  refine sm_sipush (v := 1000) (by decide) d_en_fillStair_104 ?_
  refine sm_iload_n 2 rfl d_en_fillStair_107 ?_
  obtain ⟨r23, g24, c25, hf⟩ := sm_b2E hf
  refine sm_callS (As := [.int 1000, .int a1]) (rv := some (.int r23)) (h1 := g24) cvs_en_146 (m_jm_min l lo hi _ c25) rfl rfl d_en_fillStair_108 ?_
  refine sm_imul d_en_fillStair_111 ?_
  refine sm_sipush (v := 4000) (by decide) d_en_fillStair_112 ?_
  refine sm_idiv (by decide) d_en_fillStair_115 ?_
  refine sm_isub d_en_fillStair_116 ?_
  refine sm_putI fp_en_203 e0 rfl rfl d_en_fillStair_117 ?_
  refine sm_nmH (fun g26 w27 => ?_)
  have hf := sm_letV w27 hf
  obtain rfl := sm_ret1 hf
  exact sm_vret d_en_fillStair_120 rfl
theorem w_en_fillStair_L50 (l : Launch) (lo hi d : Nat) (hS : sm_has lo hi) {k23 : Nat → Int32 → Nat → Int32 → Int32 → Int32 → sm_H → Option sm_H} {h' : sm_H} (hk23 : ∀ (a0 : Nat) (a1 : Int32) (a2 : Nat) (a3 : Int32) (a4 : Int32) (a5 : Int32) (h : sm_H) (_ : sm_at lo hi (0, 7, 0) a0) (_ : sm_at lo hi (0, 4, 0) a2) , k23 a0 a1 a2 a3 a4 a5 h = some h' → sm_W l lo hi (d + 1) q_en_fillStair 23 [(0, .ref a0), (1, .int a1), (2, .ref a2), (3, .int a3), (4, .int a4), (5, .int a5)] [] h none h') (a0 : Nat) (a1 : Int32) (a2 : Nat) (a3 : Int32) (a4 : Int32) (a5 : Int32) (s0 : Int32) (h : sm_H) (e0 : sm_at lo hi (0, 7, 0) a0) (e2 : sm_at lo hi (0, 4, 0) a2) (hf : f_en_fillStair_L50 k23 a0 a1 a2 a3 a4 a5 s0 h = some h') : sm_W l lo hi (d + 1) q_en_fillStair 50 [(0, .ref a0), (1, .int a1), (2, .ref a2), (3, .int a3), (4, .int a4), (5, .int a5)] [.int s0] h none h' := by
  unfold f_en_fillStair_L50 at hf
  refine sm_istore (lv' := [(6, .int s0), (0, .ref a0), (1, .int a1), (2, .ref a2), (3, .int a3), (4, .int a4), (5, .int a5)]) d_en_fillStair_50 rfl rfl ?_
  refine sm_iload 5 rfl d_en_fillStair_52 ?_
  refine sm_aload_n 1 rfl d_en_fillStair_54 ?_
  refine sm_getR (n := 1) fl_en_184 e0 rfl d_en_fillStair_55 ?_
  refine sm_aload_n 3 rfl d_en_fillStair_58 ?_
  refine sm_getR (n := 6) fl_en_200 e2 rfl d_en_fillStair_59 ?_
  refine sm_iload 6 rfl d_en_fillStair_62 ?_
  obtain ⟨c14, hf⟩ := sm_gdE hf
  refine sm_iald (sm_at_arr (sm_inner e2 12 rfl rfl rfl)) c14 d_en_fillStair_64 ?_
  obtain ⟨c15, hf⟩ := sm_gdE hf
  refine sm_iald (sm_at_arr (sm_inner e0 9 rfl rfl rfl)) c15 d_en_fillStair_65 ?_
  refine sm_iload_n 4 rfl d_en_fillStair_66 ?_
  refine sm_imul d_en_fillStair_67 ?_
  refine sm_iload 0 rfl d_en_fillStair_68 ?_
  refine sm_imul d_en_fillStair_70 ?_
  refine sm_sipush (v := 2400) (by decide) d_en_fillStair_71 ?_
  refine sm_idiv (by decide) d_en_fillStair_74 ?_
  refine sm_iadd d_en_fillStair_75 ?_
  refine sm_nmI (fun x16 w17 => ?_)
  have hf := sm_letV w17 hf
  refine sm_istore (lv' := [(4, .int x16), (6, .int s0), (0, .ref a0), (1, .int a1), (2, .ref a2), (3, .int a3), (5, .int a5)]) d_en_fillStair_76 rfl rfl ?_
  obtain ⟨x18, w19⟩ : ∃ v : Int32, v = a5 + 1 := ⟨_, rfl⟩
  have hf := sm_letV w19 hf
  refine sm_iinc (v := x18) (lv' := [(5, .int x18), (4, .int x16), (6, .int s0), (0, .ref a0), (1, .int a1), (2, .ref a2), (3, .int a3)]) 6 rfl (by rw [w19]; rfl) d_en_fillStair_78 rfl rfl ?_
  refine sm_goto 23 d_en_fillStair_81 rfl ?_
  refine sm_sub [3, 4, 5, 6, 1, 0] rfl ?_
  exact hk23 _ _ _ _ _ _ _ e0 e2 hf
theorem w_en_fillStair_L23 (l : Launch) (lo hi d : Nat) (hS : sm_has lo hi) {h' : sm_H} : ∀ (n : Nat) (a0 : Nat) (a1 : Int32) (a2 : Nat) (a3 : Int32) (a4 : Int32) (a5 : Int32) (h : sm_H) (e0 : sm_at lo hi (0, 7, 0) a0) (e2 : sm_at lo hi (0, 4, 0) a2) (hf : f_en_fillStair_L23 n a0 a1 a2 a3 a4 a5 h = some h'), sm_W l lo hi (d + 1) q_en_fillStair 23 [(0, .ref a0), (1, .int a1), (2, .ref a2), (3, .int a3), (4, .int a4), (5, .int a5)] [] h none h' := by
  intro n
  induction n with
  | zero =>
    intro a0 a1 a2 a3 a4 a5 h e0 e2 hf
    have z : (none : Option sm_H) = some _ := hf
    cases z
  | succ n ih =>
    intro a0 a1 a2 a3 a4 a5 h e0 e2 hf
    unfold f_en_fillStair_L23 at hf
    refine sm_iload 5 rfl d_en_fillStair_23 ?_
    refine sm_aload_n 2 rfl d_en_fillStair_25 ?_
    refine sm_getI fl_en_197 e2 rfl d_en_fillStair_26 ?_
    refine sm_icmp_ge 84 d_en_fillStair_29 rfl (fun c9 => ?_) (fun c9 => ?_)
    · have hf := sm_ifT c9 hf
      refine sm_sub [0, 1, 4] rfl ?_
      exact w_en_fillStair_L84 l lo hi d hS _ _ _ _ e0 hf
    · have hf := sm_ifF c9 hf
      refine sm_aload_n 0 rfl d_en_fillStair_32 ?_
      refine sm_getI fl_en_131 e0 rfl d_en_fillStair_33 ?_
      refine sm_iload 5 rfl d_en_fillStair_36 ?_
      obtain ⟨r10, g11, c12, hf⟩ := sm_b2E hf
      refine sm_callN (As := [.int (h a0 6), .int a5]) (rv := some (.int r10)) (h1 := g11) cvn_en_88 (m_sc_has l lo hi _ c12) rfl rfl d_en_fillStair_38 ?_
      refine sm_if_eq 49 d_en_fillStair_41 rfl (fun c13 => ?_) (fun c13 => ?_)
      · have hf := sm_ifT c13 hf
        refine sm_iconst (v := 1) (by decide) d_en_fillStair_49 ?_
        exact w_en_fillStair_L50 l lo hi d hS ih _ _ _ _ _ _ _ _ e0 e2 hf
      · have hf := sm_ifF c13 hf
        refine sm_bipush (v := 20) (by decide) d_en_fillStair_44 ?_
        refine sm_goto 50 d_en_fillStair_46 rfl ?_
        exact w_en_fillStair_L50 l lo hi d hS ih _ _ _ _ _ _ _ _ e0 e2 hf
theorem m_en_fillStair (l : Launch) (lo hi d : Nat) (hS : sm_has lo hi) {a0 : Nat} {a1 : Int32} {h h' : sm_H} (e0 : sm_at lo hi (0, 7, 0) a0) (hf : f_en_fillStair a0 a1 h = some h') : sm_Met l lo hi (d + 1) q_en_fillStair [.ref a0, .int a1] h none h' := by
  refine sm_Met.of (by decide +kernel) rfl ?_
  show sm_W l lo hi (d + 1) q_en_fillStair 0 [(0, .ref a0), (1, .int a1)] [] h none h'
  unfold f_en_fillStair at hf
  refine sm_aload_n 0 rfl d_en_fillStair_0 ?_
  obtain ⟨c1, hf⟩ := sm_gdE hf
  obtain ⟨z2, v3⟩ := sm_isP_at hS c1
  refine sm_getD fl_en_70 e0 rfl z2 d_en_fillStair_1 ?_
  refine sm_nmR (fun p4 w5 => ?_)
  have hf := sm_letV w5 hf
  have v3 := sm_ev w5 v3
  refine sm_astore_n (lv' := [(2, .ref p4), (0, .ref a0), (1, .int a1)]) d_en_fillStair_4 rfl rfl ?_
  refine sm_iconst (v := 0) (by decide) d_en_fillStair_5 ?_
  refine sm_bipush (v := 12) (by decide) d_en_fillStair_6 ?_
  refine sm_aload_n 1 rfl d_en_fillStair_8 ?_
  refine sm_getI fl_en_138 e0 rfl d_en_fillStair_9 ?_
  refine sm_isub d_en_fillStair_12 ?_
  obtain ⟨r6, g7, c8, hf⟩ := sm_b2E hf
  refine sm_callS (As := [.int 0, .int (12 - (h a0 3))]) (rv := some (.int r6)) (h1 := g7) cvs_en_141 (m_jm_max l lo hi _ c8) rfl rfl d_en_fillStair_13 ?_
  refine sm_istore_n (lv' := [(3, .int r6), (2, .ref p4), (0, .ref a0), (1, .int a1)]) d_en_fillStair_16 rfl rfl ?_
  refine sm_iconst (v := 0) (by decide) d_en_fillStair_17 ?_
  refine sm_istore (lv' := [(4, .int 0), (3, .int r6), (2, .ref p4), (0, .ref a0), (1, .int a1)]) d_en_fillStair_18 rfl rfl ?_
  refine sm_iconst (v := 0) (by decide) d_en_fillStair_20 ?_
  refine sm_istore (lv' := [(5, .int 0), (4, .int 0), (3, .int r6), (2, .ref p4), (0, .ref a0), (1, .int a1)]) d_en_fillStair_21 rfl rfl ?_
  refine sm_sub [4, 5, 3, 2, 1, 0] rfl ?_
  exact w_en_fillStair_L23 l lo hi d hS sm_N _ _ _ _ _ _ _ e0 v3 hf
theorem d_en_flowBetween_0 : decode q_en_flowBetween.2.1 0 = .ok (.aload_n 0, 1) := by decide +kernel
theorem d_en_flowBetween_1 : decode q_en_flowBetween.2.1 1 = .ok (.getfield 18, 3) := by decide +kernel
theorem d_en_flowBetween_4 : decode q_en_flowBetween.2.1 4 = .ok (.iload_n 2, 1) := by decide +kernel
theorem d_en_flowBetween_5 : decode q_en_flowBetween.2.1 5 = .ok (.iaload, 1) := by decide +kernel
theorem d_en_flowBetween_6 : decode q_en_flowBetween.2.1 6 = .ok (.aload_n 0, 1) := by decide +kernel
theorem d_en_flowBetween_7 : decode q_en_flowBetween.2.1 7 = .ok (.getfield 22, 3) := by decide +kernel
theorem d_en_flowBetween_10 : decode q_en_flowBetween.2.1 10 = .ok (.iload_n 2, 1) := by decide +kernel
theorem d_en_flowBetween_11 : decode q_en_flowBetween.2.1 11 = .ok (.iaload, 1) := by decide +kernel
theorem d_en_flowBetween_12 : decode q_en_flowBetween.2.1 12 = .ok (.isub, 1) := by decide +kernel
theorem d_en_flowBetween_13 : decode q_en_flowBetween.2.1 13 = .ok (.istore 4, 2) := by decide +kernel
theorem d_en_flowBetween_15 : decode q_en_flowBetween.2.1 15 = .ok (.aload_n 0, 1) := by decide +kernel
theorem d_en_flowBetween_16 : decode q_en_flowBetween.2.1 16 = .ok (.getfield 18, 3) := by decide +kernel
theorem d_en_flowBetween_19 : decode q_en_flowBetween.2.1 19 = .ok (.iload_n 3, 1) := by decide +kernel
theorem d_en_flowBetween_20 : decode q_en_flowBetween.2.1 20 = .ok (.iaload, 1) := by decide +kernel
theorem d_en_flowBetween_21 : decode q_en_flowBetween.2.1 21 = .ok (.aload_n 0, 1) := by decide +kernel
theorem d_en_flowBetween_22 : decode q_en_flowBetween.2.1 22 = .ok (.getfield 22, 3) := by decide +kernel
theorem d_en_flowBetween_25 : decode q_en_flowBetween.2.1 25 = .ok (.iload_n 3, 1) := by decide +kernel
theorem d_en_flowBetween_26 : decode q_en_flowBetween.2.1 26 = .ok (.iaload, 1) := by decide +kernel
theorem d_en_flowBetween_27 : decode q_en_flowBetween.2.1 27 = .ok (.isub, 1) := by decide +kernel
theorem d_en_flowBetween_28 : decode q_en_flowBetween.2.1 28 = .ok (.istore 5, 2) := by decide +kernel
theorem d_en_flowBetween_30 : decode q_en_flowBetween.2.1 30 = .ok (.iconst 0, 1) := by decide +kernel
theorem d_en_flowBetween_31 : decode q_en_flowBetween.2.1 31 = .ok (.sipush 500, 3) := by decide +kernel
theorem d_en_flowBetween_34 : decode q_en_flowBetween.2.1 34 = .ok (.bipush 100, 2) := by decide +kernel
theorem d_en_flowBetween_36 : decode q_en_flowBetween.2.1 36 = .ok (.iload 4, 2) := by decide +kernel
theorem d_en_flowBetween_38 : decode q_en_flowBetween.2.1 38 = .ok (.iadd, 1) := by decide +kernel
theorem d_en_flowBetween_39 : decode q_en_flowBetween.2.1 39 = .ok (.iload 5, 2) := by decide +kernel
theorem d_en_flowBetween_41 : decode q_en_flowBetween.2.1 41 = .ok (.isub, 1) := by decide +kernel
theorem d_en_flowBetween_42 : decode q_en_flowBetween.2.1 42 = .ok (.invokestatic 146, 3) := by decide +kernel
theorem d_en_flowBetween_45 : decode q_en_flowBetween.2.1 45 = .ok (.invokestatic 141, 3) := by decide +kernel
theorem d_en_flowBetween_48 : decode q_en_flowBetween.2.1 48 = .ok (.istore 6, 2) := by decide +kernel
theorem d_en_flowBetween_50 : decode q_en_flowBetween.2.1 50 = .ok (.aload_n 1, 1) := by decide +kernel
theorem d_en_flowBetween_51 : decode q_en_flowBetween.2.1 51 = .ok (.getfield 184, 3) := by decide +kernel
theorem d_en_flowBetween_54 : decode q_en_flowBetween.2.1 54 = .ok (.iload_n 2, 1) := by decide +kernel
theorem d_en_flowBetween_55 : decode q_en_flowBetween.2.1 55 = .ok (.iaload, 1) := by decide +kernel
theorem d_en_flowBetween_56 : decode q_en_flowBetween.2.1 56 = .ok (.iload 6, 2) := by decide +kernel
theorem d_en_flowBetween_58 : decode q_en_flowBetween.2.1 58 = .ok (.imul, 1) := by decide +kernel
theorem d_en_flowBetween_59 : decode q_en_flowBetween.2.1 59 = .ok (.sipush 5000, 3) := by decide +kernel
theorem d_en_flowBetween_62 : decode q_en_flowBetween.2.1 62 = .ok (.idiv, 1) := by decide +kernel
theorem d_en_flowBetween_63 : decode q_en_flowBetween.2.1 63 = .ok (.ireturn, 1) := by decide +kernel
theorem m_en_flowBetween (l : Launch) (lo hi d : Nat) {a0 : Nat} {a1 : Nat} {a2 : Int32} {a3 : Int32} {r0 : Int32} {h h' : sm_H} (e0 : sm_at lo hi (0, 2, 0) a0) (e1 : sm_at lo hi (0, 7, 0) a1) (hf : f_en_flowBetween a0 a1 a2 a3 h = some (r0, h')) : sm_Met l lo hi (d + 1) q_en_flowBetween [.ref a0, .ref a1, .int a2, .int a3] h (some (.int r0)) h' := by
  refine sm_Met.of (by decide +kernel) rfl ?_
  show sm_W l lo hi (d + 1) q_en_flowBetween 0 [(0, .ref a0), (1, .ref a1), (2, .int a2), (3, .int a3)] [] h (some (.int r0)) h'
  unfold f_en_flowBetween at hf
  refine sm_aload_n 0 rfl d_en_flowBetween_0 ?_
  refine sm_getR (n := 5) fl_en_18 e0 rfl d_en_flowBetween_1 ?_
  refine sm_iload_n 2 rfl d_en_flowBetween_4 ?_
  obtain ⟨c1, hf⟩ := sm_gdE hf
  refine sm_iald (sm_at_arr (sm_inner e0 1 rfl rfl rfl)) c1 d_en_flowBetween_5 ?_
  refine sm_aload_n 0 rfl d_en_flowBetween_6 ?_
  refine sm_getR (n := 6) fl_en_22 e0 rfl d_en_flowBetween_7 ?_
  refine sm_iload_n 2 rfl d_en_flowBetween_10 ?_
  obtain ⟨c2, hf⟩ := sm_gdE hf
  refine sm_iald (sm_at_arr (sm_inner e0 2 rfl rfl rfl)) c2 d_en_flowBetween_11 ?_
  refine sm_isub d_en_flowBetween_12 ?_
  refine sm_nmI (fun x3 w4 => ?_)
  have hf := sm_letV w4 hf
  refine sm_istore (lv' := [(4, .int x3), (0, .ref a0), (1, .ref a1), (2, .int a2), (3, .int a3)]) d_en_flowBetween_13 rfl rfl ?_
  refine sm_aload_n 1 rfl d_en_flowBetween_15 ?_
  refine sm_getR (n := 5) fl_en_18 e0 rfl d_en_flowBetween_16 ?_
  refine sm_iload_n 4 rfl d_en_flowBetween_19 ?_
  obtain ⟨c5, hf⟩ := sm_gdE hf
  refine sm_iald (sm_at_arr (sm_inner e0 1 rfl rfl rfl)) c5 d_en_flowBetween_20 ?_
  refine sm_aload_n 1 rfl d_en_flowBetween_21 ?_
  refine sm_getR (n := 6) fl_en_22 e0 rfl d_en_flowBetween_22 ?_
  refine sm_iload_n 4 rfl d_en_flowBetween_25 ?_
  obtain ⟨c6, hf⟩ := sm_gdE hf
  refine sm_iald (sm_at_arr (sm_inner e0 2 rfl rfl rfl)) c6 d_en_flowBetween_26 ?_
  refine sm_isub d_en_flowBetween_27 ?_
  refine sm_nmI (fun x7 w8 => ?_)
  have hf := sm_letV w8 hf
  refine sm_istore (lv' := [(5, .int x7), (4, .int x3), (0, .ref a0), (1, .ref a1), (2, .int a2), (3, .int a3)]) d_en_flowBetween_28 rfl rfl ?_
  refine sm_iconst (v := 0) (by decide) d_en_flowBetween_30 ?_
  refine sm_sipush (v := 500) (by decide) d_en_flowBetween_31 ?_
  refine sm_bipush (v := 100) (by decide) d_en_flowBetween_34 ?_
  refine sm_iload 1 rfl d_en_flowBetween_36 ?_
  refine sm_iadd d_en_flowBetween_38 ?_
  refine sm_iload 0 rfl d_en_flowBetween_39 ?_
  refine sm_isub d_en_flowBetween_41 ?_
  obtain ⟨r9, g10, c11, hf⟩ := sm_b2E hf
  refine sm_callS (As := [.int 500, .int ((100 + x3) - x7)]) (rv := some (.int r9)) (h1 := g10) cvs_en_146 (m_jm_min l lo hi _ c11) rfl rfl d_en_flowBetween_42 ?_
  obtain ⟨r12, g13, c14, hf⟩ := sm_b2E hf
  refine sm_callS (As := [.int 0, .int r9]) (rv := some (.int r12)) (h1 := g13) cvs_en_141 (m_jm_max l lo hi _ c14) rfl rfl d_en_flowBetween_45 ?_
  refine sm_istore (lv' := [(6, .int r12), (5, .int x7), (4, .int x3), (0, .ref a0), (1, .ref a1), (2, .int a2), (3, .int a3)]) d_en_flowBetween_48 rfl rfl ?_
  refine sm_aload_n 4 rfl d_en_flowBetween_50 ?_
  refine sm_getR (n := 1) fl_en_184 e1 rfl d_en_flowBetween_51 ?_
  refine sm_iload_n 5 rfl d_en_flowBetween_54 ?_
  obtain ⟨c15, hf⟩ := sm_gdE hf
  refine sm_iald (sm_at_arr (sm_inner e1 9 rfl rfl rfl)) c15 d_en_flowBetween_55 ?_
  refine sm_iload 0 rfl d_en_flowBetween_56 ?_
  refine sm_imul d_en_flowBetween_58 ?_
  refine sm_sipush (v := 5000) (by decide) d_en_flowBetween_59 ?_
  refine sm_idiv (by decide) d_en_flowBetween_62 ?_
  obtain ⟨rfl, rfl⟩ := sm_ret2 hf
  exact sm_iret d_en_flowBetween_63 rfl
theorem d_en_moveSmoke_0 : decode q_en_moveSmoke.2.1 0 = .ok (.aload_n 1, 1) := by decide +kernel
theorem d_en_moveSmoke_1 : decode q_en_moveSmoke.2.1 1 = .ok (.getfield 70, 3) := by decide +kernel
theorem d_en_moveSmoke_4 : decode q_en_moveSmoke.2.1 4 = .ok (.getfield 181, 3) := by decide +kernel
theorem d_en_moveSmoke_7 : decode q_en_moveSmoke.2.1 7 = .ok (.istore_n 3, 1) := by decide +kernel
theorem d_en_moveSmoke_8 : decode q_en_moveSmoke.2.1 8 = .ok (.iconst 0, 1) := by decide +kernel
theorem d_en_moveSmoke_9 : decode q_en_moveSmoke.2.1 9 = .ok (.istore 4, 2) := by decide +kernel
theorem d_en_moveSmoke_11 : decode q_en_moveSmoke.2.1 11 = .ok (.iload 4, 2) := by decide +kernel
theorem d_en_moveSmoke_13 : decode q_en_moveSmoke.2.1 13 = .ok (.iload_n 3, 1) := by decide +kernel
theorem d_en_moveSmoke_14 : decode q_en_moveSmoke.2.1 14 = .ok (.if_icmp .ge 76, 3) := by decide +kernel
theorem d_en_moveSmoke_17 : decode q_en_moveSmoke.2.1 17 = .ok (.sipush 1000, 3) := by decide +kernel
theorem d_en_moveSmoke_20 : decode q_en_moveSmoke.2.1 20 = .ok (.aload_n 1, 1) := by decide +kernel
theorem d_en_moveSmoke_21 : decode q_en_moveSmoke.2.1 21 = .ok (.getfield 184, 3) := by decide +kernel
theorem d_en_moveSmoke_24 : decode q_en_moveSmoke.2.1 24 = .ok (.iload 4, 2) := by decide +kernel
theorem d_en_moveSmoke_26 : decode q_en_moveSmoke.2.1 26 = .ok (.iaload, 1) := by decide +kernel
theorem d_en_moveSmoke_27 : decode q_en_moveSmoke.2.1 27 = .ok (.aload_n 1, 1) := by decide +kernel
theorem d_en_moveSmoke_28 : decode q_en_moveSmoke.2.1 28 = .ok (.getfield 187, 3) := by decide +kernel
theorem d_en_moveSmoke_31 : decode q_en_moveSmoke.2.1 31 = .ok (.iload 4, 2) := by decide +kernel
theorem d_en_moveSmoke_33 : decode q_en_moveSmoke.2.1 33 = .ok (.iaload, 1) := by decide +kernel
theorem d_en_moveSmoke_34 : decode q_en_moveSmoke.2.1 34 = .ok (.iadd, 1) := by decide +kernel
theorem d_en_moveSmoke_35 : decode q_en_moveSmoke.2.1 35 = .ok (.invokestatic 146, 3) := by decide +kernel
theorem d_en_moveSmoke_38 : decode q_en_moveSmoke.2.1 38 = .ok (.istore 5, 2) := by decide +kernel
theorem d_en_moveSmoke_40 : decode q_en_moveSmoke.2.1 40 = .ok (.sipush 1000, 3) := by decide +kernel
theorem d_en_moveSmoke_43 : decode q_en_moveSmoke.2.1 43 = .ok (.aload_n 0, 1) := by decide +kernel
theorem d_en_moveSmoke_44 : decode q_en_moveSmoke.2.1 44 = .ok (.getfield 22, 3) := by decide +kernel
theorem d_en_moveSmoke_47 : decode q_en_moveSmoke.2.1 47 = .ok (.iload 4, 2) := by decide +kernel
theorem d_en_moveSmoke_49 : decode q_en_moveSmoke.2.1 49 = .ok (.iaload, 1) := by decide +kernel
theorem d_en_moveSmoke_50 : decode q_en_moveSmoke.2.1 50 = .ok (.aload_n 0, 1) := by decide +kernel
theorem d_en_moveSmoke_51 : decode q_en_moveSmoke.2.1 51 = .ok (.getfield 18, 3) := by decide +kernel
theorem d_en_moveSmoke_54 : decode q_en_moveSmoke.2.1 54 = .ok (.iload 4, 2) := by decide +kernel
theorem d_en_moveSmoke_56 : decode q_en_moveSmoke.2.1 56 = .ok (.iaload, 1) := by decide +kernel
theorem d_en_moveSmoke_57 : decode q_en_moveSmoke.2.1 57 = .ok (.iconst 2, 1) := by decide +kernel
theorem d_en_moveSmoke_58 : decode q_en_moveSmoke.2.1 58 = .ok (.idiv, 1) := by decide +kernel
theorem d_en_moveSmoke_59 : decode q_en_moveSmoke.2.1 59 = .ok (.iadd, 1) := by decide +kernel
theorem d_en_moveSmoke_60 : decode q_en_moveSmoke.2.1 60 = .ok (.invokestatic 146, 3) := by decide +kernel
theorem d_en_moveSmoke_63 : decode q_en_moveSmoke.2.1 63 = .ok (.istore 6, 2) := by decide +kernel
theorem d_en_moveSmoke_65 : decode q_en_moveSmoke.2.1 65 = .ok (.aload_n 1, 1) := by decide +kernel
theorem d_en_moveSmoke_66 : decode q_en_moveSmoke.2.1 66 = .ok (.getfield 184, 3) := by decide +kernel
theorem d_en_moveSmoke_69 : decode q_en_moveSmoke.2.1 69 = .ok (.iload 4, 2) := by decide +kernel
theorem d_en_moveSmoke_71 : decode q_en_moveSmoke.2.1 71 = .ok (.iload 5, 2) := by decide +kernel
theorem d_en_moveSmoke_73 : decode q_en_moveSmoke.2.1 73 = .ok (.iload 5, 2) := by decide +kernel
theorem d_en_moveSmoke_75 : decode q_en_moveSmoke.2.1 75 = .ok (.iload 6, 2) := by decide +kernel
theorem d_en_moveSmoke_77 : decode q_en_moveSmoke.2.1 77 = .ok (.imul, 1) := by decide +kernel
theorem d_en_moveSmoke_78 : decode q_en_moveSmoke.2.1 78 = .ok (.sipush 2000, 3) := by decide +kernel
theorem d_en_moveSmoke_81 : decode q_en_moveSmoke.2.1 81 = .ok (.idiv, 1) := by decide +kernel
theorem d_en_moveSmoke_82 : decode q_en_moveSmoke.2.1 82 = .ok (.isub, 1) := by decide +kernel
theorem d_en_moveSmoke_83 : decode q_en_moveSmoke.2.1 83 = .ok (.iastore, 1) := by decide +kernel
theorem d_en_moveSmoke_84 : decode q_en_moveSmoke.2.1 84 = .ok (.iinc 4 1, 3) := by decide +kernel
theorem d_en_moveSmoke_87 : decode q_en_moveSmoke.2.1 87 = .ok (.goto (-76), 3) := by decide +kernel
theorem d_en_moveSmoke_90 : decode q_en_moveSmoke.2.1 90 = .ok (.aload_n 1, 1) := by decide +kernel
theorem d_en_moveSmoke_91 : decode q_en_moveSmoke.2.1 91 = .ok (.iload_n 2, 1) := by decide +kernel
theorem d_en_moveSmoke_92 : decode q_en_moveSmoke.2.1 92 = .ok (.invokestatic 190, 3) := by decide +kernel
theorem d_en_moveSmoke_95 : decode q_en_moveSmoke.2.1 95 = .ok (.aload_n 0, 1) := by decide +kernel
theorem d_en_moveSmoke_96 : decode q_en_moveSmoke.2.1 96 = .ok (.getfield 25, 3) := by decide +kernel
theorem d_en_moveSmoke_99 : decode q_en_moveSmoke.2.1 99 = .ok (.iconst 0, 1) := by decide +kernel
theorem d_en_moveSmoke_100 : decode q_en_moveSmoke.2.1 100 = .ok (.invokestatic 157, 3) := by decide +kernel
theorem d_en_moveSmoke_103 : decode q_en_moveSmoke.2.1 103 = .ok (.iconst 0, 1) := by decide +kernel
theorem d_en_moveSmoke_104 : decode q_en_moveSmoke.2.1 104 = .ok (.istore 4, 2) := by decide +kernel
theorem d_en_moveSmoke_106 : decode q_en_moveSmoke.2.1 106 = .ok (.iload 4, 2) := by decide +kernel
theorem d_en_moveSmoke_108 : decode q_en_moveSmoke.2.1 108 = .ok (.iconst 1, 1) := by decide +kernel
theorem d_en_moveSmoke_109 : decode q_en_moveSmoke.2.1 109 = .ok (.iadd, 1) := by decide +kernel
theorem d_en_moveSmoke_110 : decode q_en_moveSmoke.2.1 110 = .ok (.iload_n 3, 1) := by decide +kernel
theorem d_en_moveSmoke_111 : decode q_en_moveSmoke.2.1 111 = .ok (.if_icmp .ge 67, 3) := by decide +kernel
theorem d_en_moveSmoke_114 : decode q_en_moveSmoke.2.1 114 = .ok (.aload_n 0, 1) := by decide +kernel
theorem d_en_moveSmoke_115 : decode q_en_moveSmoke.2.1 115 = .ok (.aload_n 1, 1) := by decide +kernel
theorem d_en_moveSmoke_116 : decode q_en_moveSmoke.2.1 116 = .ok (.iload 4, 2) := by decide +kernel
theorem d_en_moveSmoke_118 : decode q_en_moveSmoke.2.1 118 = .ok (.iload 4, 2) := by decide +kernel
theorem d_en_moveSmoke_120 : decode q_en_moveSmoke.2.1 120 = .ok (.iconst 1, 1) := by decide +kernel
theorem d_en_moveSmoke_121 : decode q_en_moveSmoke.2.1 121 = .ok (.iadd, 1) := by decide +kernel
theorem d_en_moveSmoke_122 : decode q_en_moveSmoke.2.1 122 = .ok (.invokevirtual 193, 3) := by decide +kernel
theorem d_en_moveSmoke_125 : decode q_en_moveSmoke.2.1 125 = .ok (.istore 5, 2) := by decide +kernel
theorem d_en_moveSmoke_127 : decode q_en_moveSmoke.2.1 127 = .ok (.aload_n 0, 1) := by decide +kernel
theorem d_en_moveSmoke_128 : decode q_en_moveSmoke.2.1 128 = .ok (.aload_n 1, 1) := by decide +kernel
theorem d_en_moveSmoke_129 : decode q_en_moveSmoke.2.1 129 = .ok (.iload 4, 2) := by decide +kernel
theorem d_en_moveSmoke_131 : decode q_en_moveSmoke.2.1 131 = .ok (.iconst 1, 1) := by decide +kernel
theorem d_en_moveSmoke_132 : decode q_en_moveSmoke.2.1 132 = .ok (.iadd, 1) := by decide +kernel
theorem d_en_moveSmoke_133 : decode q_en_moveSmoke.2.1 133 = .ok (.iload 4, 2) := by decide +kernel
theorem d_en_moveSmoke_135 : decode q_en_moveSmoke.2.1 135 = .ok (.invokevirtual 193, 3) := by decide +kernel
theorem d_en_moveSmoke_138 : decode q_en_moveSmoke.2.1 138 = .ok (.istore 6, 2) := by decide +kernel
theorem d_en_moveSmoke_140 : decode q_en_moveSmoke.2.1 140 = .ok (.aload_n 0, 1) := by decide +kernel
theorem d_en_moveSmoke_141 : decode q_en_moveSmoke.2.1 141 = .ok (.getfield 25, 3) := by decide +kernel
theorem d_en_moveSmoke_144 : decode q_en_moveSmoke.2.1 144 = .ok (.iload 4, 2) := by decide +kernel
theorem d_en_moveSmoke_146 : decode q_en_moveSmoke.2.1 146 = .ok (.dup2, 1) := by decide +kernel
theorem d_en_moveSmoke_147 : decode q_en_moveSmoke.2.1 147 = .ok (.iaload, 1) := by decide +kernel
theorem d_en_moveSmoke_148 : decode q_en_moveSmoke.2.1 148 = .ok (.iload 6, 2) := by decide +kernel
theorem d_en_moveSmoke_150 : decode q_en_moveSmoke.2.1 150 = .ok (.iload 5, 2) := by decide +kernel
theorem d_en_moveSmoke_152 : decode q_en_moveSmoke.2.1 152 = .ok (.isub, 1) := by decide +kernel
theorem d_en_moveSmoke_153 : decode q_en_moveSmoke.2.1 153 = .ok (.iadd, 1) := by decide +kernel
theorem d_en_moveSmoke_154 : decode q_en_moveSmoke.2.1 154 = .ok (.iastore, 1) := by decide +kernel
theorem d_en_moveSmoke_155 : decode q_en_moveSmoke.2.1 155 = .ok (.aload_n 0, 1) := by decide +kernel
theorem d_en_moveSmoke_156 : decode q_en_moveSmoke.2.1 156 = .ok (.getfield 25, 3) := by decide +kernel
theorem d_en_moveSmoke_159 : decode q_en_moveSmoke.2.1 159 = .ok (.iload 4, 2) := by decide +kernel
theorem d_en_moveSmoke_161 : decode q_en_moveSmoke.2.1 161 = .ok (.iconst 1, 1) := by decide +kernel
theorem d_en_moveSmoke_162 : decode q_en_moveSmoke.2.1 162 = .ok (.iadd, 1) := by decide +kernel
theorem d_en_moveSmoke_163 : decode q_en_moveSmoke.2.1 163 = .ok (.dup2, 1) := by decide +kernel
theorem d_en_moveSmoke_164 : decode q_en_moveSmoke.2.1 164 = .ok (.iaload, 1) := by decide +kernel
theorem d_en_moveSmoke_165 : decode q_en_moveSmoke.2.1 165 = .ok (.iload 5, 2) := by decide +kernel
theorem d_en_moveSmoke_167 : decode q_en_moveSmoke.2.1 167 = .ok (.iload 6, 2) := by decide +kernel
theorem d_en_moveSmoke_169 : decode q_en_moveSmoke.2.1 169 = .ok (.isub, 1) := by decide +kernel
theorem d_en_moveSmoke_170 : decode q_en_moveSmoke.2.1 170 = .ok (.iadd, 1) := by decide +kernel
theorem d_en_moveSmoke_171 : decode q_en_moveSmoke.2.1 171 = .ok (.iastore, 1) := by decide +kernel
theorem d_en_moveSmoke_172 : decode q_en_moveSmoke.2.1 172 = .ok (.iinc 4 1, 3) := by decide +kernel
theorem d_en_moveSmoke_175 : decode q_en_moveSmoke.2.1 175 = .ok (.goto (-69), 3) := by decide +kernel
theorem d_en_moveSmoke_178 : decode q_en_moveSmoke.2.1 178 = .ok (.iconst 0, 1) := by decide +kernel
theorem d_en_moveSmoke_179 : decode q_en_moveSmoke.2.1 179 = .ok (.istore 4, 2) := by decide +kernel
theorem d_en_moveSmoke_181 : decode q_en_moveSmoke.2.1 181 = .ok (.iload 4, 2) := by decide +kernel
theorem d_en_moveSmoke_183 : decode q_en_moveSmoke.2.1 183 = .ok (.iload_n 3, 1) := by decide +kernel
theorem d_en_moveSmoke_184 : decode q_en_moveSmoke.2.1 184 = .ok (.if_icmp .ge 41, 3) := by decide +kernel
theorem d_en_moveSmoke_187 : decode q_en_moveSmoke.2.1 187 = .ok (.aload_n 1, 1) := by decide +kernel
theorem d_en_moveSmoke_188 : decode q_en_moveSmoke.2.1 188 = .ok (.getfield 184, 3) := by decide +kernel
theorem d_en_moveSmoke_191 : decode q_en_moveSmoke.2.1 191 = .ok (.iload 4, 2) := by decide +kernel
theorem d_en_moveSmoke_193 : decode q_en_moveSmoke.2.1 193 = .ok (.iconst 0, 1) := by decide +kernel
theorem d_en_moveSmoke_194 : decode q_en_moveSmoke.2.1 194 = .ok (.sipush 1000, 3) := by decide +kernel
theorem d_en_moveSmoke_197 : decode q_en_moveSmoke.2.1 197 = .ok (.aload_n 1, 1) := by decide +kernel
theorem d_en_moveSmoke_198 : decode q_en_moveSmoke.2.1 198 = .ok (.getfield 184, 3) := by decide +kernel
theorem d_en_moveSmoke_201 : decode q_en_moveSmoke.2.1 201 = .ok (.iload 4, 2) := by decide +kernel
theorem d_en_moveSmoke_203 : decode q_en_moveSmoke.2.1 203 = .ok (.iaload, 1) := by decide +kernel
theorem d_en_moveSmoke_204 : decode q_en_moveSmoke.2.1 204 = .ok (.aload_n 0, 1) := by decide +kernel
theorem d_en_moveSmoke_205 : decode q_en_moveSmoke.2.1 205 = .ok (.getfield 25, 3) := by decide +kernel
theorem d_en_moveSmoke_208 : decode q_en_moveSmoke.2.1 208 = .ok (.iload 4, 2) := by decide +kernel
theorem d_en_moveSmoke_210 : decode q_en_moveSmoke.2.1 210 = .ok (.iaload, 1) := by decide +kernel
theorem d_en_moveSmoke_211 : decode q_en_moveSmoke.2.1 211 = .ok (.iadd, 1) := by decide +kernel
theorem d_en_moveSmoke_212 : decode q_en_moveSmoke.2.1 212 = .ok (.invokestatic 146, 3) := by decide +kernel
theorem d_en_moveSmoke_215 : decode q_en_moveSmoke.2.1 215 = .ok (.invokestatic 141, 3) := by decide +kernel
theorem d_en_moveSmoke_218 : decode q_en_moveSmoke.2.1 218 = .ok (.iastore, 1) := by decide +kernel
theorem d_en_moveSmoke_219 : decode q_en_moveSmoke.2.1 219 = .ok (.iinc 4 1, 3) := by decide +kernel
theorem d_en_moveSmoke_222 : decode q_en_moveSmoke.2.1 222 = .ok (.goto (-41), 3) := by decide +kernel
theorem d_en_moveSmoke_225 : decode q_en_moveSmoke.2.1 225 = .ok (.return_, 1) := by decide +kernel
theorem w_en_moveSmoke_L181 (l : Launch) (lo hi d : Nat) (hS : sm_has lo hi) {h' : sm_H} : ∀ (n : Nat) (a0 : Nat) (a1 : Nat) (a3 : Int32) (a4 : Int32) (h : sm_H) (e0 : sm_at lo hi (0, 2, 0) a0) (e1 : sm_at lo hi (0, 7, 0) a1) (hf : f_en_moveSmoke_L181 n a0 a1 a3 a4 h = some h'), sm_W l lo hi (d + 2) q_en_moveSmoke 181 [(0, .ref a0), (1, .ref a1), (3, .int a3), (4, .int a4)] [] h none h' := by
  intro n
  induction n with
  | zero =>
    intro a0 a1 a3 a4 h e0 e1 hf
    have z : (none : Option sm_H) = some _ := hf
    cases z
  | succ n ih =>
    intro a0 a1 a3 a4 h e0 e1 hf
    unfold f_en_moveSmoke_L181 at hf
    refine sm_iload 3 rfl d_en_moveSmoke_181 ?_
    refine sm_iload_n 2 rfl d_en_moveSmoke_183 ?_
    refine sm_icmp_ge 225 d_en_moveSmoke_184 rfl (fun c45 => ?_) (fun c45 => ?_)
    · have hf := sm_ifT c45 hf
      obtain rfl := sm_ret1 hf
      exact sm_vret d_en_moveSmoke_225 rfl
    · have hf := sm_ifF c45 hf
      refine sm_aload_n 1 rfl d_en_moveSmoke_187 ?_
      refine sm_getR (n := 1) fl_en_184 e1 rfl d_en_moveSmoke_188 ?_
      refine sm_iload 3 rfl d_en_moveSmoke_191 ?_
      refine sm_iconst (v := 0) (by decide) d_en_moveSmoke_193 ?_
      refine sm_sipush (v := 1000) (by decide) d_en_moveSmoke_194 ?_
      refine sm_aload_n 1 rfl d_en_moveSmoke_197 ?_
      refine sm_getR (n := 1) fl_en_184 e1 rfl d_en_moveSmoke_198 ?_
      refine sm_iload 3 rfl d_en_moveSmoke_201 ?_
      obtain ⟨c46, hf⟩ := sm_gdE hf
      refine sm_iald (sm_at_arr (sm_inner e1 9 rfl rfl rfl)) c46 d_en_moveSmoke_203 ?_
      refine sm_aload_n 0 rfl d_en_moveSmoke_204 ?_
      refine sm_getR (n := 7) fl_en_25 e0 rfl d_en_moveSmoke_205 ?_
      refine sm_iload 3 rfl d_en_moveSmoke_208 ?_
      obtain ⟨c47, hf⟩ := sm_gdE hf
      refine sm_iald (sm_at_arr (sm_inner e0 3 rfl rfl rfl)) c47 d_en_moveSmoke_210 ?_
      refine sm_iadd d_en_moveSmoke_211 ?_
      obtain ⟨r48, g49, c50, hf⟩ := sm_b2E hf
      refine sm_callS (As := [.int 1000, .int ((h (a1 + 1) (a4 : Int32).toNatClampNeg) + (h (a0 + 7) (a4 : Int32).toNatClampNeg))]) (rv := some (.int r48)) (h1 := g49) cvs_en_146 (m_jm_min l lo hi _ c50) rfl rfl d_en_moveSmoke_212 ?_
      obtain ⟨r51, g52, c53, hf⟩ := sm_b2E hf
      refine sm_callS (As := [.int 0, .int r48]) (rv := some (.int r51)) (h1 := g52) cvs_en_141 (m_jm_max l lo hi _ c53) rfl rfl d_en_moveSmoke_215 ?_
      obtain ⟨c54, hf⟩ := sm_gdE hf
      refine sm_iast (sm_at_arr (sm_inner e1 9 rfl rfl rfl)) c54 d_en_moveSmoke_218 ?_
      refine sm_nmH (fun g55 w56 => ?_)
      have hf := sm_letV w56 hf
      obtain ⟨x57, w58⟩ : ∃ v : Int32, v = a4 + 1 := ⟨_, rfl⟩
      have hf := sm_letV w58 hf
      refine sm_iinc (v := x57) (lv' := [(4, .int x57), (0, .ref a0), (1, .ref a1), (3, .int a3)]) 3 rfl (by rw [w58]; rfl) d_en_moveSmoke_219 rfl rfl ?_
      refine sm_goto 181 d_en_moveSmoke_222 rfl ?_
      refine sm_sub [1, 2, 3, 0] rfl ?_
      exact ih _ _ _ _ _ e0 e1 hf
theorem w_en_moveSmoke_L178 (l : Launch) (lo hi d : Nat) (hS : sm_has lo hi) {h' : sm_H} (a0 : Nat) (a1 : Nat) (a3 : Int32) (h : sm_H) (e0 : sm_at lo hi (0, 2, 0) a0) (e1 : sm_at lo hi (0, 7, 0) a1) (hf : f_en_moveSmoke_L178 a0 a1 a3 h = some h') : sm_W l lo hi (d + 2) q_en_moveSmoke 178 [(0, .ref a0), (1, .ref a1), (3, .int a3)] [] h none h' := by
  unfold f_en_moveSmoke_L178 at hf
  refine sm_iconst (v := 0) (by decide) d_en_moveSmoke_178 ?_
  refine sm_istore (lv' := [(4, .int 0), (0, .ref a0), (1, .ref a1), (3, .int a3)]) d_en_moveSmoke_179 rfl rfl ?_
  refine sm_sub [1, 2, 3, 0] rfl ?_
  exact w_en_moveSmoke_L181 l lo hi d hS sm_N _ _ _ _ _ e0 e1 hf
theorem w_en_moveSmoke_L106 (l : Launch) (lo hi d : Nat) (hS : sm_has lo hi) {h' : sm_H} : ∀ (n : Nat) (a0 : Nat) (a1 : Nat) (a3 : Int32) (a4 : Int32) (h : sm_H) (e0 : sm_at lo hi (0, 2, 0) a0) (e1 : sm_at lo hi (0, 7, 0) a1) (hf : f_en_moveSmoke_L106 n a0 a1 a3 a4 h = some h'), sm_W l lo hi (d + 2) q_en_moveSmoke 106 [(0, .ref a0), (1, .ref a1), (3, .int a3), (4, .int a4)] [] h none h' := by
  intro n
  induction n with
  | zero =>
    intro a0 a1 a3 a4 h e0 e1 hf
    have z : (none : Option sm_H) = some _ := hf
    cases z
  | succ n ih =>
    intro a0 a1 a3 a4 h e0 e1 hf
    unfold f_en_moveSmoke_L106 at hf
    refine sm_iload 3 rfl d_en_moveSmoke_106 ?_
    refine sm_iconst (v := 1) (by decide) d_en_moveSmoke_108 ?_
    refine sm_iadd d_en_moveSmoke_109 ?_
    refine sm_iload_n 2 rfl d_en_moveSmoke_110 ?_
    refine sm_icmp_ge 178 d_en_moveSmoke_111 rfl (fun c28 => ?_) (fun c28 => ?_)
    · have hf := sm_ifT c28 hf
      refine sm_sub [0, 1, 2] rfl ?_
      exact w_en_moveSmoke_L178 l lo hi d hS _ _ _ _ e0 e1 hf
    · have hf := sm_ifF c28 hf
      refine sm_aload_n 0 rfl d_en_moveSmoke_114 ?_
      refine sm_aload_n 1 rfl d_en_moveSmoke_115 ?_
      refine sm_iload 3 rfl d_en_moveSmoke_116 ?_
      refine sm_iload 3 rfl d_en_moveSmoke_118 ?_
      refine sm_iconst (v := 1) (by decide) d_en_moveSmoke_120 ?_
      refine sm_iadd d_en_moveSmoke_121 ?_
      obtain ⟨r29, g30, c31, hf⟩ := sm_b2E hf
      refine sm_callV (As := [.ref a1, .int a4, .int (a4 + 1)]) (rv := some (.int r29)) (h1 := g30) (c := 2) cvv_en_193 rfl rfl e0 (m_en_flowBetween l lo hi _ e0 e1 c31) rfl rfl d_en_moveSmoke_122 ?_
      refine sm_istore (lv' := [(5, .int r29), (0, .ref a0), (1, .ref a1), (3, .int a3), (4, .int a4)]) d_en_moveSmoke_125 rfl rfl ?_
      refine sm_aload_n 1 rfl d_en_moveSmoke_127 ?_
      refine sm_aload_n 2 rfl d_en_moveSmoke_128 ?_
      refine sm_iload 4 rfl d_en_moveSmoke_129 ?_
      refine sm_iconst (v := 1) (by decide) d_en_moveSmoke_131 ?_
      refine sm_iadd d_en_moveSmoke_132 ?_
      refine sm_iload 4 rfl d_en_moveSmoke_133 ?_
      obtain ⟨r32, g33, c34, hf⟩ := sm_b2E hf
      refine sm_callV (As := [.ref a1, .int (a4 + 1), .int a4]) (rv := some (.int r32)) (h1 := g33) (c := 2) cvv_en_193 rfl rfl e0 (m_en_flowBetween l lo hi _ e0 e1 c34) rfl rfl d_en_moveSmoke_135 ?_
      refine sm_istore (lv' := [(6, .int r32), (5, .int r29), (0, .ref a0), (1, .ref a1), (3, .int a3), (4, .int a4)]) d_en_moveSmoke_138 rfl rfl ?_
      refine sm_aload_n 2 rfl d_en_moveSmoke_140 ?_
      refine sm_getR (n := 7) fl_en_25 e0 rfl d_en_moveSmoke_141 ?_
      refine sm_iload 5 rfl d_en_moveSmoke_144 ?_
      refine sm_dup2 rfl rfl d_en_moveSmoke_146 ?_
      obtain ⟨c35, hf⟩ := sm_gdE hf
      refine sm_iald (sm_at_arr (sm_inner e0 3 rfl rfl rfl)) c35 d_en_moveSmoke_147 ?_
      refine sm_iload 0 rfl d_en_moveSmoke_148 ?_
      refine sm_iload 1 rfl d_en_moveSmoke_150 ?_
      refine sm_isub d_en_moveSmoke_152 ?_
      refine sm_iadd d_en_moveSmoke_153 ?_
      obtain ⟨c36, hf⟩ := sm_gdE hf
      refine sm_iast (sm_at_arr (sm_inner e0 3 rfl rfl rfl)) c36 d_en_moveSmoke_154 ?_
      refine sm_nmH (fun g37 w38 => ?_)
      have hf := sm_letV w38 hf
      refine sm_aload_n 2 rfl d_en_moveSmoke_155 ?_
      refine sm_getR (n := 7) fl_en_25 e0 rfl d_en_moveSmoke_156 ?_
      refine sm_iload 5 rfl d_en_moveSmoke_159 ?_
      refine sm_iconst (v := 1) (by decide) d_en_moveSmoke_161 ?_
      refine sm_iadd d_en_moveSmoke_162 ?_
      refine sm_dup2 rfl rfl d_en_moveSmoke_163 ?_
      obtain ⟨c39, hf⟩ := sm_gdE hf
      refine sm_iald (sm_at_arr (sm_inner e0 3 rfl rfl rfl)) c39 d_en_moveSmoke_164 ?_
      refine sm_iload 1 rfl d_en_moveSmoke_165 ?_
      refine sm_iload 0 rfl d_en_moveSmoke_167 ?_
      refine sm_isub d_en_moveSmoke_169 ?_
      refine sm_iadd d_en_moveSmoke_170 ?_
      obtain ⟨c40, hf⟩ := sm_gdE hf
      refine sm_iast (sm_at_arr (sm_inner e0 3 rfl rfl rfl)) c40 d_en_moveSmoke_171 ?_
      refine sm_nmH (fun g41 w42 => ?_)
      have hf := sm_letV w42 hf
      obtain ⟨x43, w44⟩ : ∃ v : Int32, v = a4 + 1 := ⟨_, rfl⟩
      have hf := sm_letV w44 hf
      refine sm_iinc (v := x43) (lv' := [(4, .int x43), (6, .int r32), (5, .int r29), (0, .ref a0), (1, .ref a1), (3, .int a3)]) 5 rfl (by rw [w44]; rfl) d_en_moveSmoke_172 rfl rfl ?_
      refine sm_goto 106 d_en_moveSmoke_175 rfl ?_
      refine sm_sub [3, 4, 5, 0] rfl ?_
      exact ih _ _ _ _ _ e0 e1 hf
theorem w_en_moveSmoke_L90 (l : Launch) (lo hi d : Nat) (hS : sm_has lo hi) {h' : sm_H} (a0 : Nat) (a1 : Nat) (a2 : Int32) (a3 : Int32) (h : sm_H) (e0 : sm_at lo hi (0, 2, 0) a0) (e1 : sm_at lo hi (0, 7, 0) a1) (hf : f_en_moveSmoke_L90 a0 a1 a2 a3 h = some h') : sm_W l lo hi (d + 2) q_en_moveSmoke 90 [(0, .ref a0), (1, .ref a1), (2, .int a2), (3, .int a3)] [] h none h' := by
  unfold f_en_moveSmoke_L90 at hf
  refine sm_aload_n 1 rfl d_en_moveSmoke_90 ?_
  refine sm_iload_n 2 rfl d_en_moveSmoke_91 ?_
  obtain ⟨g24, c25, hf⟩ := sm_bindE hf
  refine sm_callS (As := [.ref a1, .int a2]) (rv := none) (h1 := g24) cvs_en_190 (m_en_fillStair l lo hi _ hS e1 c25) rfl rfl d_en_moveSmoke_92 ?_
  refine sm_aload_n 0 rfl d_en_moveSmoke_95 ?_
  refine sm_getR (n := 7) fl_en_25 e0 rfl d_en_moveSmoke_96 ?_
  refine sm_iconst (v := 0) (by decide) d_en_moveSmoke_99 ?_
  obtain ⟨g26, c27, hf⟩ := sm_bindE hf
  refine sm_callS (As := [.ref (a0 + 7), .int 0]) (rv := none) (h1 := g26) cvs_en_157 (m_ja_fill l lo hi _ (sm_arr_self (sm_at_arr (sm_inner e0 3 rfl rfl rfl))) c27) rfl rfl d_en_moveSmoke_100 ?_
  refine sm_iconst (v := 0) (by decide) d_en_moveSmoke_103 ?_
  refine sm_istore (lv' := [(4, .int 0), (0, .ref a0), (1, .ref a1), (2, .int a2), (3, .int a3)]) d_en_moveSmoke_104 rfl rfl ?_
  refine sm_sub [1, 2, 4, 0] rfl ?_
  exact w_en_moveSmoke_L106 l lo hi d hS sm_N _ _ _ _ _ e0 e1 hf
theorem w_en_moveSmoke_L11 (l : Launch) (lo hi d : Nat) (hS : sm_has lo hi) {h' : sm_H} : ∀ (n : Nat) (a0 : Nat) (a1 : Nat) (a2 : Int32) (a3 : Int32) (a4 : Int32) (h : sm_H) (e0 : sm_at lo hi (0, 2, 0) a0) (e1 : sm_at lo hi (0, 7, 0) a1) (hf : f_en_moveSmoke_L11 n a0 a1 a2 a3 a4 h = some h'), sm_W l lo hi (d + 2) q_en_moveSmoke 11 [(0, .ref a0), (1, .ref a1), (2, .int a2), (3, .int a3), (4, .int a4)] [] h none h' := by
  intro n
  induction n with
  | zero =>
    intro a0 a1 a2 a3 a4 h e0 e1 hf
    have z : (none : Option sm_H) = some _ := hf
    cases z
  | succ n ih =>
    intro a0 a1 a2 a3 a4 h e0 e1 hf
    unfold f_en_moveSmoke_L11 at hf
    refine sm_iload 4 rfl d_en_moveSmoke_11 ?_
    refine sm_iload_n 3 rfl d_en_moveSmoke_13 ?_
    refine sm_icmp_ge 90 d_en_moveSmoke_14 rfl (fun c8 => ?_) (fun c8 => ?_)
    · have hf := sm_ifT c8 hf
      refine sm_sub [0, 1, 2, 3] rfl ?_
      exact w_en_moveSmoke_L90 l lo hi d hS _ _ _ _ _ e0 e1 hf
    · have hf := sm_ifF c8 hf
      refine sm_sipush (v := 1000) (by decide) d_en_moveSmoke_17 ?_
      refine sm_aload_n 1 rfl d_en_moveSmoke_20 ?_
      refine sm_getR (n := 1) fl_en_184 e1 rfl d_en_moveSmoke_21 ?_
      refine sm_iload 4 rfl d_en_moveSmoke_24 ?_
      obtain ⟨c9, hf⟩ := sm_gdE hf
      refine sm_iald (sm_at_arr (sm_inner e1 9 rfl rfl rfl)) c9 d_en_moveSmoke_26 ?_
      refine sm_aload_n 1 rfl d_en_moveSmoke_27 ?_
      refine sm_getR (n := 2) fl_en_187 e1 rfl d_en_moveSmoke_28 ?_
      refine sm_iload 4 rfl d_en_moveSmoke_31 ?_
      obtain ⟨c10, hf⟩ := sm_gdE hf
      refine sm_iald (sm_at_arr (sm_inner e1 10 rfl rfl rfl)) c10 d_en_moveSmoke_33 ?_
      refine sm_iadd d_en_moveSmoke_34 ?_
      obtain ⟨r11, g12, c13, hf⟩ := sm_b2E hf
      refine sm_callS (As := [.int 1000, .int ((h (a1 + 1) (a4 : Int32).toNatClampNeg) + (h (a1 + 2) (a4 : Int32).toNatClampNeg))]) (rv := some (.int r11)) (h1 := g12) cvs_en_146 (m_jm_min l lo hi _ c13) rfl rfl d_en_moveSmoke_35 ?_
      refine sm_istore (lv' := [(5, .int r11), (0, .ref a0), (1, .ref a1), (2, .int a2), (3, .int a3), (4, .int a4)]) d_en_moveSmoke_38 rfl rfl ?_
      refine sm_sipush (v := 1000) (by decide) d_en_moveSmoke_40 ?_
      refine sm_aload_n 1 rfl d_en_moveSmoke_43 ?_
      refine sm_getR (n := 6) fl_en_22 e0 rfl d_en_moveSmoke_44 ?_
      refine sm_iload 5 rfl d_en_moveSmoke_47 ?_
      obtain ⟨c14, hf⟩ := sm_gdE hf
      refine sm_iald (sm_at_arr (sm_inner e0 2 rfl rfl rfl)) c14 d_en_moveSmoke_49 ?_
      refine sm_aload_n 1 rfl d_en_moveSmoke_50 ?_
      refine sm_getR (n := 5) fl_en_18 e0 rfl d_en_moveSmoke_51 ?_
      refine sm_iload 5 rfl d_en_moveSmoke_54 ?_
      obtain ⟨c15, hf⟩ := sm_gdE hf
      refine sm_iald (sm_at_arr (sm_inner e0 1 rfl rfl rfl)) c15 d_en_moveSmoke_56 ?_
      refine sm_iconst (v := 2) (by decide) d_en_moveSmoke_57 ?_
      refine sm_idiv (by decide) d_en_moveSmoke_58 ?_
      refine sm_iadd d_en_moveSmoke_59 ?_
      obtain ⟨r16, g17, c18, hf⟩ := sm_b2E hf
      refine sm_callS (As := [.int 1000, .int ((g12 (a0 + 6) (a4 : Int32).toNatClampNeg) + ((g12 (a0 + 5) (a4 : Int32).toNatClampNeg) / 2))]) (rv := some (.int r16)) (h1 := g17) cvs_en_146 (m_jm_min l lo hi _ c18) rfl rfl d_en_moveSmoke_60 ?_
      refine sm_istore (lv' := [(6, .int r16), (5, .int r11), (0, .ref a0), (1, .ref a1), (2, .int a2), (3, .int a3), (4, .int a4)]) d_en_moveSmoke_63 rfl rfl ?_
      refine sm_aload_n 3 rfl d_en_moveSmoke_65 ?_
      refine sm_getR (n := 1) fl_en_184 e1 rfl d_en_moveSmoke_66 ?_
      refine sm_iload 6 rfl d_en_moveSmoke_69 ?_
      refine sm_iload 1 rfl d_en_moveSmoke_71 ?_
      refine sm_iload 1 rfl d_en_moveSmoke_73 ?_
      refine sm_iload 0 rfl d_en_moveSmoke_75 ?_
      refine sm_imul d_en_moveSmoke_77 ?_
      refine sm_sipush (v := 2000) (by decide) d_en_moveSmoke_78 ?_
      refine sm_idiv (by decide) d_en_moveSmoke_81 ?_
      refine sm_isub d_en_moveSmoke_82 ?_
      obtain ⟨c19, hf⟩ := sm_gdE hf
      refine sm_iast (sm_at_arr (sm_inner e1 9 rfl rfl rfl)) c19 d_en_moveSmoke_83 ?_
      refine sm_nmH (fun g20 w21 => ?_)
      have hf := sm_letV w21 hf
      obtain ⟨x22, w23⟩ : ∃ v : Int32, v = a4 + 1 := ⟨_, rfl⟩
      have hf := sm_letV w23 hf
      refine sm_iinc (v := x22) (lv' := [(4, .int x22), (6, .int r16), (5, .int r11), (0, .ref a0), (1, .ref a1), (2, .int a2), (3, .int a3)]) 6 rfl (by rw [w23]; rfl) d_en_moveSmoke_84 rfl rfl ?_
      refine sm_goto 11 d_en_moveSmoke_87 rfl ?_
      refine sm_sub [3, 4, 5, 6, 0] rfl ?_
      exact ih _ _ _ _ _ _ e0 e1 hf
theorem m_en_moveSmoke (l : Launch) (lo hi d : Nat) (hS : sm_has lo hi) {a0 : Nat} {a1 : Nat} {a2 : Int32} {h h' : sm_H} (e0 : sm_at lo hi (0, 2, 0) a0) (e1 : sm_at lo hi (0, 7, 0) a1) (hf : f_en_moveSmoke a0 a1 a2 h = some h') : sm_Met l lo hi (d + 2) q_en_moveSmoke [.ref a0, .ref a1, .int a2] h none h' := by
  refine sm_Met.of (by decide +kernel) rfl ?_
  show sm_W l lo hi (d + 2) q_en_moveSmoke 0 [(0, .ref a0), (1, .ref a1), (2, .int a2)] [] h none h'
  unfold f_en_moveSmoke at hf
  refine sm_aload_n 1 rfl d_en_moveSmoke_0 ?_
  obtain ⟨c1, hf⟩ := sm_gdE hf
  obtain ⟨z2, v3⟩ := sm_isP_at hS c1
  refine sm_getD fl_en_70 e1 rfl z2 d_en_moveSmoke_1 ?_
  refine sm_nmR (fun p4 w5 => ?_)
  have hf := sm_letV w5 hf
  have v3 := sm_ev w5 v3
  refine sm_getI fl_en_181 v3 rfl d_en_moveSmoke_4 ?_
  refine sm_nmI (fun x6 w7 => ?_)
  have hf := sm_letV w7 hf
  refine sm_istore_n (lv' := [(3, .int x6), (0, .ref a0), (1, .ref a1), (2, .int a2)]) d_en_moveSmoke_7 rfl rfl ?_
  refine sm_iconst (v := 0) (by decide) d_en_moveSmoke_8 ?_
  refine sm_istore (lv' := [(4, .int 0), (3, .int x6), (0, .ref a0), (1, .ref a1), (2, .int a2)]) d_en_moveSmoke_9 rfl rfl ?_
  refine sm_sub [2, 3, 4, 1, 0] rfl ?_
  exact w_en_moveSmoke_L11 l lo hi d hS sm_N _ _ _ _ _ _ e0 e1 hf
