theorem d_mo_in_0 : decode q_mo_in.2.1 0 = .ok (.iload_n 0, 1) := by decide +kernel
theorem d_mo_in_1 : decode q_mo_in.2.1 1 = .ok (.iload_n 1, 1) := by decide +kernel
theorem d_mo_in_2 : decode q_mo_in.2.1 2 = .ok (.if_icmp .lt 12, 3) := by decide +kernel
theorem d_mo_in_5 : decode q_mo_in.2.1 5 = .ok (.iload_n 0, 1) := by decide +kernel
theorem d_mo_in_6 : decode q_mo_in.2.1 6 = .ok (.iload_n 2, 1) := by decide +kernel
theorem d_mo_in_7 : decode q_mo_in.2.1 7 = .ok (.if_icmp .gt 7, 3) := by decide +kernel
theorem d_mo_in_10 : decode q_mo_in.2.1 10 = .ok (.iconst 1, 1) := by decide +kernel
theorem d_mo_in_11 : decode q_mo_in.2.1 11 = .ok (.goto 4, 3) := by decide +kernel
theorem d_mo_in_14 : decode q_mo_in.2.1 14 = .ok (.iconst 0, 1) := by decide +kernel
theorem d_mo_in_15 : decode q_mo_in.2.1 15 = .ok (.ireturn, 1) := by decide +kernel
theorem w_mo_in_L15 (l : Launch) (lo hi d : Nat) {h' : sm_H} {r0 : Int32} (s0 : Int32) (h : sm_H) (hf : f_mo_in_L15 s0 h = some (r0, h')) : sm_W l lo hi (d) q_mo_in 15 [] [.int s0] h (some (.int r0)) h' := by
  unfold f_mo_in_L15 at hf
  obtain ⟨c3, hf⟩ := sm_gdE hf
  obtain ⟨rfl, rfl⟩ := sm_ret2 hf
  exact sm_bret c3 d_mo_in_15 rfl
theorem m_mo_in (l : Launch) (lo hi d : Nat) {a0 : Int32} {a1 : Int32} {a2 : Int32} {r0 : Int32} {h h' : sm_H} (hf : f_mo_in a0 a1 a2 h = some (r0, h')) : sm_Met l lo hi (d) q_mo_in [.int a0, .int a1, .int a2] h (some (.int r0)) h' := by
  refine sm_Met.of (by decide +kernel) rfl ?_
  show sm_W l lo hi (d) q_mo_in 0 [(0, .int a0), (1, .int a1), (2, .int a2)] [] h (some (.int r0)) h'
  unfold f_mo_in at hf
  refine sm_iload_n 0 rfl d_mo_in_0 ?_
  refine sm_iload_n 1 rfl d_mo_in_1 ?_
  refine sm_icmp_lt 14 d_mo_in_2 rfl (fun c1 => ?_) (fun c1 => ?_)
  · have hf := sm_ifT c1 hf
    refine sm_iconst (v := 0) (by decide) d_mo_in_14 ?_
    refine sm_sub [] rfl ?_
    exact w_mo_in_L15 l lo hi d _ _ hf
  · have hf := sm_ifF c1 hf
    refine sm_iload_n 0 rfl d_mo_in_5 ?_
    refine sm_iload_n 2 rfl d_mo_in_6 ?_
    refine sm_icmp_gt 14 d_mo_in_7 rfl (fun c2 => ?_) (fun c2 => ?_)
    · have hf := sm_ifT c2 hf
      refine sm_iconst (v := 0) (by decide) d_mo_in_14 ?_
      refine sm_sub [] rfl ?_
      exact w_mo_in_L15 l lo hi d _ _ hf
    · have hf := sm_ifF c2 hf
      refine sm_iconst (v := 1) (by decide) d_mo_in_10 ?_
      refine sm_goto 15 d_mo_in_11 rfl ?_
      refine sm_sub [] rfl ?_
      exact w_mo_in_L15 l lo hi d _ _ hf
theorem d_mo_lesser_0 : decode q_mo_lesser.2.1 0 = .ok (.iload_n 0, 1) := by decide +kernel
theorem d_mo_lesser_1 : decode q_mo_lesser.2.1 1 = .ok (.iload_n 1, 1) := by decide +kernel
theorem d_mo_lesser_2 : decode q_mo_lesser.2.1 2 = .ok (.if_icmp .ge 7, 3) := by decide +kernel
theorem d_mo_lesser_5 : decode q_mo_lesser.2.1 5 = .ok (.iload_n 0, 1) := by decide +kernel
theorem d_mo_lesser_6 : decode q_mo_lesser.2.1 6 = .ok (.goto 4, 3) := by decide +kernel
theorem d_mo_lesser_9 : decode q_mo_lesser.2.1 9 = .ok (.iload_n 1, 1) := by decide +kernel
theorem d_mo_lesser_10 : decode q_mo_lesser.2.1 10 = .ok (.ireturn, 1) := by decide +kernel
theorem w_mo_lesser_L10 (l : Launch) (lo hi d : Nat) {h' : sm_H} {r0 : Int32} (s0 : Int32) (h : sm_H) (hf : f_mo_lesser_L10 s0 h = some (r0, h')) : sm_W l lo hi (d) q_mo_lesser 10 [] [.int s0] h (some (.int r0)) h' := by
  unfold f_mo_lesser_L10 at hf
  obtain ⟨rfl, rfl⟩ := sm_ret2 hf
  exact sm_iret d_mo_lesser_10 rfl
theorem m_mo_lesser (l : Launch) (lo hi d : Nat) {a0 : Int32} {a1 : Int32} {r0 : Int32} {h h' : sm_H} (hf : f_mo_lesser a0 a1 h = some (r0, h')) : sm_Met l lo hi (d) q_mo_lesser [.int a0, .int a1] h (some (.int r0)) h' := by
  refine sm_Met.of (by decide +kernel) rfl ?_
  show sm_W l lo hi (d) q_mo_lesser 0 [(0, .int a0), (1, .int a1)] [] h (some (.int r0)) h'
  unfold f_mo_lesser at hf
  refine sm_iload_n 0 rfl d_mo_lesser_0 ?_
  refine sm_iload_n 1 rfl d_mo_lesser_1 ?_
  refine sm_icmp_ge 9 d_mo_lesser_2 rfl (fun c1 => ?_) (fun c1 => ?_)
  · have hf := sm_ifT c1 hf
    refine sm_iload_n 1 rfl d_mo_lesser_9 ?_
    refine sm_sub [] rfl ?_
    exact w_mo_lesser_L10 l lo hi d _ _ hf
  · have hf := sm_ifF c1 hf
    refine sm_iload_n 0 rfl d_mo_lesser_5 ?_
    refine sm_goto 10 d_mo_lesser_6 rfl ?_
    refine sm_sub [] rfl ?_
    exact w_mo_lesser_L10 l lo hi d _ _ hf
theorem d_mo_greater_0 : decode q_mo_greater.2.1 0 = .ok (.iload_n 0, 1) := by decide +kernel
theorem d_mo_greater_1 : decode q_mo_greater.2.1 1 = .ok (.iload_n 1, 1) := by decide +kernel
theorem d_mo_greater_2 : decode q_mo_greater.2.1 2 = .ok (.if_icmp .le 7, 3) := by decide +kernel
theorem d_mo_greater_5 : decode q_mo_greater.2.1 5 = .ok (.iload_n 0, 1) := by decide +kernel
theorem d_mo_greater_6 : decode q_mo_greater.2.1 6 = .ok (.goto 4, 3) := by decide +kernel
theorem d_mo_greater_9 : decode q_mo_greater.2.1 9 = .ok (.iload_n 1, 1) := by decide +kernel
theorem d_mo_greater_10 : decode q_mo_greater.2.1 10 = .ok (.ireturn, 1) := by decide +kernel
theorem w_mo_greater_L10 (l : Launch) (lo hi d : Nat) {h' : sm_H} {r0 : Int32} (s0 : Int32) (h : sm_H) (hf : f_mo_greater_L10 s0 h = some (r0, h')) : sm_W l lo hi (d) q_mo_greater 10 [] [.int s0] h (some (.int r0)) h' := by
  unfold f_mo_greater_L10 at hf
  obtain ⟨rfl, rfl⟩ := sm_ret2 hf
  exact sm_iret d_mo_greater_10 rfl
theorem m_mo_greater (l : Launch) (lo hi d : Nat) {a0 : Int32} {a1 : Int32} {r0 : Int32} {h h' : sm_H} (hf : f_mo_greater a0 a1 h = some (r0, h')) : sm_Met l lo hi (d) q_mo_greater [.int a0, .int a1] h (some (.int r0)) h' := by
  refine sm_Met.of (by decide +kernel) rfl ?_
  show sm_W l lo hi (d) q_mo_greater 0 [(0, .int a0), (1, .int a1)] [] h (some (.int r0)) h'
  unfold f_mo_greater at hf
  refine sm_iload_n 0 rfl d_mo_greater_0 ?_
  refine sm_iload_n 1 rfl d_mo_greater_1 ?_
  refine sm_icmp_le 9 d_mo_greater_2 rfl (fun c1 => ?_) (fun c1 => ?_)
  · have hf := sm_ifT c1 hf
    refine sm_iload_n 1 rfl d_mo_greater_9 ?_
    refine sm_sub [] rfl ?_
    exact w_mo_greater_L10 l lo hi d _ _ hf
  · have hf := sm_ifF c1 hf
    refine sm_iload_n 0 rfl d_mo_greater_5 ?_
    refine sm_goto 10 d_mo_greater_6 rfl ?_
    refine sm_sub [] rfl ?_
    exact w_mo_greater_L10 l lo hi d _ _ hf
theorem d_mo_hasBit_0 : decode q_mo_hasBit.2.1 0 = .ok (.iload_n 0, 1) := by decide +kernel
theorem d_mo_hasBit_1 : decode q_mo_hasBit.2.1 1 = .ok (.iload_n 1, 1) := by decide +kernel
theorem d_mo_hasBit_2 : decode q_mo_hasBit.2.1 2 = .ok (.ishr, 1) := by decide +kernel
theorem d_mo_hasBit_3 : decode q_mo_hasBit.2.1 3 = .ok (.iconst 1, 1) := by decide +kernel
theorem d_mo_hasBit_4 : decode q_mo_hasBit.2.1 4 = .ok (.iand, 1) := by decide +kernel
theorem d_mo_hasBit_5 : decode q_mo_hasBit.2.1 5 = .ok (.iconst 1, 1) := by decide +kernel
theorem d_mo_hasBit_6 : decode q_mo_hasBit.2.1 6 = .ok (.if_icmp .ne 7, 3) := by decide +kernel
theorem d_mo_hasBit_9 : decode q_mo_hasBit.2.1 9 = .ok (.iconst 1, 1) := by decide +kernel
theorem d_mo_hasBit_10 : decode q_mo_hasBit.2.1 10 = .ok (.goto 4, 3) := by decide +kernel
theorem d_mo_hasBit_13 : decode q_mo_hasBit.2.1 13 = .ok (.iconst 0, 1) := by decide +kernel
theorem d_mo_hasBit_14 : decode q_mo_hasBit.2.1 14 = .ok (.ireturn, 1) := by decide +kernel
theorem w_mo_hasBit_L14 (l : Launch) (lo hi d : Nat) {h' : sm_H} {r0 : Int32} (s0 : Int32) (h : sm_H) (hf : f_mo_hasBit_L14 s0 h = some (r0, h')) : sm_W l lo hi (d) q_mo_hasBit 14 [] [.int s0] h (some (.int r0)) h' := by
  unfold f_mo_hasBit_L14 at hf
  obtain ⟨c2, hf⟩ := sm_gdE hf
  obtain ⟨rfl, rfl⟩ := sm_ret2 hf
  exact sm_bret c2 d_mo_hasBit_14 rfl
theorem m_mo_hasBit (l : Launch) (lo hi d : Nat) {a0 : Int32} {a1 : Int32} {r0 : Int32} {h h' : sm_H} (hf : f_mo_hasBit a0 a1 h = some (r0, h')) : sm_Met l lo hi (d) q_mo_hasBit [.int a0, .int a1] h (some (.int r0)) h' := by
  refine sm_Met.of (by decide +kernel) rfl ?_
  show sm_W l lo hi (d) q_mo_hasBit 0 [(0, .int a0), (1, .int a1)] [] h (some (.int r0)) h'
  unfold f_mo_hasBit at hf
  refine sm_iload_n 0 rfl d_mo_hasBit_0 ?_
  refine sm_iload_n 1 rfl d_mo_hasBit_1 ?_
  refine sm_ishr d_mo_hasBit_2 ?_
  refine sm_iconst (v := 1) (by decide) d_mo_hasBit_3 ?_
  refine sm_iand d_mo_hasBit_4 ?_
  refine sm_iconst (v := 1) (by decide) d_mo_hasBit_5 ?_
  refine sm_icmp_ne 13 d_mo_hasBit_6 rfl (fun c1 => ?_) (fun c1 => ?_)
  · have hf := sm_ifF c1 hf
    refine sm_iconst (v := 0) (by decide) d_mo_hasBit_13 ?_
    refine sm_sub [] rfl ?_
    exact w_mo_hasBit_L14 l lo hi d _ _ hf
  · have hf := sm_ifT c1 hf
    refine sm_iconst (v := 1) (by decide) d_mo_hasBit_9 ?_
    refine sm_goto 14 d_mo_hasBit_10 rfl ?_
    refine sm_sub [] rfl ?_
    exact w_mo_hasBit_L14 l lo hi d _ _ hf
theorem d_mo_fanOf_0 : decode q_mo_fanOf.2.1 0 = .ok (.aload_n 0, 1) := by decide +kernel
theorem d_mo_fanOf_1 : decode q_mo_fanOf.2.1 1 = .ok (.getfield 7, 3) := by decide +kernel
theorem d_mo_fanOf_4 : decode q_mo_fanOf.2.1 4 = .ok (.bipush 74, 2) := by decide +kernel
theorem d_mo_fanOf_6 : decode q_mo_fanOf.2.1 6 = .ok (.iconst 4, 1) := by decide +kernel
theorem d_mo_fanOf_7 : decode q_mo_fanOf.2.1 7 = .ok (.iload_n 1, 1) := by decide +kernel
theorem d_mo_fanOf_8 : decode q_mo_fanOf.2.1 8 = .ok (.imul, 1) := by decide +kernel
theorem d_mo_fanOf_9 : decode q_mo_fanOf.2.1 9 = .ok (.iadd, 1) := by decide +kernel
theorem d_mo_fanOf_10 : decode q_mo_fanOf.2.1 10 = .ok (.iload_n 2, 1) := by decide +kernel
theorem d_mo_fanOf_11 : decode q_mo_fanOf.2.1 11 = .ok (.iadd, 1) := by decide +kernel
theorem d_mo_fanOf_12 : decode q_mo_fanOf.2.1 12 = .ok (.iaload, 1) := by decide +kernel
theorem d_mo_fanOf_13 : decode q_mo_fanOf.2.1 13 = .ok (.ireturn, 1) := by decide +kernel
theorem m_mo_fanOf (l : Launch) (lo hi d : Nat) {a0 : Nat} {a1 : Int32} {a2 : Int32} {r0 : Int32} {h h' : sm_H} (e0 : sm_at lo hi (0, 10, 0) a0) (hf : f_mo_fanOf a0 a1 a2 h = some (r0, h')) : sm_Met l lo hi (d) q_mo_fanOf [.ref a0, .int a1, .int a2] h (some (.int r0)) h' := by
  refine sm_Met.of (by decide +kernel) rfl ?_
  show sm_W l lo hi (d) q_mo_fanOf 0 [(0, .ref a0), (1, .int a1), (2, .int a2)] [] h (some (.int r0)) h'
  unfold f_mo_fanOf at hf
  refine sm_aload_n 0 rfl d_mo_fanOf_0 ?_
  refine sm_getR (n := 1) fl_mo_7 e0 rfl d_mo_fanOf_1 ?_
  refine sm_bipush (v := 74) (by decide) d_mo_fanOf_4 ?_
  refine sm_iconst (v := 4) (by decide) d_mo_fanOf_6 ?_
  refine sm_iload_n 1 rfl d_mo_fanOf_7 ?_
  refine sm_imul d_mo_fanOf_8 ?_
  refine sm_iadd d_mo_fanOf_9 ?_
  refine sm_iload_n 2 rfl d_mo_fanOf_10 ?_
  refine sm_iadd d_mo_fanOf_11 ?_
  obtain ⟨c1, hf⟩ := sm_gdE hf
  refine sm_iald (sm_at_arr (sm_inner e0 0 rfl rfl rfl)) c1 d_mo_fanOf_12 ?_
  obtain ⟨rfl, rfl⟩ := sm_ret2 hf
  exact sm_iret d_mo_fanOf_13 rfl
theorem d_mo_zoneIs_0 : decode q_mo_zoneIs.2.1 0 = .ok (.aload_n 0, 1) := by decide +kernel
theorem d_mo_zoneIs_1 : decode q_mo_zoneIs.2.1 1 = .ok (.getfield 16, 3) := by decide +kernel
theorem d_mo_zoneIs_4 : decode q_mo_zoneIs.2.1 4 = .ok (.bipush 10, 2) := by decide +kernel
theorem d_mo_zoneIs_6 : decode q_mo_zoneIs.2.1 6 = .ok (.iconst 4, 1) := by decide +kernel
theorem d_mo_zoneIs_7 : decode q_mo_zoneIs.2.1 7 = .ok (.iload_n 1, 1) := by decide +kernel
theorem d_mo_zoneIs_8 : decode q_mo_zoneIs.2.1 8 = .ok (.imul, 1) := by decide +kernel
theorem d_mo_zoneIs_9 : decode q_mo_zoneIs.2.1 9 = .ok (.iadd, 1) := by decide +kernel
theorem d_mo_zoneIs_10 : decode q_mo_zoneIs.2.1 10 = .ok (.iload_n 2, 1) := by decide +kernel
theorem d_mo_zoneIs_11 : decode q_mo_zoneIs.2.1 11 = .ok (.iadd, 1) := by decide +kernel
theorem d_mo_zoneIs_12 : decode q_mo_zoneIs.2.1 12 = .ok (.iaload, 1) := by decide +kernel
theorem d_mo_zoneIs_13 : decode q_mo_zoneIs.2.1 13 = .ok (.ireturn, 1) := by decide +kernel
theorem m_mo_zoneIs (l : Launch) (lo hi d : Nat) {a0 : Nat} {a1 : Int32} {a2 : Int32} {r0 : Int32} {h h' : sm_H} (e0 : sm_at lo hi (0, 10, 0) a0) (hf : f_mo_zoneIs a0 a1 a2 h = some (r0, h')) : sm_Met l lo hi (d) q_mo_zoneIs [.ref a0, .int a1, .int a2] h (some (.int r0)) h' := by
  refine sm_Met.of (by decide +kernel) rfl ?_
  show sm_W l lo hi (d) q_mo_zoneIs 0 [(0, .ref a0), (1, .int a1), (2, .int a2)] [] h (some (.int r0)) h'
  unfold f_mo_zoneIs at hf
  refine sm_aload_n 0 rfl d_mo_zoneIs_0 ?_
  refine sm_getR (n := 3) fl_mo_16 e0 rfl d_mo_zoneIs_1 ?_
  refine sm_bipush (v := 10) (by decide) d_mo_zoneIs_4 ?_
  refine sm_iconst (v := 4) (by decide) d_mo_zoneIs_6 ?_
  refine sm_iload_n 1 rfl d_mo_zoneIs_7 ?_
  refine sm_imul d_mo_zoneIs_8 ?_
  refine sm_iadd d_mo_zoneIs_9 ?_
  refine sm_iload_n 2 rfl d_mo_zoneIs_10 ?_
  refine sm_iadd d_mo_zoneIs_11 ?_
  obtain ⟨c1, hf⟩ := sm_gdE hf
  refine sm_iald (sm_at_arr (sm_inner e0 2 rfl rfl rfl)) c1 d_mo_zoneIs_12 ?_
  obtain ⟨rfl, rfl⟩ := sm_ret2 hf
  exact sm_iret d_mo_zoneIs_13 rfl
theorem d_mo_damperIs_0 : decode q_mo_damperIs.2.1 0 = .ok (.aload_n 0, 1) := by decide +kernel
theorem d_mo_damperIs_1 : decode q_mo_damperIs.2.1 1 = .ok (.getfield 16, 3) := by decide +kernel
theorem d_mo_damperIs_4 : decode q_mo_damperIs.2.1 4 = .ok (.bipush 42, 2) := by decide +kernel
theorem d_mo_damperIs_6 : decode q_mo_damperIs.2.1 6 = .ok (.bipush 7, 2) := by decide +kernel
theorem d_mo_damperIs_8 : decode q_mo_damperIs.2.1 8 = .ok (.iload_n 1, 1) := by decide +kernel
theorem d_mo_damperIs_9 : decode q_mo_damperIs.2.1 9 = .ok (.imul, 1) := by decide +kernel
theorem d_mo_damperIs_10 : decode q_mo_damperIs.2.1 10 = .ok (.iadd, 1) := by decide +kernel
theorem d_mo_damperIs_11 : decode q_mo_damperIs.2.1 11 = .ok (.iload_n 2, 1) := by decide +kernel
theorem d_mo_damperIs_12 : decode q_mo_damperIs.2.1 12 = .ok (.iadd, 1) := by decide +kernel
theorem d_mo_damperIs_13 : decode q_mo_damperIs.2.1 13 = .ok (.iaload, 1) := by decide +kernel
theorem d_mo_damperIs_14 : decode q_mo_damperIs.2.1 14 = .ok (.ireturn, 1) := by decide +kernel
theorem m_mo_damperIs (l : Launch) (lo hi d : Nat) {a0 : Nat} {a1 : Int32} {a2 : Int32} {r0 : Int32} {h h' : sm_H} (e0 : sm_at lo hi (0, 10, 0) a0) (hf : f_mo_damperIs a0 a1 a2 h = some (r0, h')) : sm_Met l lo hi (d) q_mo_damperIs [.ref a0, .int a1, .int a2] h (some (.int r0)) h' := by
  refine sm_Met.of (by decide +kernel) rfl ?_
  show sm_W l lo hi (d) q_mo_damperIs 0 [(0, .ref a0), (1, .int a1), (2, .int a2)] [] h (some (.int r0)) h'
  unfold f_mo_damperIs at hf
  refine sm_aload_n 0 rfl d_mo_damperIs_0 ?_
  refine sm_getR (n := 3) fl_mo_16 e0 rfl d_mo_damperIs_1 ?_
  refine sm_bipush (v := 42) (by decide) d_mo_damperIs_4 ?_
  refine sm_bipush (v := 7) (by decide) d_mo_damperIs_6 ?_
  refine sm_iload_n 1 rfl d_mo_damperIs_8 ?_
  refine sm_imul d_mo_damperIs_9 ?_
  refine sm_iadd d_mo_damperIs_10 ?_
  refine sm_iload_n 2 rfl d_mo_damperIs_11 ?_
  refine sm_iadd d_mo_damperIs_12 ?_
  obtain ⟨c1, hf⟩ := sm_gdE hf
  refine sm_iald (sm_at_arr (sm_inner e0 2 rfl rfl rfl)) c1 d_mo_damperIs_13 ?_
  obtain ⟨rfl, rfl⟩ := sm_ret2 hf
  exact sm_iret d_mo_damperIs_14 rfl
theorem d_mo_fanIs_0 : decode q_mo_fanIs.2.1 0 = .ok (.aload_n 0, 1) := by decide +kernel
theorem d_mo_fanIs_1 : decode q_mo_fanIs.2.1 1 = .ok (.getfield 16, 3) := by decide +kernel
theorem d_mo_fanIs_4 : decode q_mo_fanIs.2.1 4 = .ok (.sipush 154, 3) := by decide +kernel
theorem d_mo_fanIs_7 : decode q_mo_fanIs.2.1 7 = .ok (.bipush 6, 2) := by decide +kernel
theorem d_mo_fanIs_9 : decode q_mo_fanIs.2.1 9 = .ok (.iload_n 1, 1) := by decide +kernel
theorem d_mo_fanIs_10 : decode q_mo_fanIs.2.1 10 = .ok (.imul, 1) := by decide +kernel
theorem d_mo_fanIs_11 : decode q_mo_fanIs.2.1 11 = .ok (.iadd, 1) := by decide +kernel
theorem d_mo_fanIs_12 : decode q_mo_fanIs.2.1 12 = .ok (.iload_n 2, 1) := by decide +kernel
theorem d_mo_fanIs_13 : decode q_mo_fanIs.2.1 13 = .ok (.iadd, 1) := by decide +kernel
theorem d_mo_fanIs_14 : decode q_mo_fanIs.2.1 14 = .ok (.iaload, 1) := by decide +kernel
theorem d_mo_fanIs_15 : decode q_mo_fanIs.2.1 15 = .ok (.ireturn, 1) := by decide +kernel
theorem m_mo_fanIs (l : Launch) (lo hi d : Nat) {a0 : Nat} {a1 : Int32} {a2 : Int32} {r0 : Int32} {h h' : sm_H} (e0 : sm_at lo hi (0, 10, 0) a0) (hf : f_mo_fanIs a0 a1 a2 h = some (r0, h')) : sm_Met l lo hi (d) q_mo_fanIs [.ref a0, .int a1, .int a2] h (some (.int r0)) h' := by
  refine sm_Met.of (by decide +kernel) rfl ?_
  show sm_W l lo hi (d) q_mo_fanIs 0 [(0, .ref a0), (1, .int a1), (2, .int a2)] [] h (some (.int r0)) h'
  unfold f_mo_fanIs at hf
  refine sm_aload_n 0 rfl d_mo_fanIs_0 ?_
  refine sm_getR (n := 3) fl_mo_16 e0 rfl d_mo_fanIs_1 ?_
  refine sm_sipush (v := 154) (by decide) d_mo_fanIs_4 ?_
  refine sm_bipush (v := 6) (by decide) d_mo_fanIs_7 ?_
  refine sm_iload_n 1 rfl d_mo_fanIs_9 ?_
  refine sm_imul d_mo_fanIs_10 ?_
  refine sm_iadd d_mo_fanIs_11 ?_
  refine sm_iload_n 2 rfl d_mo_fanIs_12 ?_
  refine sm_iadd d_mo_fanIs_13 ?_
  obtain ⟨c1, hf⟩ := sm_gdE hf
  refine sm_iald (sm_at_arr (sm_inner e0 2 rfl rfl rfl)) c1 d_mo_fanIs_14 ?_
  obtain ⟨rfl, rfl⟩ := sm_ret2 hf
  exact sm_iret d_mo_fanIs_15 rfl
theorem d_mo_putFan_0 : decode q_mo_putFan.2.1 0 = .ok (.aload_n 0, 1) := by decide +kernel
theorem d_mo_putFan_1 : decode q_mo_putFan.2.1 1 = .ok (.getfield 16, 3) := by decide +kernel
theorem d_mo_putFan_4 : decode q_mo_putFan.2.1 4 = .ok (.sipush 154, 3) := by decide +kernel
theorem d_mo_putFan_7 : decode q_mo_putFan.2.1 7 = .ok (.bipush 6, 2) := by decide +kernel
theorem d_mo_putFan_9 : decode q_mo_putFan.2.1 9 = .ok (.iload_n 1, 1) := by decide +kernel
theorem d_mo_putFan_10 : decode q_mo_putFan.2.1 10 = .ok (.imul, 1) := by decide +kernel
theorem d_mo_putFan_11 : decode q_mo_putFan.2.1 11 = .ok (.iadd, 1) := by decide +kernel
theorem d_mo_putFan_12 : decode q_mo_putFan.2.1 12 = .ok (.iload_n 2, 1) := by decide +kernel
theorem d_mo_putFan_13 : decode q_mo_putFan.2.1 13 = .ok (.iadd, 1) := by decide +kernel
theorem d_mo_putFan_14 : decode q_mo_putFan.2.1 14 = .ok (.iload_n 3, 1) := by decide +kernel
theorem d_mo_putFan_15 : decode q_mo_putFan.2.1 15 = .ok (.iastore, 1) := by decide +kernel
theorem d_mo_putFan_16 : decode q_mo_putFan.2.1 16 = .ok (.return_, 1) := by decide +kernel
theorem m_mo_putFan (l : Launch) (lo hi d : Nat) {a0 : Nat} {a1 : Int32} {a2 : Int32} {a3 : Int32} {h h' : sm_H} (e0 : sm_at lo hi (0, 10, 0) a0) (hf : f_mo_putFan a0 a1 a2 a3 h = some h') : sm_Met l lo hi (d) q_mo_putFan [.ref a0, .int a1, .int a2, .int a3] h none h' := by
  refine sm_Met.of (by decide +kernel) rfl ?_
  show sm_W l lo hi (d) q_mo_putFan 0 [(0, .ref a0), (1, .int a1), (2, .int a2), (3, .int a3)] [] h none h'
  unfold f_mo_putFan at hf
  refine sm_aload_n 0 rfl d_mo_putFan_0 ?_
  refine sm_getR (n := 3) fl_mo_16 e0 rfl d_mo_putFan_1 ?_
  refine sm_sipush (v := 154) (by decide) d_mo_putFan_4 ?_
  refine sm_bipush (v := 6) (by decide) d_mo_putFan_7 ?_
  refine sm_iload_n 1 rfl d_mo_putFan_9 ?_
  refine sm_imul d_mo_putFan_10 ?_
  refine sm_iadd d_mo_putFan_11 ?_
  refine sm_iload_n 2 rfl d_mo_putFan_12 ?_
  refine sm_iadd d_mo_putFan_13 ?_
  refine sm_iload_n 3 rfl d_mo_putFan_14 ?_
  obtain ⟨c1, hf⟩ := sm_gdE hf
  refine sm_iast (sm_at_arr (sm_inner e0 2 rfl rfl rfl)) c1 d_mo_putFan_15 ?_
  refine sm_nmH (fun g2 w3 => ?_)
  have hf := sm_letV w3 hf
  obtain rfl := sm_ret1 hf
  exact sm_vret d_mo_putFan_16 rfl
theorem d_mo_putZone_0 : decode q_mo_putZone.2.1 0 = .ok (.aload_n 0, 1) := by decide +kernel
theorem d_mo_putZone_1 : decode q_mo_putZone.2.1 1 = .ok (.getfield 16, 3) := by decide +kernel
theorem d_mo_putZone_4 : decode q_mo_putZone.2.1 4 = .ok (.bipush 10, 2) := by decide +kernel
theorem d_mo_putZone_6 : decode q_mo_putZone.2.1 6 = .ok (.iconst 4, 1) := by decide +kernel
theorem d_mo_putZone_7 : decode q_mo_putZone.2.1 7 = .ok (.iload_n 1, 1) := by decide +kernel
theorem d_mo_putZone_8 : decode q_mo_putZone.2.1 8 = .ok (.imul, 1) := by decide +kernel
theorem d_mo_putZone_9 : decode q_mo_putZone.2.1 9 = .ok (.iadd, 1) := by decide +kernel
theorem d_mo_putZone_10 : decode q_mo_putZone.2.1 10 = .ok (.iload_n 2, 1) := by decide +kernel
theorem d_mo_putZone_11 : decode q_mo_putZone.2.1 11 = .ok (.iadd, 1) := by decide +kernel
theorem d_mo_putZone_12 : decode q_mo_putZone.2.1 12 = .ok (.iload_n 3, 1) := by decide +kernel
theorem d_mo_putZone_13 : decode q_mo_putZone.2.1 13 = .ok (.iastore, 1) := by decide +kernel
theorem d_mo_putZone_14 : decode q_mo_putZone.2.1 14 = .ok (.return_, 1) := by decide +kernel
theorem m_mo_putZone (l : Launch) (lo hi d : Nat) {a0 : Nat} {a1 : Int32} {a2 : Int32} {a3 : Int32} {h h' : sm_H} (e0 : sm_at lo hi (0, 10, 0) a0) (hf : f_mo_putZone a0 a1 a2 a3 h = some h') : sm_Met l lo hi (d) q_mo_putZone [.ref a0, .int a1, .int a2, .int a3] h none h' := by
  refine sm_Met.of (by decide +kernel) rfl ?_
  show sm_W l lo hi (d) q_mo_putZone 0 [(0, .ref a0), (1, .int a1), (2, .int a2), (3, .int a3)] [] h none h'
  unfold f_mo_putZone at hf
  refine sm_aload_n 0 rfl d_mo_putZone_0 ?_
  refine sm_getR (n := 3) fl_mo_16 e0 rfl d_mo_putZone_1 ?_
  refine sm_bipush (v := 10) (by decide) d_mo_putZone_4 ?_
  refine sm_iconst (v := 4) (by decide) d_mo_putZone_6 ?_
  refine sm_iload_n 1 rfl d_mo_putZone_7 ?_
  refine sm_imul d_mo_putZone_8 ?_
  refine sm_iadd d_mo_putZone_9 ?_
  refine sm_iload_n 2 rfl d_mo_putZone_10 ?_
  refine sm_iadd d_mo_putZone_11 ?_
  refine sm_iload_n 3 rfl d_mo_putZone_12 ?_
  obtain ⟨c1, hf⟩ := sm_gdE hf
  refine sm_iast (sm_at_arr (sm_inner e0 2 rfl rfl rfl)) c1 d_mo_putZone_13 ?_
  refine sm_nmH (fun g2 w3 => ?_)
  have hf := sm_letV w3 hf
  obtain rfl := sm_ret1 hf
  exact sm_vret d_mo_putZone_14 rfl
theorem d_mo_isZone_0 : decode q_mo_isZone.2.1 0 = .ok (.iload_n 1, 1) := by decide +kernel
theorem d_mo_isZone_1 : decode q_mo_isZone.2.1 1 = .ok (.iconst 0, 1) := by decide +kernel
theorem d_mo_isZone_2 : decode q_mo_isZone.2.1 2 = .ok (.aload_n 0, 1) := by decide +kernel
theorem d_mo_isZone_3 : decode q_mo_isZone.2.1 3 = .ok (.getfield 7, 3) := by decide +kernel
theorem d_mo_isZone_6 : decode q_mo_isZone.2.1 6 = .ok (.iconst 0, 1) := by decide +kernel
theorem d_mo_isZone_7 : decode q_mo_isZone.2.1 7 = .ok (.iaload, 1) := by decide +kernel
theorem d_mo_isZone_8 : decode q_mo_isZone.2.1 8 = .ok (.iconst 1, 1) := by decide +kernel
theorem d_mo_isZone_9 : decode q_mo_isZone.2.1 9 = .ok (.isub, 1) := by decide +kernel
theorem d_mo_isZone_10 : decode q_mo_isZone.2.1 10 = .ok (.invokestatic 91, 3) := by decide +kernel
theorem d_mo_isZone_13 : decode q_mo_isZone.2.1 13 = .ok (.ireturn, 1) := by decide +kernel
theorem m_mo_isZone (l : Launch) (lo hi d : Nat) {a0 : Nat} {a1 : Int32} {r0 : Int32} {h h' : sm_H} (e0 : sm_at lo hi (0, 10, 0) a0) (hf : f_mo_isZone a0 a1 h = some (r0, h')) : sm_Met l lo hi (d + 1) q_mo_isZone [.ref a0, .int a1] h (some (.int r0)) h' := by
  refine sm_Met.of (by decide +kernel) rfl ?_
  show sm_W l lo hi (d + 1) q_mo_isZone 0 [(0, .ref a0), (1, .int a1)] [] h (some (.int r0)) h'
  unfold f_mo_isZone at hf
  refine sm_iload_n 1 rfl d_mo_isZone_0 ?_
  refine sm_iconst (v := 0) (by decide) d_mo_isZone_1 ?_
  refine sm_aload_n 0 rfl d_mo_isZone_2 ?_
  refine sm_getR (n := 1) fl_mo_7 e0 rfl d_mo_isZone_3 ?_
  refine sm_iconst (v := 0) (by decide) d_mo_isZone_6 ?_
  obtain ⟨c1, hf⟩ := sm_gdE hf
  refine sm_iald (sm_at_arr (sm_inner e0 0 rfl rfl rfl)) c1 d_mo_isZone_7 ?_
  refine sm_iconst (v := 1) (by decide) d_mo_isZone_8 ?_
  refine sm_isub d_mo_isZone_9 ?_
  obtain ⟨r2, g3, c4, hf⟩ := sm_b2E hf
  refine sm_callS (As := [.int a1, .int 0, .int ((h (a0 + 1) (0 : Int32).toNatClampNeg) - 1)]) (rv := some (.int r2)) (h1 := g3) cvs_mo_91 (m_mo_in l lo hi _ c4) rfl rfl d_mo_isZone_10 ?_
  obtain ⟨c5, hf⟩ := sm_gdE hf
  obtain ⟨rfl, rfl⟩ := sm_ret2 hf
  exact sm_bret c5 d_mo_isZone_13 rfl
theorem d_mo_isDamper_0 : decode q_mo_isDamper.2.1 0 = .ok (.iload_n 1, 1) := by decide +kernel
theorem d_mo_isDamper_1 : decode q_mo_isDamper.2.1 1 = .ok (.iconst 0, 1) := by decide +kernel
theorem d_mo_isDamper_2 : decode q_mo_isDamper.2.1 2 = .ok (.aload_n 0, 1) := by decide +kernel
theorem d_mo_isDamper_3 : decode q_mo_isDamper.2.1 3 = .ok (.getfield 7, 3) := by decide +kernel
theorem d_mo_isDamper_6 : decode q_mo_isDamper.2.1 6 = .ok (.iconst 1, 1) := by decide +kernel
theorem d_mo_isDamper_7 : decode q_mo_isDamper.2.1 7 = .ok (.iaload, 1) := by decide +kernel
theorem d_mo_isDamper_8 : decode q_mo_isDamper.2.1 8 = .ok (.iconst 1, 1) := by decide +kernel
theorem d_mo_isDamper_9 : decode q_mo_isDamper.2.1 9 = .ok (.isub, 1) := by decide +kernel
theorem d_mo_isDamper_10 : decode q_mo_isDamper.2.1 10 = .ok (.invokestatic 91, 3) := by decide +kernel
theorem d_mo_isDamper_13 : decode q_mo_isDamper.2.1 13 = .ok (.ireturn, 1) := by decide +kernel
theorem m_mo_isDamper (l : Launch) (lo hi d : Nat) {a0 : Nat} {a1 : Int32} {r0 : Int32} {h h' : sm_H} (e0 : sm_at lo hi (0, 10, 0) a0) (hf : f_mo_isDamper a0 a1 h = some (r0, h')) : sm_Met l lo hi (d + 1) q_mo_isDamper [.ref a0, .int a1] h (some (.int r0)) h' := by
  refine sm_Met.of (by decide +kernel) rfl ?_
  show sm_W l lo hi (d + 1) q_mo_isDamper 0 [(0, .ref a0), (1, .int a1)] [] h (some (.int r0)) h'
  unfold f_mo_isDamper at hf
  refine sm_iload_n 1 rfl d_mo_isDamper_0 ?_
  refine sm_iconst (v := 0) (by decide) d_mo_isDamper_1 ?_
  refine sm_aload_n 0 rfl d_mo_isDamper_2 ?_
  refine sm_getR (n := 1) fl_mo_7 e0 rfl d_mo_isDamper_3 ?_
  refine sm_iconst (v := 1) (by decide) d_mo_isDamper_6 ?_
  obtain ⟨c1, hf⟩ := sm_gdE hf
  refine sm_iald (sm_at_arr (sm_inner e0 0 rfl rfl rfl)) c1 d_mo_isDamper_7 ?_
  refine sm_iconst (v := 1) (by decide) d_mo_isDamper_8 ?_
  refine sm_isub d_mo_isDamper_9 ?_
  obtain ⟨r2, g3, c4, hf⟩ := sm_b2E hf
  refine sm_callS (As := [.int a1, .int 0, .int ((h (a0 + 1) (1 : Int32).toNatClampNeg) - 1)]) (rv := some (.int r2)) (h1 := g3) cvs_mo_91 (m_mo_in l lo hi _ c4) rfl rfl d_mo_isDamper_10 ?_
  obtain ⟨c5, hf⟩ := sm_gdE hf
  obtain ⟨rfl, rfl⟩ := sm_ret2 hf
  exact sm_bret c5 d_mo_isDamper_13 rfl
theorem d_mo_isFan_0 : decode q_mo_isFan.2.1 0 = .ok (.iload_n 1, 1) := by decide +kernel
theorem d_mo_isFan_1 : decode q_mo_isFan.2.1 1 = .ok (.iconst 0, 1) := by decide +kernel
theorem d_mo_isFan_2 : decode q_mo_isFan.2.1 2 = .ok (.aload_n 0, 1) := by decide +kernel
theorem d_mo_isFan_3 : decode q_mo_isFan.2.1 3 = .ok (.getfield 7, 3) := by decide +kernel
theorem d_mo_isFan_6 : decode q_mo_isFan.2.1 6 = .ok (.iconst 2, 1) := by decide +kernel
theorem d_mo_isFan_7 : decode q_mo_isFan.2.1 7 = .ok (.iaload, 1) := by decide +kernel
theorem d_mo_isFan_8 : decode q_mo_isFan.2.1 8 = .ok (.iconst 1, 1) := by decide +kernel
theorem d_mo_isFan_9 : decode q_mo_isFan.2.1 9 = .ok (.isub, 1) := by decide +kernel
theorem d_mo_isFan_10 : decode q_mo_isFan.2.1 10 = .ok (.invokestatic 91, 3) := by decide +kernel
theorem d_mo_isFan_13 : decode q_mo_isFan.2.1 13 = .ok (.ireturn, 1) := by decide +kernel
theorem m_mo_isFan (l : Launch) (lo hi d : Nat) {a0 : Nat} {a1 : Int32} {r0 : Int32} {h h' : sm_H} (e0 : sm_at lo hi (0, 10, 0) a0) (hf : f_mo_isFan a0 a1 h = some (r0, h')) : sm_Met l lo hi (d + 1) q_mo_isFan [.ref a0, .int a1] h (some (.int r0)) h' := by
  refine sm_Met.of (by decide +kernel) rfl ?_
  show sm_W l lo hi (d + 1) q_mo_isFan 0 [(0, .ref a0), (1, .int a1)] [] h (some (.int r0)) h'
  unfold f_mo_isFan at hf
  refine sm_iload_n 1 rfl d_mo_isFan_0 ?_
  refine sm_iconst (v := 0) (by decide) d_mo_isFan_1 ?_
  refine sm_aload_n 0 rfl d_mo_isFan_2 ?_
  refine sm_getR (n := 1) fl_mo_7 e0 rfl d_mo_isFan_3 ?_
  refine sm_iconst (v := 2) (by decide) d_mo_isFan_6 ?_
  obtain ⟨c1, hf⟩ := sm_gdE hf
  refine sm_iald (sm_at_arr (sm_inner e0 0 rfl rfl rfl)) c1 d_mo_isFan_7 ?_
  refine sm_iconst (v := 1) (by decide) d_mo_isFan_8 ?_
  refine sm_isub d_mo_isFan_9 ?_
  obtain ⟨r2, g3, c4, hf⟩ := sm_b2E hf
  refine sm_callS (As := [.int a1, .int 0, .int ((h (a0 + 1) (2 : Int32).toNatClampNeg) - 1)]) (rv := some (.int r2)) (h1 := g3) cvs_mo_91 (m_mo_in l lo hi _ c4) rfl rfl d_mo_isFan_10 ?_
  obtain ⟨c5, hf⟩ := sm_gdE hf
  obtain ⟨rfl, rfl⟩ := sm_ret2 hf
  exact sm_bret c5 d_mo_isFan_13 rfl
theorem d_mo_isDoor_0 : decode q_mo_isDoor.2.1 0 = .ok (.iload_n 1, 1) := by decide +kernel
theorem d_mo_isDoor_1 : decode q_mo_isDoor.2.1 1 = .ok (.iconst 0, 1) := by decide +kernel
theorem d_mo_isDoor_2 : decode q_mo_isDoor.2.1 2 = .ok (.aload_n 0, 1) := by decide +kernel
theorem d_mo_isDoor_3 : decode q_mo_isDoor.2.1 3 = .ok (.getfield 7, 3) := by decide +kernel
theorem d_mo_isDoor_6 : decode q_mo_isDoor.2.1 6 = .ok (.iconst 3, 1) := by decide +kernel
theorem d_mo_isDoor_7 : decode q_mo_isDoor.2.1 7 = .ok (.iaload, 1) := by decide +kernel
theorem d_mo_isDoor_8 : decode q_mo_isDoor.2.1 8 = .ok (.iconst 1, 1) := by decide +kernel
theorem d_mo_isDoor_9 : decode q_mo_isDoor.2.1 9 = .ok (.isub, 1) := by decide +kernel
theorem d_mo_isDoor_10 : decode q_mo_isDoor.2.1 10 = .ok (.invokestatic 91, 3) := by decide +kernel
theorem d_mo_isDoor_13 : decode q_mo_isDoor.2.1 13 = .ok (.ireturn, 1) := by decide +kernel
theorem m_mo_isDoor (l : Launch) (lo hi d : Nat) {a0 : Nat} {a1 : Int32} {r0 : Int32} {h h' : sm_H} (e0 : sm_at lo hi (0, 10, 0) a0) (hf : f_mo_isDoor a0 a1 h = some (r0, h')) : sm_Met l lo hi (d + 1) q_mo_isDoor [.ref a0, .int a1] h (some (.int r0)) h' := by
  refine sm_Met.of (by decide +kernel) rfl ?_
  show sm_W l lo hi (d + 1) q_mo_isDoor 0 [(0, .ref a0), (1, .int a1)] [] h (some (.int r0)) h'
  unfold f_mo_isDoor at hf
  refine sm_iload_n 1 rfl d_mo_isDoor_0 ?_
  refine sm_iconst (v := 0) (by decide) d_mo_isDoor_1 ?_
  refine sm_aload_n 0 rfl d_mo_isDoor_2 ?_
  refine sm_getR (n := 1) fl_mo_7 e0 rfl d_mo_isDoor_3 ?_
  refine sm_iconst (v := 3) (by decide) d_mo_isDoor_6 ?_
  obtain ⟨c1, hf⟩ := sm_gdE hf
  refine sm_iald (sm_at_arr (sm_inner e0 0 rfl rfl rfl)) c1 d_mo_isDoor_7 ?_
  refine sm_iconst (v := 1) (by decide) d_mo_isDoor_8 ?_
  refine sm_isub d_mo_isDoor_9 ?_
  obtain ⟨r2, g3, c4, hf⟩ := sm_b2E hf
  refine sm_callS (As := [.int a1, .int 0, .int ((h (a0 + 1) (3 : Int32).toNatClampNeg) - 1)]) (rv := some (.int r2)) (h1 := g3) cvs_mo_91 (m_mo_in l lo hi _ c4) rfl rfl d_mo_isDoor_10 ?_
  obtain ⟨c5, hf⟩ := sm_gdE hf
  obtain ⟨rfl, rfl⟩ := sm_ret2 hf
  exact sm_bret c5 d_mo_isDoor_13 rfl
theorem d_mo_append_0 : decode q_mo_append.2.1 0 = .ok (.bipush 24, 2) := by decide +kernel
theorem d_mo_append_2 : decode q_mo_append.2.1 2 = .ok (.istore_n 2, 1) := by decide +kernel
theorem d_mo_append_3 : decode q_mo_append.2.1 3 = .ok (.iload_n 2, 1) := by decide +kernel
theorem d_mo_append_4 : decode q_mo_append.2.1 4 = .ok (.ifCond .lt 37, 3) := by decide +kernel
theorem d_mo_append_7 : decode q_mo_append.2.1 7 = .ok (.aload_n 0, 1) := by decide +kernel
theorem d_mo_append_8 : decode q_mo_append.2.1 8 = .ok (.getfield 25, 3) := by decide +kernel
theorem d_mo_append_11 : decode q_mo_append.2.1 11 = .ok (.aload_n 0, 1) := by decide +kernel
theorem d_mo_append_12 : decode q_mo_append.2.1 12 = .ok (.getfield 95, 3) := by decide +kernel
theorem d_mo_append_15 : decode q_mo_append.2.1 15 = .ok (.iload_n 1, 1) := by decide +kernel
theorem d_mo_append_16 : decode q_mo_append.2.1 16 = .ok (.iload_n 2, 1) := by decide +kernel
theorem d_mo_append_17 : decode q_mo_append.2.1 17 = .ok (.ishr, 1) := by decide +kernel
theorem d_mo_append_18 : decode q_mo_append.2.1 18 = .ok (.sipush 255, 3) := by decide +kernel
theorem d_mo_append_21 : decode q_mo_append.2.1 21 = .ok (.iand, 1) := by decide +kernel
theorem d_mo_append_22 : decode q_mo_append.2.1 22 = .ok (.iastore, 1) := by decide +kernel
theorem d_mo_append_23 : decode q_mo_append.2.1 23 = .ok (.aload_n 0, 1) := by decide +kernel
theorem d_mo_append_24 : decode q_mo_append.2.1 24 = .ok (.aload_n 0, 1) := by decide +kernel
theorem d_mo_append_25 : decode q_mo_append.2.1 25 = .ok (.getfield 95, 3) := by decide +kernel
theorem d_mo_append_28 : decode q_mo_append.2.1 28 = .ok (.iconst 1, 1) := by decide +kernel
theorem d_mo_append_29 : decode q_mo_append.2.1 29 = .ok (.iadd, 1) := by decide +kernel
theorem d_mo_append_30 : decode q_mo_append.2.1 30 = .ok (.putfield 95, 3) := by decide +kernel
theorem d_mo_append_33 : decode q_mo_append.2.1 33 = .ok (.iload_n 2, 1) := by decide +kernel
theorem d_mo_append_34 : decode q_mo_append.2.1 34 = .ok (.bipush 8, 2) := by decide +kernel
theorem d_mo_append_36 : decode q_mo_append.2.1 36 = .ok (.isub, 1) := by decide +kernel
theorem d_mo_append_37 : decode q_mo_append.2.1 37 = .ok (.istore_n 2, 1) := by decide +kernel
theorem d_mo_append_38 : decode q_mo_append.2.1 38 = .ok (.goto (-35), 3) := by decide +kernel
theorem d_mo_append_41 : decode q_mo_append.2.1 41 = .ok (.return_, 1) := by decide +kernel
theorem w_mo_append_L3 (l : Launch) (lo hi d : Nat) {h' : sm_H} : ∀ (n : Nat) (a0 : Nat) (a1 : Int32) (a2 : Int32) (h : sm_H) (e0 : sm_at lo hi (0, 10, 0) a0) (hf : f_mo_append_L3 n a0 a1 a2 h = some h'), sm_W l lo hi (d) q_mo_append 3 [(0, .ref a0), (1, .int a1), (2, .int a2)] [] h none h' := by
  intro n
  induction n with
  | zero =>
    intro a0 a1 a2 h e0 hf
    have z : (none : Option sm_H) = some _ := hf
    cases z
  | succ n ih =>
    intro a0 a1 a2 h e0 hf
    unfold f_mo_append_L3 at hf
    refine sm_iload_n 2 rfl d_mo_append_3 ?_
    refine sm_if_lt 41 d_mo_append_4 rfl (fun c1 => ?_) (fun c1 => ?_)
    · have hf := sm_ifT c1 hf
      obtain rfl := sm_ret1 hf
      exact sm_vret d_mo_append_41 rfl
    · have hf := sm_ifF c1 hf
      refine sm_aload_n 0 rfl d_mo_append_7 ?_
      refine sm_getR (n := 6) fl_mo_25 e0 rfl d_mo_append_8 ?_
      refine sm_aload_n 0 rfl d_mo_append_11 ?_
      refine sm_getI fl_mo_95 e0 rfl d_mo_append_12 ?_
      refine sm_iload_n 1 rfl d_mo_append_15 ?_
      refine sm_iload_n 2 rfl d_mo_append_16 ?_
      refine sm_ishr d_mo_append_17 ?_
      refine sm_sipush (v := 255) (by decide) d_mo_append_18 ?_
      refine sm_iand d_mo_append_21 ?_
      obtain ⟨c2, hf⟩ := sm_gdE hf
      refine sm_iast (sm_at_arr (sm_inner e0 8 rfl rfl rfl)) c2 d_mo_append_22 ?_
      refine sm_nmH (fun g3 w4 => ?_)
      have hf := sm_letV w4 hf
      refine sm_aload_n 0 rfl d_mo_append_23 ?_
      refine sm_aload_n 0 rfl d_mo_append_24 ?_
      refine sm_getI fl_mo_95 e0 rfl d_mo_append_25 ?_
      refine sm_iconst (v := 1) (by decide) d_mo_append_28 ?_
      refine sm_iadd d_mo_append_29 ?_
      refine sm_putI fp_mo_95 e0 rfl rfl d_mo_append_30 ?_
      refine sm_nmH (fun g5 w6 => ?_)
      have hf := sm_letV w6 hf
      refine sm_iload_n 2 rfl d_mo_append_33 ?_
      refine sm_bipush (v := 8) (by decide) d_mo_append_34 ?_
      refine sm_isub d_mo_append_36 ?_
      refine sm_nmI (fun x7 w8 => ?_)
      have hf := sm_letV w8 hf
      refine sm_istore_n (lv' := [(2, .int x7), (0, .ref a0), (1, .int a1)]) d_mo_append_37 rfl rfl ?_
      refine sm_goto 3 d_mo_append_38 rfl ?_
      refine sm_sub [1, 2, 0] rfl ?_
      exact ih _ _ _ _ e0 hf
theorem m_mo_append (l : Launch) (lo hi d : Nat) {a0 : Nat} {a1 : Int32} {h h' : sm_H} (e0 : sm_at lo hi (0, 10, 0) a0) (hf : f_mo_append a0 a1 h = some h') : sm_Met l lo hi (d) q_mo_append [.ref a0, .int a1] h none h' := by
  refine sm_Met.of (by decide +kernel) rfl ?_
  show sm_W l lo hi (d) q_mo_append 0 [(0, .ref a0), (1, .int a1)] [] h none h'
  unfold f_mo_append at hf
  refine sm_bipush (v := 24) (by decide) d_mo_append_0 ?_
  refine sm_istore_n (lv' := [(2, .int 24), (0, .ref a0), (1, .int a1)]) d_mo_append_2 rfl rfl ?_
  refine sm_sub [1, 2, 0] rfl ?_
  exact w_mo_append_L3 l lo hi d sm_N _ _ _ _ e0 hf
theorem d_mo_feed_0 : decode q_mo_feed.2.1 0 = .ok (.aload_n 0, 1) := by decide +kernel
theorem d_mo_feed_1 : decode q_mo_feed.2.1 1 = .ok (.getfield 95, 3) := by decide +kernel
theorem d_mo_feed_4 : decode q_mo_feed.2.1 4 = .ok (.bipush 20, 2) := by decide +kernel
theorem d_mo_feed_6 : decode q_mo_feed.2.1 6 = .ok (.iadd, 1) := by decide +kernel
theorem d_mo_feed_7 : decode q_mo_feed.2.1 7 = .ok (.sipush 900, 3) := by decide +kernel
theorem d_mo_feed_10 : decode q_mo_feed.2.1 10 = .ok (.if_icmp .le 6, 3) := by decide +kernel
theorem d_mo_feed_13 : decode q_mo_feed.2.1 13 = .ok (.bipush (-4), 2) := by decide +kernel
theorem d_mo_feed_15 : decode q_mo_feed.2.1 15 = .ok (.ireturn, 1) := by decide +kernel
theorem d_mo_feed_16 : decode q_mo_feed.2.1 16 = .ok (.aload_n 0, 1) := by decide +kernel
theorem d_mo_feed_17 : decode q_mo_feed.2.1 17 = .ok (.iload_n 1, 1) := by decide +kernel
theorem d_mo_feed_18 : decode q_mo_feed.2.1 18 = .ok (.invokevirtual 98, 3) := by decide +kernel
theorem d_mo_feed_21 : decode q_mo_feed.2.1 21 = .ok (.aload_n 0, 1) := by decide +kernel
theorem d_mo_feed_22 : decode q_mo_feed.2.1 22 = .ok (.iload_n 2, 1) := by decide +kernel
theorem d_mo_feed_23 : decode q_mo_feed.2.1 23 = .ok (.invokevirtual 98, 3) := by decide +kernel
theorem d_mo_feed_26 : decode q_mo_feed.2.1 26 = .ok (.aload_n 0, 1) := by decide +kernel
theorem d_mo_feed_27 : decode q_mo_feed.2.1 27 = .ok (.iload_n 3, 1) := by decide +kernel
theorem d_mo_feed_28 : decode q_mo_feed.2.1 28 = .ok (.invokevirtual 98, 3) := by decide +kernel
theorem d_mo_feed_31 : decode q_mo_feed.2.1 31 = .ok (.aload_n 0, 1) := by decide +kernel
theorem d_mo_feed_32 : decode q_mo_feed.2.1 32 = .ok (.iload 4, 2) := by decide +kernel
theorem d_mo_feed_34 : decode q_mo_feed.2.1 34 = .ok (.invokevirtual 98, 3) := by decide +kernel
theorem d_mo_feed_37 : decode q_mo_feed.2.1 37 = .ok (.aload_n 0, 1) := by decide +kernel
theorem d_mo_feed_38 : decode q_mo_feed.2.1 38 = .ok (.iload 5, 2) := by decide +kernel
theorem d_mo_feed_40 : decode q_mo_feed.2.1 40 = .ok (.invokevirtual 98, 3) := by decide +kernel
theorem d_mo_feed_43 : decode q_mo_feed.2.1 43 = .ok (.aload_n 0, 1) := by decide +kernel
theorem d_mo_feed_44 : decode q_mo_feed.2.1 44 = .ok (.getfield 95, 3) := by decide +kernel
theorem d_mo_feed_47 : decode q_mo_feed.2.1 47 = .ok (.ireturn, 1) := by decide +kernel
theorem m_mo_feed (l : Launch) (lo hi d : Nat) {a0 : Nat} {a1 : Int32} {a2 : Int32} {a3 : Int32} {a4 : Int32} {a5 : Int32} {r0 : Int32} {h h' : sm_H} (e0 : sm_at lo hi (0, 10, 0) a0) (hf : f_mo_feed a0 a1 a2 a3 a4 a5 h = some (r0, h')) : sm_Met l lo hi (d + 1) q_mo_feed [.ref a0, .int a1, .int a2, .int a3, .int a4, .int a5] h (some (.int r0)) h' := by
  refine sm_Met.of (by decide +kernel) rfl ?_
  show sm_W l lo hi (d + 1) q_mo_feed 0 [(0, .ref a0), (1, .int a1), (2, .int a2), (3, .int a3), (4, .int a4), (5, .int a5)] [] h (some (.int r0)) h'
  unfold f_mo_feed at hf
  refine sm_aload_n 0 rfl d_mo_feed_0 ?_
  refine sm_getI fl_mo_95 e0 rfl d_mo_feed_1 ?_
  refine sm_bipush (v := 20) (by decide) d_mo_feed_4 ?_
  refine sm_iadd d_mo_feed_6 ?_
  refine sm_sipush (v := 900) (by decide) d_mo_feed_7 ?_
  refine sm_icmp_le 16 d_mo_feed_10 rfl (fun c1 => ?_) (fun c1 => ?_)
  · have hf := sm_ifT c1 hf
    refine sm_aload_n 0 rfl d_mo_feed_16 ?_
    refine sm_iload_n 1 rfl d_mo_feed_17 ?_
    obtain ⟨g2, c3, hf⟩ := sm_bindE hf
    refine sm_callV (As := [.int a1]) (rv := none) (h1 := g2) (c := 10) cvv_mo_98 rfl rfl e0 (m_mo_append l lo hi _ e0 c3) rfl rfl d_mo_feed_18 ?_
    refine sm_aload_n 0 rfl d_mo_feed_21 ?_
    refine sm_iload_n 2 rfl d_mo_feed_22 ?_
    obtain ⟨g4, c5, hf⟩ := sm_bindE hf
    refine sm_callV (As := [.int a2]) (rv := none) (h1 := g4) (c := 10) cvv_mo_98 rfl rfl e0 (m_mo_append l lo hi _ e0 c5) rfl rfl d_mo_feed_23 ?_
    refine sm_aload_n 0 rfl d_mo_feed_26 ?_
    refine sm_iload_n 3 rfl d_mo_feed_27 ?_
    obtain ⟨g6, c7, hf⟩ := sm_bindE hf
    refine sm_callV (As := [.int a3]) (rv := none) (h1 := g6) (c := 10) cvv_mo_98 rfl rfl e0 (m_mo_append l lo hi _ e0 c7) rfl rfl d_mo_feed_28 ?_
    refine sm_aload_n 0 rfl d_mo_feed_31 ?_
    refine sm_iload 4 rfl d_mo_feed_32 ?_
    obtain ⟨g8, c9, hf⟩ := sm_bindE hf
    refine sm_callV (As := [.int a4]) (rv := none) (h1 := g8) (c := 10) cvv_mo_98 rfl rfl e0 (m_mo_append l lo hi _ e0 c9) rfl rfl d_mo_feed_34 ?_
    refine sm_aload_n 0 rfl d_mo_feed_37 ?_
    refine sm_iload 5 rfl d_mo_feed_38 ?_
    obtain ⟨g10, c11, hf⟩ := sm_bindE hf
    refine sm_callV (As := [.int a5]) (rv := none) (h1 := g10) (c := 10) cvv_mo_98 rfl rfl e0 (m_mo_append l lo hi _ e0 c11) rfl rfl d_mo_feed_40 ?_
    refine sm_aload_n 0 rfl d_mo_feed_43 ?_
    refine sm_getI fl_mo_95 e0 rfl d_mo_feed_44 ?_
    obtain ⟨rfl, rfl⟩ := sm_ret2 hf
    exact sm_iret d_mo_feed_47 rfl
  · have hf := sm_ifF c1 hf
    refine sm_bipush (v := (-4)) (by decide) d_mo_feed_13 ?_
    obtain ⟨rfl, rfl⟩ := sm_ret2 hf
    exact sm_iret d_mo_feed_15 rfl
theorem d_mo_errorCode_0 : decode q_mo_errorCode.2.1 0 = .ok (.aload_n 0, 1) := by decide +kernel
theorem d_mo_errorCode_1 : decode q_mo_errorCode.2.1 1 = .ok (.getfield 102, 3) := by decide +kernel
theorem d_mo_errorCode_4 : decode q_mo_errorCode.2.1 4 = .ok (.ireturn, 1) := by decide +kernel
theorem m_mo_errorCode (l : Launch) (lo hi d : Nat) {a0 : Nat} {r0 : Int32} {h h' : sm_H} (e0 : sm_at lo hi (0, 10, 0) a0) (hf : f_mo_errorCode a0 h = some (r0, h')) : sm_Met l lo hi (d) q_mo_errorCode [.ref a0] h (some (.int r0)) h' := by
  refine sm_Met.of (by decide +kernel) rfl ?_
  show sm_W l lo hi (d) q_mo_errorCode 0 [(0, .ref a0)] [] h (some (.int r0)) h'
  unfold f_mo_errorCode at hf
  refine sm_aload_n 0 rfl d_mo_errorCode_0 ?_
  refine sm_getI fl_mo_102 e0 rfl d_mo_errorCode_1 ?_
  obtain ⟨rfl, rfl⟩ := sm_ret2 hf
  exact sm_iret d_mo_errorCode_4 rfl
theorem d_mo_errorPosition_0 : decode q_mo_errorPosition.2.1 0 = .ok (.aload_n 0, 1) := by decide +kernel
theorem d_mo_errorPosition_1 : decode q_mo_errorPosition.2.1 1 = .ok (.getfield 28, 3) := by decide +kernel
theorem d_mo_errorPosition_4 : decode q_mo_errorPosition.2.1 4 = .ok (.ireturn, 1) := by decide +kernel
theorem m_mo_errorPosition (l : Launch) (lo hi d : Nat) {a0 : Nat} {r0 : Int32} {h h' : sm_H} (e0 : sm_at lo hi (0, 10, 0) a0) (hf : f_mo_errorPosition a0 h = some (r0, h')) : sm_Met l lo hi (d) q_mo_errorPosition [.ref a0] h (some (.int r0)) h' := by
  refine sm_Met.of (by decide +kernel) rfl ?_
  show sm_W l lo hi (d) q_mo_errorPosition 0 [(0, .ref a0)] [] h (some (.int r0)) h'
  unfold f_mo_errorPosition at hf
  refine sm_aload_n 0 rfl d_mo_errorPosition_0 ?_
  refine sm_getI fl_mo_28 e0 rfl d_mo_errorPosition_1 ?_
  obtain ⟨rfl, rfl⟩ := sm_ret2 hf
  exact sm_iret d_mo_errorPosition_4 rfl
theorem d_mo_byteAt_0 : decode q_mo_byteAt.2.1 0 = .ok (.iload_n 1, 1) := by decide +kernel
theorem d_mo_byteAt_1 : decode q_mo_byteAt.2.1 1 = .ok (.aload_n 0, 1) := by decide +kernel
theorem d_mo_byteAt_2 : decode q_mo_byteAt.2.1 2 = .ok (.getfield 105, 3) := by decide +kernel
theorem d_mo_byteAt_5 : decode q_mo_byteAt.2.1 5 = .ok (.if_icmp .ge 12, 3) := by decide +kernel
theorem d_mo_byteAt_8 : decode q_mo_byteAt.2.1 8 = .ok (.aload_n 0, 1) := by decide +kernel
theorem d_mo_byteAt_9 : decode q_mo_byteAt.2.1 9 = .ok (.getfield 25, 3) := by decide +kernel
theorem d_mo_byteAt_12 : decode q_mo_byteAt.2.1 12 = .ok (.iload_n 1, 1) := by decide +kernel
theorem d_mo_byteAt_13 : decode q_mo_byteAt.2.1 13 = .ok (.iaload, 1) := by decide +kernel
theorem d_mo_byteAt_14 : decode q_mo_byteAt.2.1 14 = .ok (.goto 4, 3) := by decide +kernel
theorem d_mo_byteAt_17 : decode q_mo_byteAt.2.1 17 = .ok (.iconst (-1), 1) := by decide +kernel
theorem d_mo_byteAt_18 : decode q_mo_byteAt.2.1 18 = .ok (.ireturn, 1) := by decide +kernel
theorem w_mo_byteAt_L18 (l : Launch) (lo hi d : Nat) {h' : sm_H} {r0 : Int32} (s0 : Int32) (h : sm_H) (hf : f_mo_byteAt_L18 s0 h = some (r0, h')) : sm_W l lo hi (d) q_mo_byteAt 18 [] [.int s0] h (some (.int r0)) h' := by
  unfold f_mo_byteAt_L18 at hf
  obtain ⟨rfl, rfl⟩ := sm_ret2 hf
  exact sm_iret d_mo_byteAt_18 rfl
theorem m_mo_byteAt (l : Launch) (lo hi d : Nat) {a0 : Nat} {a1 : Int32} {r0 : Int32} {h h' : sm_H} (e0 : sm_at lo hi (0, 10, 0) a0) (hf : f_mo_byteAt a0 a1 h = some (r0, h')) : sm_Met l lo hi (d) q_mo_byteAt [.ref a0, .int a1] h (some (.int r0)) h' := by
  refine sm_Met.of (by decide +kernel) rfl ?_
  show sm_W l lo hi (d) q_mo_byteAt 0 [(0, .ref a0), (1, .int a1)] [] h (some (.int r0)) h'
  unfold f_mo_byteAt at hf
  refine sm_iload_n 1 rfl d_mo_byteAt_0 ?_
  refine sm_aload_n 0 rfl d_mo_byteAt_1 ?_
  refine sm_getI fl_mo_105 e0 rfl d_mo_byteAt_2 ?_
  refine sm_icmp_ge 17 d_mo_byteAt_5 rfl (fun c1 => ?_) (fun c1 => ?_)
  · have hf := sm_ifT c1 hf
    refine sm_iconst (v := (-1)) (by decide) d_mo_byteAt_17 ?_
    refine sm_sub [] rfl ?_
    exact w_mo_byteAt_L18 l lo hi d _ _ hf
  · have hf := sm_ifF c1 hf
    refine sm_aload_n 0 rfl d_mo_byteAt_8 ?_
    refine sm_getR (n := 6) fl_mo_25 e0 rfl d_mo_byteAt_9 ?_
    refine sm_iload_n 1 rfl d_mo_byteAt_12 ?_
    obtain ⟨c2, hf⟩ := sm_gdE hf
    refine sm_iald (sm_at_arr (sm_inner e0 8 rfl rfl rfl)) c2 d_mo_byteAt_13 ?_
    refine sm_goto 18 d_mo_byteAt_14 rfl ?_
    refine sm_sub [] rfl ?_
    exact w_mo_byteAt_L18 l lo hi d _ _ hf
theorem d_mo_isLetter_0 : decode q_mo_isLetter.2.1 0 = .ok (.iload_n 0, 1) := by decide +kernel
theorem d_mo_isLetter_1 : decode q_mo_isLetter.2.1 1 = .ok (.bipush 97, 2) := by decide +kernel
theorem d_mo_isLetter_3 : decode q_mo_isLetter.2.1 3 = .ok (.bipush 122, 2) := by decide +kernel
theorem d_mo_isLetter_5 : decode q_mo_isLetter.2.1 5 = .ok (.invokestatic 91, 3) := by decide +kernel
theorem d_mo_isLetter_8 : decode q_mo_isLetter.2.1 8 = .ok (.ireturn, 1) := by decide +kernel
theorem m_mo_isLetter (l : Launch) (lo hi d : Nat) {a0 : Int32} {r0 : Int32} {h h' : sm_H} (hf : f_mo_isLetter a0 h = some (r0, h')) : sm_Met l lo hi (d + 1) q_mo_isLetter [.int a0] h (some (.int r0)) h' := by
  refine sm_Met.of (by decide +kernel) rfl ?_
  show sm_W l lo hi (d + 1) q_mo_isLetter 0 [(0, .int a0)] [] h (some (.int r0)) h'
  unfold f_mo_isLetter at hf
  refine sm_iload_n 0 rfl d_mo_isLetter_0 ?_
  refine sm_bipush (v := 97) (by decide) d_mo_isLetter_1 ?_
  refine sm_bipush (v := 122) (by decide) d_mo_isLetter_3 ?_
  obtain ⟨r1, g2, c3, hf⟩ := sm_b2E hf
  refine sm_callS (As := [.int a0, .int 97, .int 122]) (rv := some (.int r1)) (h1 := g2) cvs_mo_91 (m_mo_in l lo hi _ c3) rfl rfl d_mo_isLetter_5 ?_
  obtain ⟨c4, hf⟩ := sm_gdE hf
  obtain ⟨rfl, rfl⟩ := sm_ret2 hf
  exact sm_bret c4 d_mo_isLetter_8 rfl
theorem d_mo_isDigit_0 : decode q_mo_isDigit.2.1 0 = .ok (.iload_n 0, 1) := by decide +kernel
theorem d_mo_isDigit_1 : decode q_mo_isDigit.2.1 1 = .ok (.bipush 48, 2) := by decide +kernel
theorem d_mo_isDigit_3 : decode q_mo_isDigit.2.1 3 = .ok (.bipush 57, 2) := by decide +kernel
theorem d_mo_isDigit_5 : decode q_mo_isDigit.2.1 5 = .ok (.invokestatic 91, 3) := by decide +kernel
theorem d_mo_isDigit_8 : decode q_mo_isDigit.2.1 8 = .ok (.ireturn, 1) := by decide +kernel
theorem m_mo_isDigit (l : Launch) (lo hi d : Nat) {a0 : Int32} {r0 : Int32} {h h' : sm_H} (hf : f_mo_isDigit a0 h = some (r0, h')) : sm_Met l lo hi (d + 1) q_mo_isDigit [.int a0] h (some (.int r0)) h' := by
  refine sm_Met.of (by decide +kernel) rfl ?_
  show sm_W l lo hi (d + 1) q_mo_isDigit 0 [(0, .int a0)] [] h (some (.int r0)) h'
  unfold f_mo_isDigit at hf
  refine sm_iload_n 0 rfl d_mo_isDigit_0 ?_
  refine sm_bipush (v := 48) (by decide) d_mo_isDigit_1 ?_
  refine sm_bipush (v := 57) (by decide) d_mo_isDigit_3 ?_
  obtain ⟨r1, g2, c3, hf⟩ := sm_b2E hf
  refine sm_callS (As := [.int a0, .int 48, .int 57]) (rv := some (.int r1)) (h1 := g2) cvs_mo_91 (m_mo_in l lo hi _ c3) rfl rfl d_mo_isDigit_5 ?_
  obtain ⟨c4, hf⟩ := sm_gdE hf
  obtain ⟨rfl, rfl⟩ := sm_ret2 hf
  exact sm_bret c4 d_mo_isDigit_8 rfl
theorem d_mo_peek_0 : decode q_mo_peek.2.1 0 = .ok (.aload_n 0, 1) := by decide +kernel
theorem d_mo_peek_1 : decode q_mo_peek.2.1 1 = .ok (.aload_n 0, 1) := by decide +kernel
theorem d_mo_peek_2 : decode q_mo_peek.2.1 2 = .ok (.getfield 108, 3) := by decide +kernel
theorem d_mo_peek_5 : decode q_mo_peek.2.1 5 = .ok (.invokevirtual 111, 3) := by decide +kernel
theorem d_mo_peek_8 : decode q_mo_peek.2.1 8 = .ok (.bipush 32, 2) := by decide +kernel
theorem d_mo_peek_10 : decode q_mo_peek.2.1 10 = .ok (.if_icmp .eq 16, 3) := by decide +kernel
theorem d_mo_peek_13 : decode q_mo_peek.2.1 13 = .ok (.aload_n 0, 1) := by decide +kernel
theorem d_mo_peek_14 : decode q_mo_peek.2.1 14 = .ok (.aload_n 0, 1) := by decide +kernel
theorem d_mo_peek_15 : decode q_mo_peek.2.1 15 = .ok (.getfield 108, 3) := by decide +kernel
theorem d_mo_peek_18 : decode q_mo_peek.2.1 18 = .ok (.invokevirtual 111, 3) := by decide +kernel
theorem d_mo_peek_21 : decode q_mo_peek.2.1 21 = .ok (.bipush 10, 2) := by decide +kernel
theorem d_mo_peek_23 : decode q_mo_peek.2.1 23 = .ok (.if_icmp .ne 16, 3) := by decide +kernel
theorem d_mo_peek_26 : decode q_mo_peek.2.1 26 = .ok (.aload_n 0, 1) := by decide +kernel
theorem d_mo_peek_27 : decode q_mo_peek.2.1 27 = .ok (.aload_n 0, 1) := by decide +kernel
theorem d_mo_peek_28 : decode q_mo_peek.2.1 28 = .ok (.getfield 108, 3) := by decide +kernel
theorem d_mo_peek_31 : decode q_mo_peek.2.1 31 = .ok (.iconst 1, 1) := by decide +kernel
theorem d_mo_peek_32 : decode q_mo_peek.2.1 32 = .ok (.iadd, 1) := by decide +kernel
theorem d_mo_peek_33 : decode q_mo_peek.2.1 33 = .ok (.putfield 108, 3) := by decide +kernel
theorem d_mo_peek_36 : decode q_mo_peek.2.1 36 = .ok (.goto (-36), 3) := by decide +kernel
theorem d_mo_peek_39 : decode q_mo_peek.2.1 39 = .ok (.aload_n 0, 1) := by decide +kernel
theorem d_mo_peek_40 : decode q_mo_peek.2.1 40 = .ok (.aload_n 0, 1) := by decide +kernel
theorem d_mo_peek_41 : decode q_mo_peek.2.1 41 = .ok (.getfield 108, 3) := by decide +kernel
theorem d_mo_peek_44 : decode q_mo_peek.2.1 44 = .ok (.putfield 115, 3) := by decide +kernel
theorem d_mo_peek_47 : decode q_mo_peek.2.1 47 = .ok (.aload_n 0, 1) := by decide +kernel
theorem d_mo_peek_48 : decode q_mo_peek.2.1 48 = .ok (.aload_n 0, 1) := by decide +kernel
theorem d_mo_peek_49 : decode q_mo_peek.2.1 49 = .ok (.getfield 108, 3) := by decide +kernel
theorem d_mo_peek_52 : decode q_mo_peek.2.1 52 = .ok (.invokevirtual 111, 3) := by decide +kernel
theorem d_mo_peek_55 : decode q_mo_peek.2.1 55 = .ok (.ireturn, 1) := by decide +kernel
theorem w_mo_peek_L26 (l : Launch) (lo hi d : Nat) {k0 : Nat → sm_H → Option (Int32 × sm_H)} {h' : sm_H} {r0 : Int32} (hk0 : ∀ (a0 : Nat) (h : sm_H) (_ : sm_at lo hi (0, 10, 0) a0) , k0 a0 h = some (r0, h') → sm_W l lo hi (d + 1) q_mo_peek 0 [(0, .ref a0)] [] h (some (.int r0)) h') (a0 : Nat) (h : sm_H) (e0 : sm_at lo hi (0, 10, 0) a0) (hf : f_mo_peek_L26 k0 a0 h = some (r0, h')) : sm_W l lo hi (d + 1) q_mo_peek 26 [(0, .ref a0)] [] h (some (.int r0)) h' := by
  unfold f_mo_peek_L26 at hf
  refine sm_aload_n 0 rfl d_mo_peek_26 ?_
  refine sm_aload_n 0 rfl d_mo_peek_27 ?_
  refine sm_getI fl_mo_108 e0 rfl d_mo_peek_28 ?_
  refine sm_iconst (v := 1) (by decide) d_mo_peek_31 ?_
  refine sm_iadd d_mo_peek_32 ?_
  refine sm_putI fp_mo_108 e0 rfl rfl d_mo_peek_33 ?_
  refine sm_nmH (fun g14 w15 => ?_)
  have hf := sm_letV w15 hf
  refine sm_goto 0 d_mo_peek_36 rfl ?_
  exact hk0 _ _ e0 hf
theorem w_mo_peek_L39 (l : Launch) (lo hi d : Nat) {h' : sm_H} {r0 : Int32} (a0 : Nat) (h : sm_H) (e0 : sm_at lo hi (0, 10, 0) a0) (hf : f_mo_peek_L39 a0 h = some (r0, h')) : sm_W l lo hi (d + 1) q_mo_peek 39 [(0, .ref a0)] [] h (some (.int r0)) h' := by
  unfold f_mo_peek_L39 at hf
  refine sm_aload_n 0 rfl d_mo_peek_39 ?_
  refine sm_aload_n 0 rfl d_mo_peek_40 ?_
  refine sm_getI fl_mo_108 e0 rfl d_mo_peek_41 ?_
  refine sm_putI fp_mo_115 e0 rfl rfl d_mo_peek_44 ?_
  refine sm_nmH (fun g9 w10 => ?_)
  have hf := sm_letV w10 hf
  refine sm_aload_n 0 rfl d_mo_peek_47 ?_
  refine sm_aload_n 0 rfl d_mo_peek_48 ?_
  refine sm_getI fl_mo_108 e0 rfl d_mo_peek_49 ?_
  obtain ⟨r11, g12, c13, hf⟩ := sm_b2E hf
  refine sm_callV (As := [.int (g9 a0 10)]) (rv := some (.int r11)) (h1 := g12) (c := 10) cvv_mo_111 rfl rfl e0 (m_mo_byteAt l lo hi _ e0 c13) rfl rfl d_mo_peek_52 ?_
  obtain ⟨rfl, rfl⟩ := sm_ret2 hf
  exact sm_iret d_mo_peek_55 rfl
theorem w_mo_peek_L0 (l : Launch) (lo hi d : Nat) {h' : sm_H} {r0 : Int32} : ∀ (n : Nat) (a0 : Nat) (h : sm_H) (e0 : sm_at lo hi (0, 10, 0) a0) (hf : f_mo_peek_L0 n a0 h = some (r0, h')), sm_W l lo hi (d + 1) q_mo_peek 0 [(0, .ref a0)] [] h (some (.int r0)) h' := by
  intro n
  induction n with
  | zero =>
    intro a0 h e0 hf
    have z : (none : Option (Int32 × sm_H)) = some _ := hf
    cases z
  | succ n ih =>
    intro a0 h e0 hf
    unfold f_mo_peek_L0 at hf
    refine sm_aload_n 0 rfl d_mo_peek_0 ?_
    refine sm_aload_n 0 rfl d_mo_peek_1 ?_
    refine sm_getI fl_mo_108 e0 rfl d_mo_peek_2 ?_
    obtain ⟨r1, g2, c3, hf⟩ := sm_b2E hf
    refine sm_callV (As := [.int (h a0 10)]) (rv := some (.int r1)) (h1 := g2) (c := 10) cvv_mo_111 rfl rfl e0 (m_mo_byteAt l lo hi _ e0 c3) rfl rfl d_mo_peek_5 ?_
    refine sm_bipush (v := 32) (by decide) d_mo_peek_8 ?_
    refine sm_icmp_eq 26 d_mo_peek_10 rfl (fun c4 => ?_) (fun c4 => ?_)
    · have hf := sm_ifT c4 hf
      exact w_mo_peek_L26 l lo hi d ih _ _ e0 hf
    · have hf := sm_ifF c4 hf
      refine sm_aload_n 0 rfl d_mo_peek_13 ?_
      refine sm_aload_n 0 rfl d_mo_peek_14 ?_
      refine sm_getI fl_mo_108 e0 rfl d_mo_peek_15 ?_
      obtain ⟨r5, g6, c7, hf⟩ := sm_b2E hf
      refine sm_callV (As := [.int (g2 a0 10)]) (rv := some (.int r5)) (h1 := g6) (c := 10) cvv_mo_111 rfl rfl e0 (m_mo_byteAt l lo hi _ e0 c7) rfl rfl d_mo_peek_18 ?_
      refine sm_bipush (v := 10) (by decide) d_mo_peek_21 ?_
      refine sm_icmp_ne 39 d_mo_peek_23 rfl (fun c8 => ?_) (fun c8 => ?_)
      · have hf := sm_ifF c8 hf
        exact w_mo_peek_L39 l lo hi d _ _ e0 hf
      · have hf := sm_ifT c8 hf
        exact w_mo_peek_L26 l lo hi d ih _ _ e0 hf
theorem m_mo_peek (l : Launch) (lo hi d : Nat) {a0 : Nat} {r0 : Int32} {h h' : sm_H} (e0 : sm_at lo hi (0, 10, 0) a0) (hf : f_mo_peek a0 h = some (r0, h')) : sm_Met l lo hi (d + 1) q_mo_peek [.ref a0] h (some (.int r0)) h' := by
  refine sm_Met.of (by decide +kernel) rfl ?_
  show sm_W l lo hi (d + 1) q_mo_peek 0 [(0, .ref a0)] [] h (some (.int r0)) h'
  unfold f_mo_peek at hf
  exact w_mo_peek_L0 l lo hi d sm_N _ _ e0 hf
theorem d_mo_fails_0 : decode q_mo_fails.2.1 0 = .ok (.aload_n 0, 1) := by decide +kernel
theorem d_mo_fails_1 : decode q_mo_fails.2.1 1 = .ok (.iload_n 1, 1) := by decide +kernel
theorem d_mo_fails_2 : decode q_mo_fails.2.1 2 = .ok (.putfield 102, 3) := by decide +kernel
theorem d_mo_fails_5 : decode q_mo_fails.2.1 5 = .ok (.aload_n 0, 1) := by decide +kernel
theorem d_mo_fails_6 : decode q_mo_fails.2.1 6 = .ok (.iload_n 2, 1) := by decide +kernel
theorem d_mo_fails_7 : decode q_mo_fails.2.1 7 = .ok (.putfield 28, 3) := by decide +kernel
theorem d_mo_fails_10 : decode q_mo_fails.2.1 10 = .ok (.iconst 0, 1) := by decide +kernel
theorem d_mo_fails_11 : decode q_mo_fails.2.1 11 = .ok (.ireturn, 1) := by decide +kernel
theorem m_mo_fails (l : Launch) (lo hi d : Nat) {a0 : Nat} {a1 : Int32} {a2 : Int32} {r0 : Int32} {h h' : sm_H} (e0 : sm_at lo hi (0, 10, 0) a0) (hf : f_mo_fails a0 a1 a2 h = some (r0, h')) : sm_Met l lo hi (d) q_mo_fails [.ref a0, .int a1, .int a2] h (some (.int r0)) h' := by
  refine sm_Met.of (by decide +kernel) rfl ?_
  show sm_W l lo hi (d) q_mo_fails 0 [(0, .ref a0), (1, .int a1), (2, .int a2)] [] h (some (.int r0)) h'
  unfold f_mo_fails at hf
  refine sm_aload_n 0 rfl d_mo_fails_0 ?_
  refine sm_iload_n 1 rfl d_mo_fails_1 ?_
  refine sm_putI fp_mo_102 e0 rfl rfl d_mo_fails_2 ?_
  refine sm_nmH (fun g1 w2 => ?_)
  have hf := sm_letV w2 hf
  refine sm_aload_n 0 rfl d_mo_fails_5 ?_
  refine sm_iload_n 2 rfl d_mo_fails_6 ?_
  refine sm_putI fp_mo_28 e0 rfl rfl d_mo_fails_7 ?_
  refine sm_nmH (fun g3 w4 => ?_)
  have hf := sm_letV w4 hf
  refine sm_iconst (v := 0) (by decide) d_mo_fails_10 ?_
  obtain ⟨rfl, rfl⟩ := sm_ret2 hf
  exact sm_bret (by decide) d_mo_fails_11 rfl
theorem d_mo_seesWord_0 : decode q_mo_seesWord.2.1 0 = .ok (.aload_n 0, 1) := by decide +kernel
theorem d_mo_seesWord_1 : decode q_mo_seesWord.2.1 1 = .ok (.invokevirtual 118, 3) := by decide +kernel
theorem d_mo_seesWord_4 : decode q_mo_seesWord.2.1 4 = .ok (.invokestatic 122, 3) := by decide +kernel
theorem d_mo_seesWord_7 : decode q_mo_seesWord.2.1 7 = .ok (.ifCond .eq 14, 3) := by decide +kernel
theorem d_mo_seesWord_10 : decode q_mo_seesWord.2.1 10 = .ok (.aload_n 0, 1) := by decide +kernel
theorem d_mo_seesWord_11 : decode q_mo_seesWord.2.1 11 = .ok (.getfield 115, 3) := by decide +kernel
theorem d_mo_seesWord_14 : decode q_mo_seesWord.2.1 14 = .ok (.aload_n 0, 1) := by decide +kernel
theorem d_mo_seesWord_15 : decode q_mo_seesWord.2.1 15 = .ok (.getfield 126, 3) := by decide +kernel
theorem d_mo_seesWord_18 : decode q_mo_seesWord.2.1 18 = .ok (.if_icmp .ne 13, 3) := by decide +kernel
theorem d_mo_seesWord_21 : decode q_mo_seesWord.2.1 21 = .ok (.aload_n 0, 1) := by decide +kernel
theorem d_mo_seesWord_22 : decode q_mo_seesWord.2.1 22 = .ok (.iconst 1, 1) := by decide +kernel
theorem d_mo_seesWord_23 : decode q_mo_seesWord.2.1 23 = .ok (.aload_n 0, 1) := by decide +kernel
theorem d_mo_seesWord_24 : decode q_mo_seesWord.2.1 24 = .ok (.getfield 115, 3) := by decide +kernel
theorem d_mo_seesWord_27 : decode q_mo_seesWord.2.1 27 = .ok (.invokevirtual 129, 3) := by decide +kernel
theorem d_mo_seesWord_30 : decode q_mo_seesWord.2.1 30 = .ok (.ireturn, 1) := by decide +kernel
theorem d_mo_seesWord_31 : decode q_mo_seesWord.2.1 31 = .ok (.aload_n 0, 1) := by decide +kernel
theorem d_mo_seesWord_32 : decode q_mo_seesWord.2.1 32 = .ok (.lconst 0, 1) := by decide +kernel
theorem d_mo_seesWord_33 : decode q_mo_seesWord.2.1 33 = .ok (.putfield 133, 3) := by decide +kernel
theorem d_mo_seesWord_36 : decode q_mo_seesWord.2.1 36 = .ok (.iconst 0, 1) := by decide +kernel
theorem d_mo_seesWord_37 : decode q_mo_seesWord.2.1 37 = .ok (.istore_n 1, 1) := by decide +kernel
theorem d_mo_seesWord_38 : decode q_mo_seesWord.2.1 38 = .ok (.aload_n 0, 1) := by decide +kernel
theorem d_mo_seesWord_39 : decode q_mo_seesWord.2.1 39 = .ok (.aload_n 0, 1) := by decide +kernel
theorem d_mo_seesWord_40 : decode q_mo_seesWord.2.1 40 = .ok (.getfield 115, 3) := by decide +kernel
theorem d_mo_seesWord_43 : decode q_mo_seesWord.2.1 43 = .ok (.iload_n 1, 1) := by decide +kernel
theorem d_mo_seesWord_44 : decode q_mo_seesWord.2.1 44 = .ok (.iadd, 1) := by decide +kernel
theorem d_mo_seesWord_45 : decode q_mo_seesWord.2.1 45 = .ok (.invokevirtual 111, 3) := by decide +kernel
theorem d_mo_seesWord_48 : decode q_mo_seesWord.2.1 48 = .ok (.invokestatic 122, 3) := by decide +kernel
theorem d_mo_seesWord_51 : decode q_mo_seesWord.2.1 51 = .ok (.ifCond .eq 48, 3) := by decide +kernel
theorem d_mo_seesWord_54 : decode q_mo_seesWord.2.1 54 = .ok (.aload_n 0, 1) := by decide +kernel
theorem d_mo_seesWord_55 : decode q_mo_seesWord.2.1 55 = .ok (.iload_n 1, 1) := by decide +kernel
theorem d_mo_seesWord_56 : decode q_mo_seesWord.2.1 56 = .ok (.bipush 8, 2) := by decide +kernel
theorem d_mo_seesWord_58 : decode q_mo_seesWord.2.1 58 = .ok (.if_icmp .ge 30, 3) := by decide +kernel
theorem d_mo_seesWord_61 : decode q_mo_seesWord.2.1 61 = .ok (.ldc2_w 137, 3) := by decide +kernel
theorem d_mo_seesWord_64 : decode q_mo_seesWord.2.1 64 = .ok (.aload_n 0, 1) := by decide +kernel
theorem d_mo_seesWord_65 : decode q_mo_seesWord.2.1 65 = .ok (.getfield 133, 3) := by decide +kernel
theorem d_mo_seesWord_68 : decode q_mo_seesWord.2.1 68 = .ok (.lmul, 1) := by decide +kernel
theorem d_mo_seesWord_69 : decode q_mo_seesWord.2.1 69 = .ok (.aload_n 0, 1) := by decide +kernel
theorem d_mo_seesWord_70 : decode q_mo_seesWord.2.1 70 = .ok (.aload_n 0, 1) := by decide +kernel
theorem d_mo_seesWord_71 : decode q_mo_seesWord.2.1 71 = .ok (.getfield 115, 3) := by decide +kernel
theorem d_mo_seesWord_74 : decode q_mo_seesWord.2.1 74 = .ok (.iload_n 1, 1) := by decide +kernel
theorem d_mo_seesWord_75 : decode q_mo_seesWord.2.1 75 = .ok (.iadd, 1) := by decide +kernel
theorem d_mo_seesWord_76 : decode q_mo_seesWord.2.1 76 = .ok (.invokevirtual 111, 3) := by decide +kernel
theorem d_mo_seesWord_79 : decode q_mo_seesWord.2.1 79 = .ok (.i2l, 1) := by decide +kernel
theorem d_mo_seesWord_80 : decode q_mo_seesWord.2.1 80 = .ok (.ladd, 1) := by decide +kernel
theorem d_mo_seesWord_81 : decode q_mo_seesWord.2.1 81 = .ok (.ldc2_w 139, 3) := by decide +kernel
theorem d_mo_seesWord_84 : decode q_mo_seesWord.2.1 84 = .ok (.lsub, 1) := by decide +kernel
theorem d_mo_seesWord_85 : decode q_mo_seesWord.2.1 85 = .ok (.goto 4, 3) := by decide +kernel
theorem d_mo_seesWord_88 : decode q_mo_seesWord.2.1 88 = .ok (.lconst 0, 1) := by decide +kernel
theorem d_mo_seesWord_89 : decode q_mo_seesWord.2.1 89 = .ok (.putfield 133, 3) := by decide +kernel
theorem d_mo_seesWord_92 : decode q_mo_seesWord.2.1 92 = .ok (.iload_n 1, 1) := by decide +kernel
theorem d_mo_seesWord_93 : decode q_mo_seesWord.2.1 93 = .ok (.iconst 1, 1) := by decide +kernel
theorem d_mo_seesWord_94 : decode q_mo_seesWord.2.1 94 = .ok (.iadd, 1) := by decide +kernel
theorem d_mo_seesWord_95 : decode q_mo_seesWord.2.1 95 = .ok (.istore_n 1, 1) := by decide +kernel
theorem d_mo_seesWord_96 : decode q_mo_seesWord.2.1 96 = .ok (.goto (-58), 3) := by decide +kernel
theorem d_mo_seesWord_99 : decode q_mo_seesWord.2.1 99 = .ok (.iconst 1, 1) := by decide +kernel
theorem d_mo_seesWord_100 : decode q_mo_seesWord.2.1 100 = .ok (.ireturn, 1) := by decide +kernel
theorem w_mo_seesWord_L21 (l : Launch) (lo hi d : Nat) {h' : sm_H} {r0 : Int32} (a0 : Nat) (h : sm_H) (e0 : sm_at lo hi (0, 10, 0) a0) (hf : f_mo_seesWord_L21 a0 h = some (r0, h')) : sm_W l lo hi (d + 2) q_mo_seesWord 21 [(0, .ref a0)] [] h (some (.int r0)) h' := by
  unfold f_mo_seesWord_L21 at hf
  refine sm_aload_n 0 rfl d_mo_seesWord_21 ?_
  refine sm_iconst (v := 1) (by decide) d_mo_seesWord_22 ?_
  refine sm_aload_n 0 rfl d_mo_seesWord_23 ?_
  refine sm_getI fl_mo_115 e0 rfl d_mo_seesWord_24 ?_
  obtain ⟨r26, g27, c28, hf⟩ := sm_b2E hf
  refine sm_callV (As := [.int 1, .int (h a0 13)]) (rv := some (.int r26)) (h1 := g27) (c := 10) cvv_mo_129 rfl rfl e0 (m_mo_fails l lo hi _ e0 c28) rfl rfl d_mo_seesWord_27 ?_
  obtain ⟨c29, hf⟩ := sm_gdE hf
  obtain ⟨rfl, rfl⟩ := sm_ret2 hf
  exact sm_bret c29 d_mo_seesWord_30 rfl
theorem w_mo_seesWord_L89 (l : Launch) (lo hi d : Nat) {k38 : Nat → Int32 → sm_H → Option (Int32 × sm_H)} {h' : sm_H} {r0 : Int32} (hk38 : ∀ (a0 : Nat) (a1 : Int32) (h : sm_H) (_ : sm_at lo hi (0, 10, 0) a0) , k38 a0 a1 h = some (r0, h') → sm_W l lo hi (d + 2) q_mo_seesWord 38 [(0, .ref a0), (1, .int a1)] [] h (some (.int r0)) h') (a0 : Nat) (a1 : Int32) (s0 : Int64) (s1 : Nat) (h : sm_H) (e0 : sm_at lo hi (0, 10, 0) a0) (t1 : sm_at lo hi (0, 10, 0) s1) (hf : f_mo_seesWord_L89 k38 a0 a1 s0 s1 h = some (r0, h')) : sm_W l lo hi (d + 2) q_mo_seesWord 89 [(0, .ref a0), (1, .int a1)] [.long s0, .ref s1] h (some (.int r0)) h' := by
  unfold f_mo_seesWord_L89 at hf
  refine sm_putL fp_mo_133 t1 rfl rfl rfl d_mo_seesWord_89 ?_
  refine sm_nmH (fun g22 w23 => ?_)
  have hf := sm_letV w23 hf
  refine sm_iload_n 1 rfl d_mo_seesWord_92 ?_
  refine sm_iconst (v := 1) (by decide) d_mo_seesWord_93 ?_
  refine sm_iadd d_mo_seesWord_94 ?_
  refine sm_nmI (fun x24 w25 => ?_)
  have hf := sm_letV w25 hf
  refine sm_istore_n (lv' := [(1, .int x24), (0, .ref a0)]) d_mo_seesWord_95 rfl rfl ?_
  refine sm_goto 38 d_mo_seesWord_96 rfl ?_
  refine sm_sub [1, 0] rfl ?_
  exact hk38 _ _ _ e0 hf
theorem w_mo_seesWord_L38 (l : Launch) (lo hi d : Nat) {h' : sm_H} {r0 : Int32} : ∀ (n : Nat) (a0 : Nat) (a1 : Int32) (h : sm_H) (e0 : sm_at lo hi (0, 10, 0) a0) (hf : f_mo_seesWord_L38 n a0 a1 h = some (r0, h')), sm_W l lo hi (d + 2) q_mo_seesWord 38 [(0, .ref a0), (1, .int a1)] [] h (some (.int r0)) h' := by
  intro n
  induction n with
  | zero =>
    intro a0 a1 h e0 hf
    have z : (none : Option (Int32 × sm_H)) = some _ := hf
    cases z
  | succ n ih =>
    intro a0 a1 h e0 hf
    unfold f_mo_seesWord_L38 at hf
    refine sm_aload_n 0 rfl d_mo_seesWord_38 ?_
    refine sm_aload_n 0 rfl d_mo_seesWord_39 ?_
    refine sm_getI fl_mo_115 e0 rfl d_mo_seesWord_40 ?_
    refine sm_iload_n 1 rfl d_mo_seesWord_43 ?_
    refine sm_iadd d_mo_seesWord_44 ?_
    obtain ⟨r11, g12, c13, hf⟩ := sm_b2E hf
    refine sm_callV (As := [.int ((h a0 13) + a1)]) (rv := some (.int r11)) (h1 := g12) (c := 10) cvv_mo_111 rfl rfl e0 (m_mo_byteAt l lo hi _ e0 c13) rfl rfl d_mo_seesWord_45 ?_
    obtain ⟨r14, g15, c16, hf⟩ := sm_b2E hf
    refine sm_callS (As := [.int r11]) (rv := some (.int r14)) (h1 := g15) cvs_mo_122 (m_mo_isLetter l lo hi _ c16) rfl rfl d_mo_seesWord_48 ?_
    refine sm_if_eq 99 d_mo_seesWord_51 rfl (fun c17 => ?_) (fun c17 => ?_)
    · have hf := sm_ifT c17 hf
      refine sm_iconst (v := 1) (by decide) d_mo_seesWord_99 ?_
      obtain ⟨rfl, rfl⟩ := sm_ret2 hf
      exact sm_bret (by decide) d_mo_seesWord_100 rfl
    · have hf := sm_ifF c17 hf
      refine sm_aload_n 0 rfl d_mo_seesWord_54 ?_
      refine sm_iload_n 1 rfl d_mo_seesWord_55 ?_
      refine sm_bipush (v := 8) (by decide) d_mo_seesWord_56 ?_
      refine sm_icmp_ge 88 d_mo_seesWord_58 rfl (fun c18 => ?_) (fun c18 => ?_)
      · have hf := sm_ifT c18 hf
        refine sm_lconst (v := 0) (by decide) d_mo_seesWord_88 ?_
        exact w_mo_seesWord_L89 l lo hi d ih _ _ _ _ _ e0 e0 hf
      · have hf := sm_ifF c18 hf
        refine sm_ldc2 (v := 32) (sm_mq6 121 (by decide +kernel) rfl) d_mo_seesWord_61 ?_
        refine sm_aload_n 0 rfl d_mo_seesWord_64 ?_
        refine sm_getL fl_mo_133 e0 rfl d_mo_seesWord_65 ?_
        refine sm_lmul d_mo_seesWord_68 ?_
        refine sm_aload_n 0 rfl d_mo_seesWord_69 ?_
        refine sm_aload_n 0 rfl d_mo_seesWord_70 ?_
        refine sm_getI fl_mo_115 e0 rfl d_mo_seesWord_71 ?_
        refine sm_iload_n 1 rfl d_mo_seesWord_74 ?_
        refine sm_iadd d_mo_seesWord_75 ?_
        obtain ⟨r19, g20, c21, hf⟩ := sm_b2E hf
        refine sm_callV (As := [.int ((g15 a0 13) + a1)]) (rv := some (.int r19)) (h1 := g20) (c := 10) cvv_mo_111 rfl rfl e0 (m_mo_byteAt l lo hi _ e0 c21) rfl rfl d_mo_seesWord_76 ?_
        refine sm_i2l d_mo_seesWord_79 ?_
        refine sm_ladd d_mo_seesWord_80 ?_
        refine sm_ldc2 (v := 96) (sm_mq6 122 (by decide +kernel) rfl) d_mo_seesWord_81 ?_
        refine sm_lsub d_mo_seesWord_84 ?_
        refine sm_goto 89 d_mo_seesWord_85 rfl ?_
        exact w_mo_seesWord_L89 l lo hi d ih _ _ _ _ _ e0 e0 hf
theorem m_mo_seesWord (l : Launch) (lo hi d : Nat) {a0 : Nat} {r0 : Int32} {h h' : sm_H} (e0 : sm_at lo hi (0, 10, 0) a0) (hf : f_mo_seesWord a0 h = some (r0, h')) : sm_Met l lo hi (d + 2) q_mo_seesWord [.ref a0] h (some (.int r0)) h' := by
  refine sm_Met.of (by decide +kernel) rfl ?_
  show sm_W l lo hi (d + 2) q_mo_seesWord 0 [(0, .ref a0)] [] h (some (.int r0)) h'
  unfold f_mo_seesWord at hf
  refine sm_aload_n 0 rfl d_mo_seesWord_0 ?_
  obtain ⟨r1, g2, c3, hf⟩ := sm_b2E hf
  refine sm_callV (As := []) (rv := some (.int r1)) (h1 := g2) (c := 10) cvv_mo_118 rfl rfl e0 (m_mo_peek l lo hi _ e0 c3) rfl rfl d_mo_seesWord_1 ?_
  obtain ⟨r4, g5, c6, hf⟩ := sm_b2E hf
  refine sm_callS (As := [.int r1]) (rv := some (.int r4)) (h1 := g5) cvs_mo_122 (m_mo_isLetter l lo hi _ c6) rfl rfl d_mo_seesWord_4 ?_
  refine sm_if_eq 21 d_mo_seesWord_7 rfl (fun c7 => ?_) (fun c7 => ?_)
  · have hf := sm_ifT c7 hf
    exact w_mo_seesWord_L21 l lo hi d _ _ e0 hf
  · have hf := sm_ifF c7 hf
    refine sm_aload_n 0 rfl d_mo_seesWord_10 ?_
    refine sm_getI fl_mo_115 e0 rfl d_mo_seesWord_11 ?_
    refine sm_aload_n 0 rfl d_mo_seesWord_14 ?_
    refine sm_getI fl_mo_126 e0 rfl d_mo_seesWord_15 ?_
    refine sm_icmp_ne 31 d_mo_seesWord_18 rfl (fun c8 => ?_) (fun c8 => ?_)
    · have hf := sm_ifF c8 hf
      refine sm_aload_n 0 rfl d_mo_seesWord_31 ?_
      refine sm_lconst (v := 0) (by decide) d_mo_seesWord_32 ?_
      refine sm_putL fp_mo_133 e0 rfl rfl rfl d_mo_seesWord_33 ?_
      refine sm_nmH (fun g9 w10 => ?_)
      have hf := sm_letV w10 hf
      refine sm_iconst (v := 0) (by decide) d_mo_seesWord_36 ?_
      refine sm_istore_n (lv' := [(1, .int 0), (0, .ref a0)]) d_mo_seesWord_37 rfl rfl ?_
      refine sm_sub [1, 0] rfl ?_
      exact w_mo_seesWord_L38 l lo hi d sm_N _ _ _ e0 hf
    · have hf := sm_ifT c8 hf
      exact w_mo_seesWord_L21 l lo hi d _ _ e0 hf
theorem d_mo_passWord_0 : decode q_mo_passWord.2.1 0 = .ok (.aload_n 0, 1) := by decide +kernel
theorem d_mo_passWord_1 : decode q_mo_passWord.2.1 1 = .ok (.aload_n 0, 1) := by decide +kernel
theorem d_mo_passWord_2 : decode q_mo_passWord.2.1 2 = .ok (.getfield 108, 3) := by decide +kernel
theorem d_mo_passWord_5 : decode q_mo_passWord.2.1 5 = .ok (.invokevirtual 111, 3) := by decide +kernel
theorem d_mo_passWord_8 : decode q_mo_passWord.2.1 8 = .ok (.invokestatic 122, 3) := by decide +kernel
theorem d_mo_passWord_11 : decode q_mo_passWord.2.1 11 = .ok (.ifCond .eq 16, 3) := by decide +kernel
theorem d_mo_passWord_14 : decode q_mo_passWord.2.1 14 = .ok (.aload_n 0, 1) := by decide +kernel
theorem d_mo_passWord_15 : decode q_mo_passWord.2.1 15 = .ok (.aload_n 0, 1) := by decide +kernel
theorem d_mo_passWord_16 : decode q_mo_passWord.2.1 16 = .ok (.getfield 108, 3) := by decide +kernel
theorem d_mo_passWord_19 : decode q_mo_passWord.2.1 19 = .ok (.iconst 1, 1) := by decide +kernel
theorem d_mo_passWord_20 : decode q_mo_passWord.2.1 20 = .ok (.iadd, 1) := by decide +kernel
theorem d_mo_passWord_21 : decode q_mo_passWord.2.1 21 = .ok (.putfield 108, 3) := by decide +kernel
theorem d_mo_passWord_24 : decode q_mo_passWord.2.1 24 = .ok (.goto (-24), 3) := by decide +kernel
theorem d_mo_passWord_27 : decode q_mo_passWord.2.1 27 = .ok (.aload_n 0, 1) := by decide +kernel
theorem d_mo_passWord_28 : decode q_mo_passWord.2.1 28 = .ok (.aload_n 0, 1) := by decide +kernel
theorem d_mo_passWord_29 : decode q_mo_passWord.2.1 29 = .ok (.getfield 108, 3) := by decide +kernel
theorem d_mo_passWord_32 : decode q_mo_passWord.2.1 32 = .ok (.putfield 126, 3) := by decide +kernel
theorem d_mo_passWord_35 : decode q_mo_passWord.2.1 35 = .ok (.return_, 1) := by decide +kernel
theorem w_mo_passWord_L27 (l : Launch) (lo hi d : Nat) {h' : sm_H} (a0 : Nat) (h : sm_H) (e0 : sm_at lo hi (0, 10, 0) a0) (hf : f_mo_passWord_L27 a0 h = some h') : sm_W l lo hi (d + 2) q_mo_passWord 27 [(0, .ref a0)] [] h none h' := by
  unfold f_mo_passWord_L27 at hf
  refine sm_aload_n 0 rfl d_mo_passWord_27 ?_
  refine sm_aload_n 0 rfl d_mo_passWord_28 ?_
  refine sm_getI fl_mo_108 e0 rfl d_mo_passWord_29 ?_
  refine sm_putI fp_mo_126 e0 rfl rfl d_mo_passWord_32 ?_
  refine sm_nmH (fun g10 w11 => ?_)
  have hf := sm_letV w11 hf
  obtain rfl := sm_ret1 hf
  exact sm_vret d_mo_passWord_35 rfl
theorem w_mo_passWord_L0 (l : Launch) (lo hi d : Nat) {h' : sm_H} : ∀ (n : Nat) (a0 : Nat) (h : sm_H) (e0 : sm_at lo hi (0, 10, 0) a0) (hf : f_mo_passWord_L0 n a0 h = some h'), sm_W l lo hi (d + 2) q_mo_passWord 0 [(0, .ref a0)] [] h none h' := by
  intro n
  induction n with
  | zero =>
    intro a0 h e0 hf
    have z : (none : Option sm_H) = some _ := hf
    cases z
  | succ n ih =>
    intro a0 h e0 hf
    unfold f_mo_passWord_L0 at hf
    refine sm_aload_n 0 rfl d_mo_passWord_0 ?_
    refine sm_aload_n 0 rfl d_mo_passWord_1 ?_
    refine sm_getI fl_mo_108 e0 rfl d_mo_passWord_2 ?_
    obtain ⟨r1, g2, c3, hf⟩ := sm_b2E hf
    refine sm_callV (As := [.int (h a0 10)]) (rv := some (.int r1)) (h1 := g2) (c := 10) cvv_mo_111 rfl rfl e0 (m_mo_byteAt l lo hi _ e0 c3) rfl rfl d_mo_passWord_5 ?_
    obtain ⟨r4, g5, c6, hf⟩ := sm_b2E hf
    refine sm_callS (As := [.int r1]) (rv := some (.int r4)) (h1 := g5) cvs_mo_122 (m_mo_isLetter l lo hi _ c6) rfl rfl d_mo_passWord_8 ?_
    refine sm_if_eq 27 d_mo_passWord_11 rfl (fun c7 => ?_) (fun c7 => ?_)
    · have hf := sm_ifT c7 hf
      exact w_mo_passWord_L27 l lo hi d _ _ e0 hf
    · have hf := sm_ifF c7 hf
      refine sm_aload_n 0 rfl d_mo_passWord_14 ?_
      refine sm_aload_n 0 rfl d_mo_passWord_15 ?_
      refine sm_getI fl_mo_108 e0 rfl d_mo_passWord_16 ?_
      refine sm_iconst (v := 1) (by decide) d_mo_passWord_19 ?_
      refine sm_iadd d_mo_passWord_20 ?_
      refine sm_putI fp_mo_108 e0 rfl rfl d_mo_passWord_21 ?_
      refine sm_nmH (fun g8 w9 => ?_)
      have hf := sm_letV w9 hf
      refine sm_goto 0 d_mo_passWord_24 rfl ?_
      exact ih _ _ e0 hf
theorem m_mo_passWord (l : Launch) (lo hi d : Nat) {a0 : Nat} {h h' : sm_H} (e0 : sm_at lo hi (0, 10, 0) a0) (hf : f_mo_passWord a0 h = some h') : sm_Met l lo hi (d + 2) q_mo_passWord [.ref a0] h none h' := by
  refine sm_Met.of (by decide +kernel) rfl ?_
  show sm_W l lo hi (d + 2) q_mo_passWord 0 [(0, .ref a0)] [] h none h'
  unfold f_mo_passWord at hf
  exact w_mo_passWord_L0 l lo hi d sm_N _ _ e0 hf
theorem d_mo_readWord_0 : decode q_mo_readWord.2.1 0 = .ok (.aload_n 0, 1) := by decide +kernel
theorem d_mo_readWord_1 : decode q_mo_readWord.2.1 1 = .ok (.invokevirtual 141, 3) := by decide +kernel
theorem d_mo_readWord_4 : decode q_mo_readWord.2.1 4 = .ok (.ifCond .ne 5, 3) := by decide +kernel
theorem d_mo_readWord_7 : decode q_mo_readWord.2.1 7 = .ok (.iconst 0, 1) := by decide +kernel
theorem d_mo_readWord_8 : decode q_mo_readWord.2.1 8 = .ok (.ireturn, 1) := by decide +kernel
theorem d_mo_readWord_9 : decode q_mo_readWord.2.1 9 = .ok (.aload_n 0, 1) := by decide +kernel
theorem d_mo_readWord_10 : decode q_mo_readWord.2.1 10 = .ok (.invokevirtual 145, 3) := by decide +kernel
theorem d_mo_readWord_13 : decode q_mo_readWord.2.1 13 = .ok (.iconst 1, 1) := by decide +kernel
theorem d_mo_readWord_14 : decode q_mo_readWord.2.1 14 = .ok (.ireturn, 1) := by decide +kernel
theorem m_mo_readWord (l : Launch) (lo hi d : Nat) {a0 : Nat} {r0 : Int32} {h h' : sm_H} (e0 : sm_at lo hi (0, 10, 0) a0) (hf : f_mo_readWord a0 h = some (r0, h')) : sm_Met l lo hi (d + 3) q_mo_readWord [.ref a0] h (some (.int r0)) h' := by
  refine sm_Met.of (by decide +kernel) rfl ?_
  show sm_W l lo hi (d + 3) q_mo_readWord 0 [(0, .ref a0)] [] h (some (.int r0)) h'
  unfold f_mo_readWord at hf
  refine sm_aload_n 0 rfl d_mo_readWord_0 ?_
  obtain ⟨r1, g2, c3, hf⟩ := sm_b2E hf
  refine sm_callV (As := []) (rv := some (.int r1)) (h1 := g2) (c := 10) cvv_mo_141 rfl rfl e0 (m_mo_seesWord l lo hi _ e0 c3) rfl rfl d_mo_readWord_1 ?_
  refine sm_if_ne 9 d_mo_readWord_4 rfl (fun c4 => ?_) (fun c4 => ?_)
  · have hf := sm_ifF c4 hf
    refine sm_aload_n 0 rfl d_mo_readWord_9 ?_
    obtain ⟨g5, c6, hf⟩ := sm_bindE hf
    refine sm_callV (As := []) (rv := none) (h1 := g5) (c := 10) cvv_mo_145 rfl rfl e0 (m_mo_passWord l lo hi _ e0 c6) rfl rfl d_mo_readWord_10 ?_
    refine sm_iconst (v := 1) (by decide) d_mo_readWord_13 ?_
    obtain ⟨rfl, rfl⟩ := sm_ret2 hf
    exact sm_bret (by decide) d_mo_readWord_14 rfl
  · have hf := sm_ifT c4 hf
    refine sm_iconst (v := 0) (by decide) d_mo_readWord_7 ?_
    obtain ⟨rfl, rfl⟩ := sm_ret2 hf
    exact sm_bret (by decide) d_mo_readWord_8 rfl
theorem d_mo_readKeyword_0 : decode q_mo_readKeyword.2.1 0 = .ok (.aload_n 0, 1) := by decide +kernel
theorem d_mo_readKeyword_1 : decode q_mo_readKeyword.2.1 1 = .ok (.invokevirtual 141, 3) := by decide +kernel
theorem d_mo_readKeyword_4 : decode q_mo_readKeyword.2.1 4 = .ok (.ifCond .ne 5, 3) := by decide +kernel
theorem d_mo_readKeyword_7 : decode q_mo_readKeyword.2.1 7 = .ok (.iconst 0, 1) := by decide +kernel
theorem d_mo_readKeyword_8 : decode q_mo_readKeyword.2.1 8 = .ok (.ireturn, 1) := by decide +kernel
theorem d_mo_readKeyword_9 : decode q_mo_readKeyword.2.1 9 = .ok (.aload_n 0, 1) := by decide +kernel
theorem d_mo_readKeyword_10 : decode q_mo_readKeyword.2.1 10 = .ok (.getfield 133, 3) := by decide +kernel
theorem d_mo_readKeyword_13 : decode q_mo_readKeyword.2.1 13 = .ok (.lload_n 1, 1) := by decide +kernel
theorem d_mo_readKeyword_14 : decode q_mo_readKeyword.2.1 14 = .ok (.lcmp, 1) := by decide +kernel
theorem d_mo_readKeyword_15 : decode q_mo_readKeyword.2.1 15 = .ok (.ifCond .eq 13, 3) := by decide +kernel
theorem d_mo_readKeyword_18 : decode q_mo_readKeyword.2.1 18 = .ok (.aload_n 0, 1) := by decide +kernel
theorem d_mo_readKeyword_19 : decode q_mo_readKeyword.2.1 19 = .ok (.iconst 1, 1) := by decide +kernel
theorem d_mo_readKeyword_20 : decode q_mo_readKeyword.2.1 20 = .ok (.aload_n 0, 1) := by decide +kernel
theorem d_mo_readKeyword_21 : decode q_mo_readKeyword.2.1 21 = .ok (.getfield 115, 3) := by decide +kernel
theorem d_mo_readKeyword_24 : decode q_mo_readKeyword.2.1 24 = .ok (.invokevirtual 129, 3) := by decide +kernel
theorem d_mo_readKeyword_27 : decode q_mo_readKeyword.2.1 27 = .ok (.ireturn, 1) := by decide +kernel
theorem d_mo_readKeyword_28 : decode q_mo_readKeyword.2.1 28 = .ok (.aload_n 0, 1) := by decide +kernel
theorem d_mo_readKeyword_29 : decode q_mo_readKeyword.2.1 29 = .ok (.invokevirtual 145, 3) := by decide +kernel
theorem d_mo_readKeyword_32 : decode q_mo_readKeyword.2.1 32 = .ok (.iconst 1, 1) := by decide +kernel
theorem d_mo_readKeyword_33 : decode q_mo_readKeyword.2.1 33 = .ok (.ireturn, 1) := by decide +kernel
theorem m_mo_readKeyword (l : Launch) (lo hi d : Nat) {a0 : Nat} {a1 : Int64} {r0 : Int32} {h h' : sm_H} (e0 : sm_at lo hi (0, 10, 0) a0) (hf : f_mo_readKeyword a0 a1 h = some (r0, h')) : sm_Met l lo hi (d + 3) q_mo_readKeyword [.ref a0, .long a1] h (some (.int r0)) h' := by
  refine sm_Met.of (by decide +kernel) rfl ?_
  show sm_W l lo hi (d + 3) q_mo_readKeyword 0 [(0, .ref a0), (1, .long a1)] [] h (some (.int r0)) h'
  unfold f_mo_readKeyword at hf
  refine sm_aload_n 0 rfl d_mo_readKeyword_0 ?_
  obtain ⟨r1, g2, c3, hf⟩ := sm_b2E hf
  refine sm_callV (As := []) (rv := some (.int r1)) (h1 := g2) (c := 10) cvv_mo_141 rfl rfl e0 (m_mo_seesWord l lo hi _ e0 c3) rfl rfl d_mo_readKeyword_1 ?_
  refine sm_if_ne 9 d_mo_readKeyword_4 rfl (fun c4 => ?_) (fun c4 => ?_)
  · have hf := sm_ifF c4 hf
    refine sm_aload_n 0 rfl d_mo_readKeyword_9 ?_
    refine sm_getL fl_mo_133 e0 rfl d_mo_readKeyword_10 ?_
    refine sm_lload_n 1 rfl d_mo_readKeyword_13 ?_
    refine sm_lcmp d_mo_readKeyword_14 ?_
    refine sm_if_eq 28 d_mo_readKeyword_15 rfl (fun c5 => ?_) (fun c5 => ?_)
    · have hf := sm_ifT c5 hf
      refine sm_aload_n 0 rfl d_mo_readKeyword_28 ?_
      obtain ⟨g6, c7, hf⟩ := sm_bindE hf
      refine sm_callV (As := []) (rv := none) (h1 := g6) (c := 10) cvv_mo_145 rfl rfl e0 (m_mo_passWord l lo hi _ e0 c7) rfl rfl d_mo_readKeyword_29 ?_
      refine sm_iconst (v := 1) (by decide) d_mo_readKeyword_32 ?_
      obtain ⟨rfl, rfl⟩ := sm_ret2 hf
      exact sm_bret (by decide) d_mo_readKeyword_33 rfl
    · have hf := sm_ifF c5 hf
      refine sm_aload_n 0 rfl d_mo_readKeyword_18 ?_
      refine sm_iconst (v := 1) (by decide) d_mo_readKeyword_19 ?_
      refine sm_aload_n 0 rfl d_mo_readKeyword_20 ?_
      refine sm_getI fl_mo_115 e0 rfl d_mo_readKeyword_21 ?_
      obtain ⟨r8, g9, c10, hf⟩ := sm_b2E hf
      refine sm_callV (As := [.int 1, .int (g2 a0 13)]) (rv := some (.int r8)) (h1 := g9) (c := 10) cvv_mo_129 rfl rfl e0 (m_mo_fails l lo hi _ e0 c10) rfl rfl d_mo_readKeyword_24 ?_
      obtain ⟨c11, hf⟩ := sm_gdE hf
      obtain ⟨rfl, rfl⟩ := sm_ret2 hf
      exact sm_bret c11 d_mo_readKeyword_27 rfl
  · have hf := sm_ifT c4 hf
    refine sm_iconst (v := 0) (by decide) d_mo_readKeyword_7 ?_
    obtain ⟨rfl, rfl⟩ := sm_ret2 hf
    exact sm_bret (by decide) d_mo_readKeyword_8 rfl
theorem d_mo_readNumber_0 : decode q_mo_readNumber.2.1 0 = .ok (.aload_n 0, 1) := by decide +kernel
theorem d_mo_readNumber_1 : decode q_mo_readNumber.2.1 1 = .ok (.invokevirtual 118, 3) := by decide +kernel
theorem d_mo_readNumber_4 : decode q_mo_readNumber.2.1 4 = .ok (.invokestatic 148, 3) := by decide +kernel
theorem d_mo_readNumber_7 : decode q_mo_readNumber.2.1 7 = .ok (.ifCond .eq 14, 3) := by decide +kernel
theorem d_mo_readNumber_10 : decode q_mo_readNumber.2.1 10 = .ok (.aload_n 0, 1) := by decide +kernel
theorem d_mo_readNumber_11 : decode q_mo_readNumber.2.1 11 = .ok (.getfield 115, 3) := by decide +kernel
theorem d_mo_readNumber_14 : decode q_mo_readNumber.2.1 14 = .ok (.aload_n 0, 1) := by decide +kernel
theorem d_mo_readNumber_15 : decode q_mo_readNumber.2.1 15 = .ok (.getfield 126, 3) := by decide +kernel
theorem d_mo_readNumber_18 : decode q_mo_readNumber.2.1 18 = .ok (.if_icmp .ne 13, 3) := by decide +kernel
theorem d_mo_readNumber_21 : decode q_mo_readNumber.2.1 21 = .ok (.aload_n 0, 1) := by decide +kernel
theorem d_mo_readNumber_22 : decode q_mo_readNumber.2.1 22 = .ok (.iconst 1, 1) := by decide +kernel
theorem d_mo_readNumber_23 : decode q_mo_readNumber.2.1 23 = .ok (.aload_n 0, 1) := by decide +kernel
theorem d_mo_readNumber_24 : decode q_mo_readNumber.2.1 24 = .ok (.getfield 115, 3) := by decide +kernel
theorem d_mo_readNumber_27 : decode q_mo_readNumber.2.1 27 = .ok (.invokevirtual 129, 3) := by decide +kernel
theorem d_mo_readNumber_30 : decode q_mo_readNumber.2.1 30 = .ok (.ireturn, 1) := by decide +kernel
theorem d_mo_readNumber_31 : decode q_mo_readNumber.2.1 31 = .ok (.aload_n 0, 1) := by decide +kernel
theorem d_mo_readNumber_32 : decode q_mo_readNumber.2.1 32 = .ok (.iconst 0, 1) := by decide +kernel
theorem d_mo_readNumber_33 : decode q_mo_readNumber.2.1 33 = .ok (.putfield 151, 3) := by decide +kernel
theorem d_mo_readNumber_36 : decode q_mo_readNumber.2.1 36 = .ok (.iconst 0, 1) := by decide +kernel
theorem d_mo_readNumber_37 : decode q_mo_readNumber.2.1 37 = .ok (.istore_n 3, 1) := by decide +kernel
theorem d_mo_readNumber_38 : decode q_mo_readNumber.2.1 38 = .ok (.aload_n 0, 1) := by decide +kernel
theorem d_mo_readNumber_39 : decode q_mo_readNumber.2.1 39 = .ok (.aload_n 0, 1) := by decide +kernel
theorem d_mo_readNumber_40 : decode q_mo_readNumber.2.1 40 = .ok (.getfield 115, 3) := by decide +kernel
theorem d_mo_readNumber_43 : decode q_mo_readNumber.2.1 43 = .ok (.iload_n 3, 1) := by decide +kernel
theorem d_mo_readNumber_44 : decode q_mo_readNumber.2.1 44 = .ok (.iadd, 1) := by decide +kernel
theorem d_mo_readNumber_45 : decode q_mo_readNumber.2.1 45 = .ok (.invokevirtual 111, 3) := by decide +kernel
theorem d_mo_readNumber_48 : decode q_mo_readNumber.2.1 48 = .ok (.invokestatic 148, 3) := by decide +kernel
theorem d_mo_readNumber_51 : decode q_mo_readNumber.2.1 51 = .ok (.ifCond .eq 47, 3) := by decide +kernel
theorem d_mo_readNumber_54 : decode q_mo_readNumber.2.1 54 = .ok (.aload_n 0, 1) := by decide +kernel
theorem d_mo_readNumber_55 : decode q_mo_readNumber.2.1 55 = .ok (.iload_n 3, 1) := by decide +kernel
theorem d_mo_readNumber_56 : decode q_mo_readNumber.2.1 56 = .ok (.iconst 3, 1) := by decide +kernel
theorem d_mo_readNumber_57 : decode q_mo_readNumber.2.1 57 = .ok (.if_icmp .ge 27, 3) := by decide +kernel
theorem d_mo_readNumber_60 : decode q_mo_readNumber.2.1 60 = .ok (.bipush 10, 2) := by decide +kernel
theorem d_mo_readNumber_62 : decode q_mo_readNumber.2.1 62 = .ok (.aload_n 0, 1) := by decide +kernel
theorem d_mo_readNumber_63 : decode q_mo_readNumber.2.1 63 = .ok (.getfield 151, 3) := by decide +kernel
theorem d_mo_readNumber_66 : decode q_mo_readNumber.2.1 66 = .ok (.imul, 1) := by decide +kernel
theorem d_mo_readNumber_67 : decode q_mo_readNumber.2.1 67 = .ok (.aload_n 0, 1) := by decide +kernel
theorem d_mo_readNumber_68 : decode q_mo_readNumber.2.1 68 = .ok (.aload_n 0, 1) := by decide +kernel
theorem d_mo_readNumber_69 : decode q_mo_readNumber.2.1 69 = .ok (.getfield 115, 3) := by decide +kernel
theorem d_mo_readNumber_72 : decode q_mo_readNumber.2.1 72 = .ok (.iload_n 3, 1) := by decide +kernel
theorem d_mo_readNumber_73 : decode q_mo_readNumber.2.1 73 = .ok (.iadd, 1) := by decide +kernel
theorem d_mo_readNumber_74 : decode q_mo_readNumber.2.1 74 = .ok (.invokevirtual 111, 3) := by decide +kernel
theorem d_mo_readNumber_77 : decode q_mo_readNumber.2.1 77 = .ok (.iadd, 1) := by decide +kernel
theorem d_mo_readNumber_78 : decode q_mo_readNumber.2.1 78 = .ok (.bipush 48, 2) := by decide +kernel
theorem d_mo_readNumber_80 : decode q_mo_readNumber.2.1 80 = .ok (.isub, 1) := by decide +kernel
theorem d_mo_readNumber_81 : decode q_mo_readNumber.2.1 81 = .ok (.goto 7, 3) := by decide +kernel
theorem d_mo_readNumber_84 : decode q_mo_readNumber.2.1 84 = .ok (.aload_n 0, 1) := by decide +kernel
theorem d_mo_readNumber_85 : decode q_mo_readNumber.2.1 85 = .ok (.getfield 151, 3) := by decide +kernel
theorem d_mo_readNumber_88 : decode q_mo_readNumber.2.1 88 = .ok (.putfield 151, 3) := by decide +kernel
theorem d_mo_readNumber_91 : decode q_mo_readNumber.2.1 91 = .ok (.iload_n 3, 1) := by decide +kernel
theorem d_mo_readNumber_92 : decode q_mo_readNumber.2.1 92 = .ok (.iconst 1, 1) := by decide +kernel
theorem d_mo_readNumber_93 : decode q_mo_readNumber.2.1 93 = .ok (.iadd, 1) := by decide +kernel
theorem d_mo_readNumber_94 : decode q_mo_readNumber.2.1 94 = .ok (.istore_n 3, 1) := by decide +kernel
theorem d_mo_readNumber_95 : decode q_mo_readNumber.2.1 95 = .ok (.goto (-57), 3) := by decide +kernel
theorem d_mo_readNumber_98 : decode q_mo_readNumber.2.1 98 = .ok (.iload_n 3, 1) := by decide +kernel
theorem d_mo_readNumber_99 : decode q_mo_readNumber.2.1 99 = .ok (.iconst 3, 1) := by decide +kernel
theorem d_mo_readNumber_100 : decode q_mo_readNumber.2.1 100 = .ok (.if_icmp .le 13, 3) := by decide +kernel
theorem d_mo_readNumber_103 : decode q_mo_readNumber.2.1 103 = .ok (.aload_n 0, 1) := by decide +kernel
theorem d_mo_readNumber_104 : decode q_mo_readNumber.2.1 104 = .ok (.iconst 1, 1) := by decide +kernel
theorem d_mo_readNumber_105 : decode q_mo_readNumber.2.1 105 = .ok (.aload_n 0, 1) := by decide +kernel
theorem d_mo_readNumber_106 : decode q_mo_readNumber.2.1 106 = .ok (.getfield 115, 3) := by decide +kernel
theorem d_mo_readNumber_109 : decode q_mo_readNumber.2.1 109 = .ok (.invokevirtual 129, 3) := by decide +kernel
theorem d_mo_readNumber_112 : decode q_mo_readNumber.2.1 112 = .ok (.ireturn, 1) := by decide +kernel
theorem d_mo_readNumber_113 : decode q_mo_readNumber.2.1 113 = .ok (.aload_n 0, 1) := by decide +kernel
theorem d_mo_readNumber_114 : decode q_mo_readNumber.2.1 114 = .ok (.getfield 151, 3) := by decide +kernel
theorem d_mo_readNumber_117 : decode q_mo_readNumber.2.1 117 = .ok (.iload_n 1, 1) := by decide +kernel
theorem d_mo_readNumber_118 : decode q_mo_readNumber.2.1 118 = .ok (.iload_n 2, 1) := by decide +kernel
theorem d_mo_readNumber_119 : decode q_mo_readNumber.2.1 119 = .ok (.invokestatic 91, 3) := by decide +kernel
theorem d_mo_readNumber_122 : decode q_mo_readNumber.2.1 122 = .ok (.ifCond .ne 13, 3) := by decide +kernel
theorem d_mo_readNumber_125 : decode q_mo_readNumber.2.1 125 = .ok (.aload_n 0, 1) := by decide +kernel
theorem d_mo_readNumber_126 : decode q_mo_readNumber.2.1 126 = .ok (.iconst 2, 1) := by decide +kernel
theorem d_mo_readNumber_127 : decode q_mo_readNumber.2.1 127 = .ok (.aload_n 0, 1) := by decide +kernel
theorem d_mo_readNumber_128 : decode q_mo_readNumber.2.1 128 = .ok (.getfield 115, 3) := by decide +kernel
theorem d_mo_readNumber_131 : decode q_mo_readNumber.2.1 131 = .ok (.invokevirtual 129, 3) := by decide +kernel
theorem d_mo_readNumber_134 : decode q_mo_readNumber.2.1 134 = .ok (.ireturn, 1) := by decide +kernel
theorem d_mo_readNumber_135 : decode q_mo_readNumber.2.1 135 = .ok (.aload_n 0, 1) := by decide +kernel
theorem d_mo_readNumber_136 : decode q_mo_readNumber.2.1 136 = .ok (.aload_n 0, 1) := by decide +kernel
theorem d_mo_readNumber_137 : decode q_mo_readNumber.2.1 137 = .ok (.getfield 115, 3) := by decide +kernel
theorem d_mo_readNumber_140 : decode q_mo_readNumber.2.1 140 = .ok (.iload_n 3, 1) := by decide +kernel
theorem d_mo_readNumber_141 : decode q_mo_readNumber.2.1 141 = .ok (.iadd, 1) := by decide +kernel
theorem d_mo_readNumber_142 : decode q_mo_readNumber.2.1 142 = .ok (.putfield 108, 3) := by decide +kernel
theorem d_mo_readNumber_145 : decode q_mo_readNumber.2.1 145 = .ok (.aload_n 0, 1) := by decide +kernel
theorem d_mo_readNumber_146 : decode q_mo_readNumber.2.1 146 = .ok (.aload_n 0, 1) := by decide +kernel
theorem d_mo_readNumber_147 : decode q_mo_readNumber.2.1 147 = .ok (.getfield 108, 3) := by decide +kernel
theorem d_mo_readNumber_150 : decode q_mo_readNumber.2.1 150 = .ok (.putfield 126, 3) := by decide +kernel
theorem d_mo_readNumber_153 : decode q_mo_readNumber.2.1 153 = .ok (.iconst 1, 1) := by decide +kernel
theorem d_mo_readNumber_154 : decode q_mo_readNumber.2.1 154 = .ok (.ireturn, 1) := by decide +kernel
theorem w_mo_readNumber_L21 (l : Launch) (lo hi d : Nat) {h' : sm_H} {r0 : Int32} (a0 : Nat) (h : sm_H) (e0 : sm_at lo hi (0, 10, 0) a0) (hf : f_mo_readNumber_L21 a0 h = some (r0, h')) : sm_W l lo hi (d + 2) q_mo_readNumber 21 [(0, .ref a0)] [] h (some (.int r0)) h' := by
  unfold f_mo_readNumber_L21 at hf
  refine sm_aload_n 0 rfl d_mo_readNumber_21 ?_
  refine sm_iconst (v := 1) (by decide) d_mo_readNumber_22 ?_
  refine sm_aload_n 0 rfl d_mo_readNumber_23 ?_
  refine sm_getI fl_mo_115 e0 rfl d_mo_readNumber_24 ?_
  obtain ⟨r43, g44, c45, hf⟩ := sm_b2E hf
  refine sm_callV (As := [.int 1, .int (h a0 13)]) (rv := some (.int r43)) (h1 := g44) (c := 10) cvv_mo_129 rfl rfl e0 (m_mo_fails l lo hi _ e0 c45) rfl rfl d_mo_readNumber_27 ?_
  obtain ⟨c46, hf⟩ := sm_gdE hf
  obtain ⟨rfl, rfl⟩ := sm_ret2 hf
  exact sm_bret c46 d_mo_readNumber_30 rfl
theorem w_mo_readNumber_L98 (l : Launch) (lo hi d : Nat) {h' : sm_H} {r0 : Int32} (a0 : Nat) (a1 : Int32) (a2 : Int32) (a3 : Int32) (h : sm_H) (e0 : sm_at lo hi (0, 10, 0) a0) (hf : f_mo_readNumber_L98 a0 a1 a2 a3 h = some (r0, h')) : sm_W l lo hi (d + 2) q_mo_readNumber 98 [(0, .ref a0), (1, .int a1), (2, .int a2), (3, .int a3)] [] h (some (.int r0)) h' := by
  unfold f_mo_readNumber_L98 at hf
  refine sm_iload_n 3 rfl d_mo_readNumber_98 ?_
  refine sm_iconst (v := 3) (by decide) d_mo_readNumber_99 ?_
  refine sm_icmp_le 113 d_mo_readNumber_100 rfl (fun c26 => ?_) (fun c26 => ?_)
  · have hf := sm_ifT c26 hf
    refine sm_aload_n 0 rfl d_mo_readNumber_113 ?_
    refine sm_getI fl_mo_151 e0 rfl d_mo_readNumber_114 ?_
    refine sm_iload_n 1 rfl d_mo_readNumber_117 ?_
    refine sm_iload_n 2 rfl d_mo_readNumber_118 ?_
    obtain ⟨r27, g28, c29, hf⟩ := sm_b2E hf
    refine sm_callS (As := [.int (h a0 14), .int a1, .int a2]) (rv := some (.int r27)) (h1 := g28) cvs_mo_91 (m_mo_in l lo hi _ c29) rfl rfl d_mo_readNumber_119 ?_
    refine sm_if_ne 135 d_mo_readNumber_122 rfl (fun c30 => ?_) (fun c30 => ?_)
    · have hf := sm_ifF c30 hf
      refine sm_aload_n 0 rfl d_mo_readNumber_135 ?_
      refine sm_aload_n 0 rfl d_mo_readNumber_136 ?_
      refine sm_getI fl_mo_115 e0 rfl d_mo_readNumber_137 ?_
      refine sm_iload_n 3 rfl d_mo_readNumber_140 ?_
      refine sm_iadd d_mo_readNumber_141 ?_
      refine sm_putI fp_mo_108 e0 rfl rfl d_mo_readNumber_142 ?_
      refine sm_nmH (fun g31 w32 => ?_)
      have hf := sm_letV w32 hf
      refine sm_aload_n 0 rfl d_mo_readNumber_145 ?_
      refine sm_aload_n 0 rfl d_mo_readNumber_146 ?_
      refine sm_getI fl_mo_108 e0 rfl d_mo_readNumber_147 ?_
      refine sm_putI fp_mo_126 e0 rfl rfl d_mo_readNumber_150 ?_
      refine sm_nmH (fun g33 w34 => ?_)
      have hf := sm_letV w34 hf
      refine sm_iconst (v := 1) (by decide) d_mo_readNumber_153 ?_
      obtain ⟨rfl, rfl⟩ := sm_ret2 hf
      exact sm_bret (by decide) d_mo_readNumber_154 rfl
    · have hf := sm_ifT c30 hf
      refine sm_aload_n 0 rfl d_mo_readNumber_125 ?_
      refine sm_iconst (v := 2) (by decide) d_mo_readNumber_126 ?_
      refine sm_aload_n 0 rfl d_mo_readNumber_127 ?_
      refine sm_getI fl_mo_115 e0 rfl d_mo_readNumber_128 ?_
      obtain ⟨r35, g36, c37, hf⟩ := sm_b2E hf
      refine sm_callV (As := [.int 2, .int (g28 a0 13)]) (rv := some (.int r35)) (h1 := g36) (c := 10) cvv_mo_129 rfl rfl e0 (m_mo_fails l lo hi _ e0 c37) rfl rfl d_mo_readNumber_131 ?_
      obtain ⟨c38, hf⟩ := sm_gdE hf
      obtain ⟨rfl, rfl⟩ := sm_ret2 hf
      exact sm_bret c38 d_mo_readNumber_134 rfl
  · have hf := sm_ifF c26 hf
    refine sm_aload_n 0 rfl d_mo_readNumber_103 ?_
    refine sm_iconst (v := 1) (by decide) d_mo_readNumber_104 ?_
    refine sm_aload_n 0 rfl d_mo_readNumber_105 ?_
    refine sm_getI fl_mo_115 e0 rfl d_mo_readNumber_106 ?_
    obtain ⟨r39, g40, c41, hf⟩ := sm_b2E hf
    refine sm_callV (As := [.int 1, .int (h a0 13)]) (rv := some (.int r39)) (h1 := g40) (c := 10) cvv_mo_129 rfl rfl e0 (m_mo_fails l lo hi _ e0 c41) rfl rfl d_mo_readNumber_109 ?_
    obtain ⟨c42, hf⟩ := sm_gdE hf
    obtain ⟨rfl, rfl⟩ := sm_ret2 hf
    exact sm_bret c42 d_mo_readNumber_112 rfl
theorem w_mo_readNumber_L88 (l : Launch) (lo hi d : Nat) {k38 : Nat → Int32 → Int32 → Int32 → sm_H → Option (Int32 × sm_H)} {h' : sm_H} {r0 : Int32} (hk38 : ∀ (a0 : Nat) (a1 : Int32) (a2 : Int32) (a3 : Int32) (h : sm_H) (_ : sm_at lo hi (0, 10, 0) a0) , k38 a0 a1 a2 a3 h = some (r0, h') → sm_W l lo hi (d + 2) q_mo_readNumber 38 [(0, .ref a0), (1, .int a1), (2, .int a2), (3, .int a3)] [] h (some (.int r0)) h') (a0 : Nat) (a1 : Int32) (a2 : Int32) (a3 : Int32) (s0 : Int32) (s1 : Nat) (h : sm_H) (e0 : sm_at lo hi (0, 10, 0) a0) (t1 : sm_at lo hi (0, 10, 0) s1) (hf : f_mo_readNumber_L88 k38 a0 a1 a2 a3 s0 s1 h = some (r0, h')) : sm_W l lo hi (d + 2) q_mo_readNumber 88 [(0, .ref a0), (1, .int a1), (2, .int a2), (3, .int a3)] [.int s0, .ref s1] h (some (.int r0)) h' := by
  unfold f_mo_readNumber_L88 at hf
  refine sm_putI fp_mo_151 t1 rfl rfl d_mo_readNumber_88 ?_
  refine sm_nmH (fun g22 w23 => ?_)
  have hf := sm_letV w23 hf
  refine sm_iload_n 3 rfl d_mo_readNumber_91 ?_
  refine sm_iconst (v := 1) (by decide) d_mo_readNumber_92 ?_
  refine sm_iadd d_mo_readNumber_93 ?_
  refine sm_nmI (fun x24 w25 => ?_)
  have hf := sm_letV w25 hf
  refine sm_istore_n (lv' := [(3, .int x24), (0, .ref a0), (1, .int a1), (2, .int a2)]) d_mo_readNumber_94 rfl rfl ?_
  refine sm_goto 38 d_mo_readNumber_95 rfl ?_
  refine sm_sub [1, 2, 3, 0] rfl ?_
  exact hk38 _ _ _ _ _ e0 hf
theorem w_mo_readNumber_L38 (l : Launch) (lo hi d : Nat) {h' : sm_H} {r0 : Int32} : ∀ (n : Nat) (a0 : Nat) (a1 : Int32) (a2 : Int32) (a3 : Int32) (h : sm_H) (e0 : sm_at lo hi (0, 10, 0) a0) (hf : f_mo_readNumber_L38 n a0 a1 a2 a3 h = some (r0, h')), sm_W l lo hi (d + 2) q_mo_readNumber 38 [(0, .ref a0), (1, .int a1), (2, .int a2), (3, .int a3)] [] h (some (.int r0)) h' := by
  intro n
  induction n with
  | zero =>
    intro a0 a1 a2 a3 h e0 hf
    have z : (none : Option (Int32 × sm_H)) = some _ := hf
    cases z
  | succ n ih =>
    intro a0 a1 a2 a3 h e0 hf
    unfold f_mo_readNumber_L38 at hf
    refine sm_aload_n 0 rfl d_mo_readNumber_38 ?_
    refine sm_aload_n 0 rfl d_mo_readNumber_39 ?_
    refine sm_getI fl_mo_115 e0 rfl d_mo_readNumber_40 ?_
    refine sm_iload_n 3 rfl d_mo_readNumber_43 ?_
    refine sm_iadd d_mo_readNumber_44 ?_
    obtain ⟨r11, g12, c13, hf⟩ := sm_b2E hf
    refine sm_callV (As := [.int ((h a0 13) + a3)]) (rv := some (.int r11)) (h1 := g12) (c := 10) cvv_mo_111 rfl rfl e0 (m_mo_byteAt l lo hi _ e0 c13) rfl rfl d_mo_readNumber_45 ?_
    obtain ⟨r14, g15, c16, hf⟩ := sm_b2E hf
    refine sm_callS (As := [.int r11]) (rv := some (.int r14)) (h1 := g15) cvs_mo_148 (m_mo_isDigit l lo hi _ c16) rfl rfl d_mo_readNumber_48 ?_
    refine sm_if_eq 98 d_mo_readNumber_51 rfl (fun c17 => ?_) (fun c17 => ?_)
    · have hf := sm_ifT c17 hf
      exact w_mo_readNumber_L98 l lo hi d _ _ _ _ _ e0 hf
    · have hf := sm_ifF c17 hf
      refine sm_aload_n 0 rfl d_mo_readNumber_54 ?_
      refine sm_iload_n 3 rfl d_mo_readNumber_55 ?_
      refine sm_iconst (v := 3) (by decide) d_mo_readNumber_56 ?_
      refine sm_icmp_ge 84 d_mo_readNumber_57 rfl (fun c18 => ?_) (fun c18 => ?_)
      · have hf := sm_ifT c18 hf
        refine sm_aload_n 0 rfl d_mo_readNumber_84 ?_
        refine sm_getI fl_mo_151 e0 rfl d_mo_readNumber_85 ?_
        exact w_mo_readNumber_L88 l lo hi d ih _ _ _ _ _ _ _ e0 e0 hf
      · have hf := sm_ifF c18 hf
        refine sm_bipush (v := 10) (by decide) d_mo_readNumber_60 ?_
        refine sm_aload_n 0 rfl d_mo_readNumber_62 ?_
        refine sm_getI fl_mo_151 e0 rfl d_mo_readNumber_63 ?_
        refine sm_imul d_mo_readNumber_66 ?_
        refine sm_aload_n 0 rfl d_mo_readNumber_67 ?_
        refine sm_aload_n 0 rfl d_mo_readNumber_68 ?_
        refine sm_getI fl_mo_115 e0 rfl d_mo_readNumber_69 ?_
        refine sm_iload_n 3 rfl d_mo_readNumber_72 ?_
        refine sm_iadd d_mo_readNumber_73 ?_
        obtain ⟨r19, g20, c21, hf⟩ := sm_b2E hf
        refine sm_callV (As := [.int ((g15 a0 13) + a3)]) (rv := some (.int r19)) (h1 := g20) (c := 10) cvv_mo_111 rfl rfl e0 (m_mo_byteAt l lo hi _ e0 c21) rfl rfl d_mo_readNumber_74 ?_
        refine sm_iadd d_mo_readNumber_77 ?_
        refine sm_bipush (v := 48) (by decide) d_mo_readNumber_78 ?_
        refine sm_isub d_mo_readNumber_80 ?_
        refine sm_goto 88 d_mo_readNumber_81 rfl ?_
        exact w_mo_readNumber_L88 l lo hi d ih _ _ _ _ _ _ _ e0 e0 hf
theorem m_mo_readNumber (l : Launch) (lo hi d : Nat) {a0 : Nat} {a1 : Int32} {a2 : Int32} {r0 : Int32} {h h' : sm_H} (e0 : sm_at lo hi (0, 10, 0) a0) (hf : f_mo_readNumber a0 a1 a2 h = some (r0, h')) : sm_Met l lo hi (d + 2) q_mo_readNumber [.ref a0, .int a1, .int a2] h (some (.int r0)) h' := by
  refine sm_Met.of (by decide +kernel) rfl ?_
  show sm_W l lo hi (d + 2) q_mo_readNumber 0 [(0, .ref a0), (1, .int a1), (2, .int a2)] [] h (some (.int r0)) h'
  unfold f_mo_readNumber at hf
  refine sm_aload_n 0 rfl d_mo_readNumber_0 ?_
  obtain ⟨r1, g2, c3, hf⟩ := sm_b2E hf
  refine sm_callV (As := []) (rv := some (.int r1)) (h1 := g2) (c := 10) cvv_mo_118 rfl rfl e0 (m_mo_peek l lo hi _ e0 c3) rfl rfl d_mo_readNumber_1 ?_
  obtain ⟨r4, g5, c6, hf⟩ := sm_b2E hf
  refine sm_callS (As := [.int r1]) (rv := some (.int r4)) (h1 := g5) cvs_mo_148 (m_mo_isDigit l lo hi _ c6) rfl rfl d_mo_readNumber_4 ?_
  refine sm_if_eq 21 d_mo_readNumber_7 rfl (fun c7 => ?_) (fun c7 => ?_)
  · have hf := sm_ifT c7 hf
    refine sm_sub [0] rfl ?_
    exact w_mo_readNumber_L21 l lo hi d _ _ e0 hf
  · have hf := sm_ifF c7 hf
    refine sm_aload_n 0 rfl d_mo_readNumber_10 ?_
    refine sm_getI fl_mo_115 e0 rfl d_mo_readNumber_11 ?_
    refine sm_aload_n 0 rfl d_mo_readNumber_14 ?_
    refine sm_getI fl_mo_126 e0 rfl d_mo_readNumber_15 ?_
    refine sm_icmp_ne 31 d_mo_readNumber_18 rfl (fun c8 => ?_) (fun c8 => ?_)
    · have hf := sm_ifF c8 hf
      refine sm_aload_n 0 rfl d_mo_readNumber_31 ?_
      refine sm_iconst (v := 0) (by decide) d_mo_readNumber_32 ?_
      refine sm_putI fp_mo_151 e0 rfl rfl d_mo_readNumber_33 ?_
      refine sm_nmH (fun g9 w10 => ?_)
      have hf := sm_letV w10 hf
      refine sm_iconst (v := 0) (by decide) d_mo_readNumber_36 ?_
      refine sm_istore_n (lv' := [(3, .int 0), (0, .ref a0), (1, .int a1), (2, .int a2)]) d_mo_readNumber_37 rfl rfl ?_
      refine sm_sub [1, 2, 3, 0] rfl ?_
      exact w_mo_readNumber_L38 l lo hi d sm_N _ _ _ _ _ e0 hf
    · have hf := sm_ifT c8 hf
      refine sm_sub [0] rfl ?_
      exact w_mo_readNumber_L21 l lo hi d _ _ e0 hf
theorem d_mo_passSign_0 : decode q_mo_passSign.2.1 0 = .ok (.aload_n 0, 1) := by decide +kernel
theorem d_mo_passSign_1 : decode q_mo_passSign.2.1 1 = .ok (.aload_n 0, 1) := by decide +kernel
theorem d_mo_passSign_2 : decode q_mo_passSign.2.1 2 = .ok (.getfield 115, 3) := by decide +kernel
theorem d_mo_passSign_5 : decode q_mo_passSign.2.1 5 = .ok (.iconst 1, 1) := by decide +kernel
theorem d_mo_passSign_6 : decode q_mo_passSign.2.1 6 = .ok (.iadd, 1) := by decide +kernel
theorem d_mo_passSign_7 : decode q_mo_passSign.2.1 7 = .ok (.putfield 108, 3) := by decide +kernel
theorem d_mo_passSign_10 : decode q_mo_passSign.2.1 10 = .ok (.aload_n 0, 1) := by decide +kernel
theorem d_mo_passSign_11 : decode q_mo_passSign.2.1 11 = .ok (.iconst (-1), 1) := by decide +kernel
theorem d_mo_passSign_12 : decode q_mo_passSign.2.1 12 = .ok (.putfield 126, 3) := by decide +kernel
theorem d_mo_passSign_15 : decode q_mo_passSign.2.1 15 = .ok (.return_, 1) := by decide +kernel
theorem m_mo_passSign (l : Launch) (lo hi d : Nat) {a0 : Nat} {h h' : sm_H} (e0 : sm_at lo hi (0, 10, 0) a0) (hf : f_mo_passSign a0 h = some h') : sm_Met l lo hi (d) q_mo_passSign [.ref a0] h none h' := by
  refine sm_Met.of (by decide +kernel) rfl ?_
  show sm_W l lo hi (d) q_mo_passSign 0 [(0, .ref a0)] [] h none h'
  unfold f_mo_passSign at hf
  refine sm_aload_n 0 rfl d_mo_passSign_0 ?_
  refine sm_aload_n 0 rfl d_mo_passSign_1 ?_
  refine sm_getI fl_mo_115 e0 rfl d_mo_passSign_2 ?_
  refine sm_iconst (v := 1) (by decide) d_mo_passSign_5 ?_
  refine sm_iadd d_mo_passSign_6 ?_
  refine sm_putI fp_mo_108 e0 rfl rfl d_mo_passSign_7 ?_
  refine sm_nmH (fun g1 w2 => ?_)
  have hf := sm_letV w2 hf
  refine sm_aload_n 0 rfl d_mo_passSign_10 ?_
  refine sm_iconst (v := (-1)) (by decide) d_mo_passSign_11 ?_
  refine sm_putI fp_mo_126 e0 rfl rfl d_mo_passSign_12 ?_
  refine sm_nmH (fun g3 w4 => ?_)
  have hf := sm_letV w4 hf
  obtain rfl := sm_ret1 hf
  exact sm_vret d_mo_passSign_15 rfl
theorem d_mo_readSign_0 : decode q_mo_readSign.2.1 0 = .ok (.aload_n 0, 1) := by decide +kernel
theorem d_mo_readSign_1 : decode q_mo_readSign.2.1 1 = .ok (.invokevirtual 118, 3) := by decide +kernel
theorem d_mo_readSign_4 : decode q_mo_readSign.2.1 4 = .ok (.iload_n 1, 1) := by decide +kernel
theorem d_mo_readSign_5 : decode q_mo_readSign.2.1 5 = .ok (.if_icmp .eq 13, 3) := by decide +kernel
theorem d_mo_readSign_8 : decode q_mo_readSign.2.1 8 = .ok (.aload_n 0, 1) := by decide +kernel
theorem d_mo_readSign_9 : decode q_mo_readSign.2.1 9 = .ok (.iconst 1, 1) := by decide +kernel
theorem d_mo_readSign_10 : decode q_mo_readSign.2.1 10 = .ok (.aload_n 0, 1) := by decide +kernel
theorem d_mo_readSign_11 : decode q_mo_readSign.2.1 11 = .ok (.getfield 115, 3) := by decide +kernel
theorem d_mo_readSign_14 : decode q_mo_readSign.2.1 14 = .ok (.invokevirtual 129, 3) := by decide +kernel
theorem d_mo_readSign_17 : decode q_mo_readSign.2.1 17 = .ok (.ireturn, 1) := by decide +kernel
theorem d_mo_readSign_18 : decode q_mo_readSign.2.1 18 = .ok (.aload_n 0, 1) := by decide +kernel
theorem d_mo_readSign_19 : decode q_mo_readSign.2.1 19 = .ok (.invokevirtual 154, 3) := by decide +kernel
theorem d_mo_readSign_22 : decode q_mo_readSign.2.1 22 = .ok (.iconst 1, 1) := by decide +kernel
theorem d_mo_readSign_23 : decode q_mo_readSign.2.1 23 = .ok (.ireturn, 1) := by decide +kernel
theorem m_mo_readSign (l : Launch) (lo hi d : Nat) {a0 : Nat} {a1 : Int32} {r0 : Int32} {h h' : sm_H} (e0 : sm_at lo hi (0, 10, 0) a0) (hf : f_mo_readSign a0 a1 h = some (r0, h')) : sm_Met l lo hi (d + 2) q_mo_readSign [.ref a0, .int a1] h (some (.int r0)) h' := by
  refine sm_Met.of (by decide +kernel) rfl ?_
  show sm_W l lo hi (d + 2) q_mo_readSign 0 [(0, .ref a0), (1, .int a1)] [] h (some (.int r0)) h'
  unfold f_mo_readSign at hf
  refine sm_aload_n 0 rfl d_mo_readSign_0 ?_
  obtain ⟨r1, g2, c3, hf⟩ := sm_b2E hf
  refine sm_callV (As := []) (rv := some (.int r1)) (h1 := g2) (c := 10) cvv_mo_118 rfl rfl e0 (m_mo_peek l lo hi _ e0 c3) rfl rfl d_mo_readSign_1 ?_
  refine sm_iload_n 1 rfl d_mo_readSign_4 ?_
  refine sm_icmp_eq 18 d_mo_readSign_5 rfl (fun c4 => ?_) (fun c4 => ?_)
  · have hf := sm_ifT c4 hf
    refine sm_aload_n 0 rfl d_mo_readSign_18 ?_
    obtain ⟨g5, c6, hf⟩ := sm_bindE hf
    refine sm_callV (As := []) (rv := none) (h1 := g5) (c := 10) cvv_mo_154 rfl rfl e0 (m_mo_passSign l lo hi _ e0 c6) rfl rfl d_mo_readSign_19 ?_
    refine sm_iconst (v := 1) (by decide) d_mo_readSign_22 ?_
    obtain ⟨rfl, rfl⟩ := sm_ret2 hf
    exact sm_bret (by decide) d_mo_readSign_23 rfl
  · have hf := sm_ifF c4 hf
    refine sm_aload_n 0 rfl d_mo_readSign_8 ?_
    refine sm_iconst (v := 1) (by decide) d_mo_readSign_9 ?_
    refine sm_aload_n 0 rfl d_mo_readSign_10 ?_
    refine sm_getI fl_mo_115 e0 rfl d_mo_readSign_11 ?_
    obtain ⟨r7, g8, c9, hf⟩ := sm_b2E hf
    refine sm_callV (As := [.int 1, .int (g2 a0 13)]) (rv := some (.int r7)) (h1 := g8) (c := 10) cvv_mo_129 rfl rfl e0 (m_mo_fails l lo hi _ e0 c9) rfl rfl d_mo_readSign_14 ?_
    obtain ⟨c10, hf⟩ := sm_gdE hf
    obtain ⟨rfl, rfl⟩ := sm_ret2 hf
    exact sm_bret c10 d_mo_readSign_17 rfl
theorem d_mo_emit_0 : decode q_mo_emit.2.1 0 = .ok (.sipush 176, 3) := by decide +kernel
theorem d_mo_emit_3 : decode q_mo_emit.2.1 3 = .ok (.iconst 2, 1) := by decide +kernel
theorem d_mo_emit_4 : decode q_mo_emit.2.1 4 = .ok (.aload_n 0, 1) := by decide +kernel
theorem d_mo_emit_5 : decode q_mo_emit.2.1 5 = .ok (.getfield 13, 3) := by decide +kernel
theorem d_mo_emit_8 : decode q_mo_emit.2.1 8 = .ok (.bipush 8, 2) := by decide +kernel
theorem d_mo_emit_10 : decode q_mo_emit.2.1 10 = .ok (.iaload, 1) := by decide +kernel
theorem d_mo_emit_11 : decode q_mo_emit.2.1 11 = .ok (.imul, 1) := by decide +kernel
theorem d_mo_emit_12 : decode q_mo_emit.2.1 12 = .ok (.iadd, 1) := by decide +kernel
theorem d_mo_emit_13 : decode q_mo_emit.2.1 13 = .ok (.istore_n 3, 1) := by decide +kernel
theorem d_mo_emit_14 : decode q_mo_emit.2.1 14 = .ok (.aload_n 0, 1) := by decide +kernel
theorem d_mo_emit_15 : decode q_mo_emit.2.1 15 = .ok (.getfield 13, 3) := by decide +kernel
theorem d_mo_emit_18 : decode q_mo_emit.2.1 18 = .ok (.iload_n 3, 1) := by decide +kernel
theorem d_mo_emit_19 : decode q_mo_emit.2.1 19 = .ok (.iload_n 1, 1) := by decide +kernel
theorem d_mo_emit_20 : decode q_mo_emit.2.1 20 = .ok (.iastore, 1) := by decide +kernel
theorem d_mo_emit_21 : decode q_mo_emit.2.1 21 = .ok (.aload_n 0, 1) := by decide +kernel
theorem d_mo_emit_22 : decode q_mo_emit.2.1 22 = .ok (.getfield 13, 3) := by decide +kernel
theorem d_mo_emit_25 : decode q_mo_emit.2.1 25 = .ok (.iload_n 3, 1) := by decide +kernel
theorem d_mo_emit_26 : decode q_mo_emit.2.1 26 = .ok (.iconst 1, 1) := by decide +kernel
theorem d_mo_emit_27 : decode q_mo_emit.2.1 27 = .ok (.iadd, 1) := by decide +kernel
theorem d_mo_emit_28 : decode q_mo_emit.2.1 28 = .ok (.iload_n 2, 1) := by decide +kernel
theorem d_mo_emit_29 : decode q_mo_emit.2.1 29 = .ok (.iastore, 1) := by decide +kernel
theorem d_mo_emit_30 : decode q_mo_emit.2.1 30 = .ok (.aload_n 0, 1) := by decide +kernel
theorem d_mo_emit_31 : decode q_mo_emit.2.1 31 = .ok (.getfield 13, 3) := by decide +kernel
theorem d_mo_emit_34 : decode q_mo_emit.2.1 34 = .ok (.bipush 8, 2) := by decide +kernel
theorem d_mo_emit_36 : decode q_mo_emit.2.1 36 = .ok (.aload_n 0, 1) := by decide +kernel
theorem d_mo_emit_37 : decode q_mo_emit.2.1 37 = .ok (.getfield 13, 3) := by decide +kernel
theorem d_mo_emit_40 : decode q_mo_emit.2.1 40 = .ok (.bipush 8, 2) := by decide +kernel
theorem d_mo_emit_42 : decode q_mo_emit.2.1 42 = .ok (.iaload, 1) := by decide +kernel
theorem d_mo_emit_43 : decode q_mo_emit.2.1 43 = .ok (.iconst 1, 1) := by decide +kernel
theorem d_mo_emit_44 : decode q_mo_emit.2.1 44 = .ok (.iadd, 1) := by decide +kernel
theorem d_mo_emit_45 : decode q_mo_emit.2.1 45 = .ok (.iastore, 1) := by decide +kernel
theorem d_mo_emit_46 : decode q_mo_emit.2.1 46 = .ok (.return_, 1) := by decide +kernel
theorem m_mo_emit (l : Launch) (lo hi d : Nat) {a0 : Nat} {a1 : Int32} {a2 : Int32} {h h' : sm_H} (e0 : sm_at lo hi (0, 10, 0) a0) (hf : f_mo_emit a0 a1 a2 h = some h') : sm_Met l lo hi (d) q_mo_emit [.ref a0, .int a1, .int a2] h none h' := by
  refine sm_Met.of (by decide +kernel) rfl ?_
  show sm_W l lo hi (d) q_mo_emit 0 [(0, .ref a0), (1, .int a1), (2, .int a2)] [] h none h'
  unfold f_mo_emit at hf
  refine sm_sipush (v := 176) (by decide) d_mo_emit_0 ?_
  refine sm_iconst (v := 2) (by decide) d_mo_emit_3 ?_
  refine sm_aload_n 0 rfl d_mo_emit_4 ?_
  refine sm_getR (n := 2) fl_mo_13 e0 rfl d_mo_emit_5 ?_
  refine sm_bipush (v := 8) (by decide) d_mo_emit_8 ?_
  obtain ⟨c1, hf⟩ := sm_gdE hf
  refine sm_iald (sm_at_arr (sm_inner e0 1 rfl rfl rfl)) c1 d_mo_emit_10 ?_
  refine sm_imul d_mo_emit_11 ?_
  refine sm_iadd d_mo_emit_12 ?_
  refine sm_nmI (fun x2 w3 => ?_)
  have hf := sm_letV w3 hf
  refine sm_istore_n (lv' := [(3, .int x2), (0, .ref a0), (1, .int a1), (2, .int a2)]) d_mo_emit_13 rfl rfl ?_
  refine sm_aload_n 1 rfl d_mo_emit_14 ?_
  refine sm_getR (n := 2) fl_mo_13 e0 rfl d_mo_emit_15 ?_
  refine sm_iload_n 0 rfl d_mo_emit_18 ?_
  refine sm_iload_n 2 rfl d_mo_emit_19 ?_
  obtain ⟨c4, hf⟩ := sm_gdE hf
  refine sm_iast (sm_at_arr (sm_inner e0 1 rfl rfl rfl)) c4 d_mo_emit_20 ?_
  refine sm_nmH (fun g5 w6 => ?_)
  have hf := sm_letV w6 hf
  refine sm_aload_n 1 rfl d_mo_emit_21 ?_
  refine sm_getR (n := 2) fl_mo_13 e0 rfl d_mo_emit_22 ?_
  refine sm_iload_n 0 rfl d_mo_emit_25 ?_
  refine sm_iconst (v := 1) (by decide) d_mo_emit_26 ?_
  refine sm_iadd d_mo_emit_27 ?_
  refine sm_iload_n 3 rfl d_mo_emit_28 ?_
  obtain ⟨c7, hf⟩ := sm_gdE hf
  refine sm_iast (sm_at_arr (sm_inner e0 1 rfl rfl rfl)) c7 d_mo_emit_29 ?_
  refine sm_nmH (fun g8 w9 => ?_)
  have hf := sm_letV w9 hf
  refine sm_aload_n 1 rfl d_mo_emit_30 ?_
  refine sm_getR (n := 2) fl_mo_13 e0 rfl d_mo_emit_31 ?_
  refine sm_bipush (v := 8) (by decide) d_mo_emit_34 ?_
  refine sm_aload_n 1 rfl d_mo_emit_36 ?_
  refine sm_getR (n := 2) fl_mo_13 e0 rfl d_mo_emit_37 ?_
  refine sm_bipush (v := 8) (by decide) d_mo_emit_40 ?_
  obtain ⟨c10, hf⟩ := sm_gdE hf
  refine sm_iald (sm_at_arr (sm_inner e0 1 rfl rfl rfl)) c10 d_mo_emit_42 ?_
  refine sm_iconst (v := 1) (by decide) d_mo_emit_43 ?_
  refine sm_iadd d_mo_emit_44 ?_
  obtain ⟨c11, hf⟩ := sm_gdE hf
  refine sm_iast (sm_at_arr (sm_inner e0 1 rfl rfl rfl)) c11 d_mo_emit_45 ?_
  refine sm_nmH (fun g12 w13 => ?_)
  have hf := sm_letV w13 hf
  obtain rfl := sm_ret1 hf
  exact sm_vret d_mo_emit_46 rfl
theorem d_mo_strength_0 : decode q_mo_strength.2.1 0 = .ok (.iload_n 0, 1) := by decide +kernel
theorem d_mo_strength_1 : decode q_mo_strength.2.1 1 = .ok (.bipush 6, 2) := by decide +kernel
theorem d_mo_strength_3 : decode q_mo_strength.2.1 3 = .ok (.if_icmp .ne 7, 3) := by decide +kernel
theorem d_mo_strength_6 : decode q_mo_strength.2.1 6 = .ok (.iconst 3, 1) := by decide +kernel
theorem d_mo_strength_7 : decode q_mo_strength.2.1 7 = .ok (.goto 24, 3) := by decide +kernel
theorem d_mo_strength_10 : decode q_mo_strength.2.1 10 = .ok (.iload_n 0, 1) := by decide +kernel
theorem d_mo_strength_11 : decode q_mo_strength.2.1 11 = .ok (.bipush 7, 2) := by decide +kernel
theorem d_mo_strength_13 : decode q_mo_strength.2.1 13 = .ok (.if_icmp .ne 7, 3) := by decide +kernel
theorem d_mo_strength_16 : decode q_mo_strength.2.1 16 = .ok (.iconst 2, 1) := by decide +kernel
theorem d_mo_strength_17 : decode q_mo_strength.2.1 17 = .ok (.goto 14, 3) := by decide +kernel
theorem d_mo_strength_20 : decode q_mo_strength.2.1 20 = .ok (.iload_n 0, 1) := by decide +kernel
theorem d_mo_strength_21 : decode q_mo_strength.2.1 21 = .ok (.bipush 8, 2) := by decide +kernel
theorem d_mo_strength_23 : decode q_mo_strength.2.1 23 = .ok (.if_icmp .ne 7, 3) := by decide +kernel
theorem d_mo_strength_26 : decode q_mo_strength.2.1 26 = .ok (.iconst 1, 1) := by decide +kernel
theorem d_mo_strength_27 : decode q_mo_strength.2.1 27 = .ok (.goto 4, 3) := by decide +kernel
theorem d_mo_strength_30 : decode q_mo_strength.2.1 30 = .ok (.iconst 0, 1) := by decide +kernel
theorem d_mo_strength_31 : decode q_mo_strength.2.1 31 = .ok (.ireturn, 1) := by decide +kernel
theorem w_mo_strength_L31 (l : Launch) (lo hi d : Nat) {h' : sm_H} {r0 : Int32} (s0 : Int32) (h : sm_H) (hf : f_mo_strength_L31 s0 h = some (r0, h')) : sm_W l lo hi (d) q_mo_strength 31 [] [.int s0] h (some (.int r0)) h' := by
  unfold f_mo_strength_L31 at hf
  obtain ⟨rfl, rfl⟩ := sm_ret2 hf
  exact sm_iret d_mo_strength_31 rfl
theorem m_mo_strength (l : Launch) (lo hi d : Nat) {a0 : Int32} {r0 : Int32} {h h' : sm_H} (hf : f_mo_strength a0 h = some (r0, h')) : sm_Met l lo hi (d) q_mo_strength [.int a0] h (some (.int r0)) h' := by
  refine sm_Met.of (by decide +kernel) rfl ?_
  show sm_W l lo hi (d) q_mo_strength 0 [(0, .int a0)] [] h (some (.int r0)) h'
  unfold f_mo_strength at hf
  refine sm_iload_n 0 rfl d_mo_strength_0 ?_
  refine sm_bipush (v := 6) (by decide) d_mo_strength_1 ?_
  refine sm_icmp_ne 10 d_mo_strength_3 rfl (fun c1 => ?_) (fun c1 => ?_)
  · have hf := sm_ifF c1 hf
    refine sm_iload_n 0 rfl d_mo_strength_10 ?_
    refine sm_bipush (v := 7) (by decide) d_mo_strength_11 ?_
    refine sm_icmp_ne 20 d_mo_strength_13 rfl (fun c2 => ?_) (fun c2 => ?_)
    · have hf := sm_ifF c2 hf
      refine sm_iload_n 0 rfl d_mo_strength_20 ?_
      refine sm_bipush (v := 8) (by decide) d_mo_strength_21 ?_
      refine sm_icmp_ne 30 d_mo_strength_23 rfl (fun c3 => ?_) (fun c3 => ?_)
      · have hf := sm_ifF c3 hf
        refine sm_iconst (v := 0) (by decide) d_mo_strength_30 ?_
        refine sm_sub [] rfl ?_
        exact w_mo_strength_L31 l lo hi d _ _ hf
      · have hf := sm_ifT c3 hf
        refine sm_iconst (v := 1) (by decide) d_mo_strength_26 ?_
        refine sm_goto 31 d_mo_strength_27 rfl ?_
        refine sm_sub [] rfl ?_
        exact w_mo_strength_L31 l lo hi d _ _ hf
    · have hf := sm_ifT c2 hf
      refine sm_iconst (v := 2) (by decide) d_mo_strength_16 ?_
      refine sm_goto 31 d_mo_strength_17 rfl ?_
      refine sm_sub [] rfl ?_
      exact w_mo_strength_L31 l lo hi d _ _ hf
  · have hf := sm_ifT c1 hf
    refine sm_iconst (v := 3) (by decide) d_mo_strength_6 ?_
    refine sm_goto 31 d_mo_strength_7 rfl ?_
    refine sm_sub [] rfl ?_
    exact w_mo_strength_L31 l lo hi d _ _ hf
theorem d_mo_settle_0 : decode q_mo_settle.2.1 0 = .ok (.aload_n 0, 1) := by decide +kernel
theorem d_mo_settle_1 : decode q_mo_settle.2.1 1 = .ok (.getfield 157, 3) := by decide +kernel
theorem d_mo_settle_4 : decode q_mo_settle.2.1 4 = .ok (.ifCond .le 79, 3) := by decide +kernel
theorem d_mo_settle_7 : decode q_mo_settle.2.1 7 = .ok (.aload_n 0, 1) := by decide +kernel
theorem d_mo_settle_8 : decode q_mo_settle.2.1 8 = .ok (.getfield 32, 3) := by decide +kernel
theorem d_mo_settle_11 : decode q_mo_settle.2.1 11 = .ok (.aload_n 0, 1) := by decide +kernel
theorem d_mo_settle_12 : decode q_mo_settle.2.1 12 = .ok (.getfield 157, 3) := by decide +kernel
theorem d_mo_settle_15 : decode q_mo_settle.2.1 15 = .ok (.iconst 1, 1) := by decide +kernel
theorem d_mo_settle_16 : decode q_mo_settle.2.1 16 = .ok (.isub, 1) := by decide +kernel
theorem d_mo_settle_17 : decode q_mo_settle.2.1 17 = .ok (.iaload, 1) := by decide +kernel
theorem d_mo_settle_18 : decode q_mo_settle.2.1 18 = .ok (.invokestatic 160, 3) := by decide +kernel
theorem d_mo_settle_21 : decode q_mo_settle.2.1 21 = .ok (.iload_n 1, 1) := by decide +kernel
theorem d_mo_settle_22 : decode q_mo_settle.2.1 22 = .ok (.if_icmp .lt 61, 3) := by decide +kernel
theorem d_mo_settle_25 : decode q_mo_settle.2.1 25 = .ok (.aload_n 0, 1) := by decide +kernel
theorem d_mo_settle_26 : decode q_mo_settle.2.1 26 = .ok (.aload_n 0, 1) := by decide +kernel
theorem d_mo_settle_27 : decode q_mo_settle.2.1 27 = .ok (.getfield 157, 3) := by decide +kernel
theorem d_mo_settle_30 : decode q_mo_settle.2.1 30 = .ok (.iconst 1, 1) := by decide +kernel
theorem d_mo_settle_31 : decode q_mo_settle.2.1 31 = .ok (.isub, 1) := by decide +kernel
theorem d_mo_settle_32 : decode q_mo_settle.2.1 32 = .ok (.putfield 157, 3) := by decide +kernel
theorem d_mo_settle_35 : decode q_mo_settle.2.1 35 = .ok (.aload_n 0, 1) := by decide +kernel
theorem d_mo_settle_36 : decode q_mo_settle.2.1 36 = .ok (.aload_n 0, 1) := by decide +kernel
theorem d_mo_settle_37 : decode q_mo_settle.2.1 37 = .ok (.getfield 32, 3) := by decide +kernel
theorem d_mo_settle_40 : decode q_mo_settle.2.1 40 = .ok (.aload_n 0, 1) := by decide +kernel
theorem d_mo_settle_41 : decode q_mo_settle.2.1 41 = .ok (.getfield 157, 3) := by decide +kernel
theorem d_mo_settle_44 : decode q_mo_settle.2.1 44 = .ok (.iaload, 1) := by decide +kernel
theorem d_mo_settle_45 : decode q_mo_settle.2.1 45 = .ok (.iconst 0, 1) := by decide +kernel
theorem d_mo_settle_46 : decode q_mo_settle.2.1 46 = .ok (.invokevirtual 163, 3) := by decide +kernel
theorem d_mo_settle_49 : decode q_mo_settle.2.1 49 = .ok (.aload_n 0, 1) := by decide +kernel
theorem d_mo_settle_50 : decode q_mo_settle.2.1 50 = .ok (.aload_n 0, 1) := by decide +kernel
theorem d_mo_settle_51 : decode q_mo_settle.2.1 51 = .ok (.getfield 32, 3) := by decide +kernel
theorem d_mo_settle_54 : decode q_mo_settle.2.1 54 = .ok (.aload_n 0, 1) := by decide +kernel
theorem d_mo_settle_55 : decode q_mo_settle.2.1 55 = .ok (.getfield 157, 3) := by decide +kernel
theorem d_mo_settle_58 : decode q_mo_settle.2.1 58 = .ok (.iaload, 1) := by decide +kernel
theorem d_mo_settle_59 : decode q_mo_settle.2.1 59 = .ok (.bipush 6, 2) := by decide +kernel
theorem d_mo_settle_61 : decode q_mo_settle.2.1 61 = .ok (.if_icmp .ne 12, 3) := by decide +kernel
theorem d_mo_settle_64 : decode q_mo_settle.2.1 64 = .ok (.aload_n 0, 1) := by decide +kernel
theorem d_mo_settle_65 : decode q_mo_settle.2.1 65 = .ok (.getfield 167, 3) := by decide +kernel
theorem d_mo_settle_68 : decode q_mo_settle.2.1 68 = .ok (.iconst 1, 1) := by decide +kernel
theorem d_mo_settle_69 : decode q_mo_settle.2.1 69 = .ok (.isub, 1) := by decide +kernel
theorem d_mo_settle_70 : decode q_mo_settle.2.1 70 = .ok (.goto 7, 3) := by decide +kernel
theorem d_mo_settle_73 : decode q_mo_settle.2.1 73 = .ok (.aload_n 0, 1) := by decide +kernel
theorem d_mo_settle_74 : decode q_mo_settle.2.1 74 = .ok (.getfield 167, 3) := by decide +kernel
theorem d_mo_settle_77 : decode q_mo_settle.2.1 77 = .ok (.putfield 167, 3) := by decide +kernel
theorem d_mo_settle_80 : decode q_mo_settle.2.1 80 = .ok (.goto (-80), 3) := by decide +kernel
theorem d_mo_settle_83 : decode q_mo_settle.2.1 83 = .ok (.return_, 1) := by decide +kernel
theorem w_mo_settle_L77 (l : Launch) (lo hi d : Nat) {k0 : Nat → Int32 → sm_H → Option sm_H} {h' : sm_H} (hk0 : ∀ (a0 : Nat) (a1 : Int32) (h : sm_H) (_ : sm_at lo hi (0, 10, 0) a0) , k0 a0 a1 h = some h' → sm_W l lo hi (d + 1) q_mo_settle 0 [(0, .ref a0), (1, .int a1)] [] h none h') (a0 : Nat) (a1 : Int32) (s0 : Int32) (s1 : Nat) (h : sm_H) (e0 : sm_at lo hi (0, 10, 0) a0) (t1 : sm_at lo hi (0, 10, 0) s1) (hf : f_mo_settle_L77 k0 a0 a1 s0 s1 h = some h') : sm_W l lo hi (d + 1) q_mo_settle 77 [(0, .ref a0), (1, .int a1)] [.int s0, .ref s1] h none h' := by
  unfold f_mo_settle_L77 at hf
  refine sm_putI fp_mo_167 t1 rfl rfl d_mo_settle_77 ?_
  refine sm_nmH (fun g14 w15 => ?_)
  have hf := sm_letV w15 hf
  refine sm_goto 0 d_mo_settle_80 rfl ?_
  exact hk0 _ _ _ e0 hf
theorem w_mo_settle_L0 (l : Launch) (lo hi d : Nat) {h' : sm_H} : ∀ (n : Nat) (a0 : Nat) (a1 : Int32) (h : sm_H) (e0 : sm_at lo hi (0, 10, 0) a0) (hf : f_mo_settle_L0 n a0 a1 h = some h'), sm_W l lo hi (d + 1) q_mo_settle 0 [(0, .ref a0), (1, .int a1)] [] h none h' := by
  intro n
  induction n with
  | zero =>
    intro a0 a1 h e0 hf
    have z : (none : Option sm_H) = some _ := hf
    cases z
  | succ n ih =>
    intro a0 a1 h e0 hf
    unfold f_mo_settle_L0 at hf
    refine sm_aload_n 0 rfl d_mo_settle_0 ?_
    refine sm_getI fl_mo_157 e0 rfl d_mo_settle_1 ?_
    refine sm_if_le 83 d_mo_settle_4 rfl (fun c1 => ?_) (fun c1 => ?_)
    · have hf := sm_ifT c1 hf
      obtain rfl := sm_ret1 hf
      exact sm_vret d_mo_settle_83 rfl
    · have hf := sm_ifF c1 hf
      refine sm_aload_n 0 rfl d_mo_settle_7 ?_
      refine sm_getR (n := 7) fl_mo_32 e0 rfl d_mo_settle_8 ?_
      refine sm_aload_n 0 rfl d_mo_settle_11 ?_
      refine sm_getI fl_mo_157 e0 rfl d_mo_settle_12 ?_
      refine sm_iconst (v := 1) (by decide) d_mo_settle_15 ?_
      refine sm_isub d_mo_settle_16 ?_
      obtain ⟨c2, hf⟩ := sm_gdE hf
      refine sm_iald (sm_at_arr (sm_inner e0 18 rfl rfl rfl)) c2 d_mo_settle_17 ?_
      obtain ⟨r3, g4, c5, hf⟩ := sm_b2E hf
      refine sm_callS (As := [.int (h (a0 + 7) ((h a0 19) - 1 : Int32).toNatClampNeg)]) (rv := some (.int r3)) (h1 := g4) cvs_mo_160 (m_mo_strength l lo hi _ c5) rfl rfl d_mo_settle_18 ?_
      refine sm_iload_n 1 rfl d_mo_settle_21 ?_
      refine sm_icmp_lt 83 d_mo_settle_22 rfl (fun c6 => ?_) (fun c6 => ?_)
      · have hf := sm_ifT c6 hf
        obtain rfl := sm_ret1 hf
        exact sm_vret d_mo_settle_83 rfl
      · have hf := sm_ifF c6 hf
        refine sm_aload_n 0 rfl d_mo_settle_25 ?_
        refine sm_aload_n 0 rfl d_mo_settle_26 ?_
        refine sm_getI fl_mo_157 e0 rfl d_mo_settle_27 ?_
        refine sm_iconst (v := 1) (by decide) d_mo_settle_30 ?_
        refine sm_isub d_mo_settle_31 ?_
        refine sm_putI fp_mo_157 e0 rfl rfl d_mo_settle_32 ?_
        refine sm_nmH (fun g7 w8 => ?_)
        have hf := sm_letV w8 hf
        refine sm_aload_n 0 rfl d_mo_settle_35 ?_
        refine sm_aload_n 0 rfl d_mo_settle_36 ?_
        refine sm_getR (n := 7) fl_mo_32 e0 rfl d_mo_settle_37 ?_
        refine sm_aload_n 0 rfl d_mo_settle_40 ?_
        refine sm_getI fl_mo_157 e0 rfl d_mo_settle_41 ?_
        obtain ⟨c9, hf⟩ := sm_gdE hf
        refine sm_iald (sm_at_arr (sm_inner e0 18 rfl rfl rfl)) c9 d_mo_settle_44 ?_
        refine sm_iconst (v := 0) (by decide) d_mo_settle_45 ?_
        obtain ⟨g10, c11, hf⟩ := sm_bindE hf
        refine sm_callV (As := [.int (g7 (a0 + 7) (g7 a0 19 : Int32).toNatClampNeg), .int 0]) (rv := none) (h1 := g10) (c := 10) cvv_mo_163 rfl rfl e0 (m_mo_emit l lo hi _ e0 c11) rfl rfl d_mo_settle_46 ?_
        refine sm_aload_n 0 rfl d_mo_settle_49 ?_
        refine sm_aload_n 0 rfl d_mo_settle_50 ?_
        refine sm_getR (n := 7) fl_mo_32 e0 rfl d_mo_settle_51 ?_
        refine sm_aload_n 0 rfl d_mo_settle_54 ?_
        refine sm_getI fl_mo_157 e0 rfl d_mo_settle_55 ?_
        obtain ⟨c12, hf⟩ := sm_gdE hf
        refine sm_iald (sm_at_arr (sm_inner e0 18 rfl rfl rfl)) c12 d_mo_settle_58 ?_
        refine sm_bipush (v := 6) (by decide) d_mo_settle_59 ?_
        refine sm_icmp_ne 73 d_mo_settle_61 rfl (fun c13 => ?_) (fun c13 => ?_)
        · have hf := sm_ifF c13 hf
          refine sm_aload_n 0 rfl d_mo_settle_73 ?_
          refine sm_getI fl_mo_167 e0 rfl d_mo_settle_74 ?_
          exact w_mo_settle_L77 l lo hi d ih _ _ _ _ _ e0 e0 hf
        · have hf := sm_ifT c13 hf
          refine sm_aload_n 0 rfl d_mo_settle_64 ?_
          refine sm_getI fl_mo_167 e0 rfl d_mo_settle_65 ?_
          refine sm_iconst (v := 1) (by decide) d_mo_settle_68 ?_
          refine sm_isub d_mo_settle_69 ?_
          refine sm_goto 77 d_mo_settle_70 rfl ?_
          exact w_mo_settle_L77 l lo hi d ih _ _ _ _ _ e0 e0 hf
theorem m_mo_settle (l : Launch) (lo hi d : Nat) {a0 : Nat} {a1 : Int32} {h h' : sm_H} (e0 : sm_at lo hi (0, 10, 0) a0) (hf : f_mo_settle a0 a1 h = some h') : sm_Met l lo hi (d + 1) q_mo_settle [.ref a0, .int a1] h none h' := by
  refine sm_Met.of (by decide +kernel) rfl ?_
  show sm_W l lo hi (d + 1) q_mo_settle 0 [(0, .ref a0), (1, .int a1)] [] h none h'
  unfold f_mo_settle at hf
  exact w_mo_settle_L0 l lo hi d sm_N _ _ _ e0 hf
theorem d_mo_isInside_0 : decode q_mo_isInside.2.1 0 = .ok (.iconst 0, 1) := by decide +kernel
theorem d_mo_isInside_1 : decode q_mo_isInside.2.1 1 = .ok (.istore_n 1, 1) := by decide +kernel
theorem d_mo_isInside_2 : decode q_mo_isInside.2.1 2 = .ok (.iload_n 1, 1) := by decide +kernel
theorem d_mo_isInside_3 : decode q_mo_isInside.2.1 3 = .ok (.aload_n 0, 1) := by decide +kernel
theorem d_mo_isInside_4 : decode q_mo_isInside.2.1 4 = .ok (.getfield 157, 3) := by decide +kernel
theorem d_mo_isInside_7 : decode q_mo_isInside.2.1 7 = .ok (.if_icmp .ge 22, 3) := by decide +kernel
theorem d_mo_isInside_10 : decode q_mo_isInside.2.1 10 = .ok (.aload_n 0, 1) := by decide +kernel
theorem d_mo_isInside_11 : decode q_mo_isInside.2.1 11 = .ok (.getfield 32, 3) := by decide +kernel
theorem d_mo_isInside_14 : decode q_mo_isInside.2.1 14 = .ok (.iload_n 1, 1) := by decide +kernel
theorem d_mo_isInside_15 : decode q_mo_isInside.2.1 15 = .ok (.iaload, 1) := by decide +kernel
theorem d_mo_isInside_16 : decode q_mo_isInside.2.1 16 = .ok (.bipush 9, 2) := by decide +kernel
theorem d_mo_isInside_18 : decode q_mo_isInside.2.1 18 = .ok (.if_icmp .ne 5, 3) := by decide +kernel
theorem d_mo_isInside_21 : decode q_mo_isInside.2.1 21 = .ok (.iconst 1, 1) := by decide +kernel
theorem d_mo_isInside_22 : decode q_mo_isInside.2.1 22 = .ok (.ireturn, 1) := by decide +kernel
theorem d_mo_isInside_23 : decode q_mo_isInside.2.1 23 = .ok (.iinc 1 1, 3) := by decide +kernel
theorem d_mo_isInside_26 : decode q_mo_isInside.2.1 26 = .ok (.goto (-24), 3) := by decide +kernel
theorem d_mo_isInside_29 : decode q_mo_isInside.2.1 29 = .ok (.iconst 0, 1) := by decide +kernel
theorem d_mo_isInside_30 : decode q_mo_isInside.2.1 30 = .ok (.ireturn, 1) := by decide +kernel
theorem w_mo_isInside_L2 (l : Launch) (lo hi d : Nat) {h' : sm_H} {r0 : Int32} : ∀ (n : Nat) (a0 : Nat) (a1 : Int32) (h : sm_H) (e0 : sm_at lo hi (0, 10, 0) a0) (hf : f_mo_isInside_L2 n a0 a1 h = some (r0, h')), sm_W l lo hi (d) q_mo_isInside 2 [(0, .ref a0), (1, .int a1)] [] h (some (.int r0)) h' := by
  intro n
  induction n with
  | zero =>
    intro a0 a1 h e0 hf
    have z : (none : Option (Int32 × sm_H)) = some _ := hf
    cases z
  | succ n ih =>
    intro a0 a1 h e0 hf
    unfold f_mo_isInside_L2 at hf
    refine sm_iload_n 1 rfl d_mo_isInside_2 ?_
    refine sm_aload_n 0 rfl d_mo_isInside_3 ?_
    refine sm_getI fl_mo_157 e0 rfl d_mo_isInside_4 ?_
    refine sm_icmp_ge 29 d_mo_isInside_7 rfl (fun c1 => ?_) (fun c1 => ?_)
    · have hf := sm_ifT c1 hf
      refine sm_iconst (v := 0) (by decide) d_mo_isInside_29 ?_
      obtain ⟨rfl, rfl⟩ := sm_ret2 hf
      exact sm_bret (by decide) d_mo_isInside_30 rfl
    · have hf := sm_ifF c1 hf
      refine sm_aload_n 0 rfl d_mo_isInside_10 ?_
      refine sm_getR (n := 7) fl_mo_32 e0 rfl d_mo_isInside_11 ?_
      refine sm_iload_n 1 rfl d_mo_isInside_14 ?_
      obtain ⟨c2, hf⟩ := sm_gdE hf
      refine sm_iald (sm_at_arr (sm_inner e0 18 rfl rfl rfl)) c2 d_mo_isInside_15 ?_
      refine sm_bipush (v := 9) (by decide) d_mo_isInside_16 ?_
      refine sm_icmp_ne 23 d_mo_isInside_18 rfl (fun c3 => ?_) (fun c3 => ?_)
      · have hf := sm_ifF c3 hf
        obtain ⟨x4, w5⟩ : ∃ v : Int32, v = a1 + 1 := ⟨_, rfl⟩
        have hf := sm_letV w5 hf
        refine sm_iinc (v := x4) (lv' := [(1, .int x4), (0, .ref a0)]) 1 rfl (by rw [w5]; rfl) d_mo_isInside_23 rfl rfl ?_
        refine sm_goto 2 d_mo_isInside_26 rfl ?_
        refine sm_sub [1, 0] rfl ?_
        exact ih _ _ _ e0 hf
      · have hf := sm_ifT c3 hf
        refine sm_iconst (v := 1) (by decide) d_mo_isInside_21 ?_
        obtain ⟨rfl, rfl⟩ := sm_ret2 hf
        exact sm_bret (by decide) d_mo_isInside_22 rfl
theorem m_mo_isInside (l : Launch) (lo hi d : Nat) {a0 : Nat} {r0 : Int32} {h h' : sm_H} (e0 : sm_at lo hi (0, 10, 0) a0) (hf : f_mo_isInside a0 h = some (r0, h')) : sm_Met l lo hi (d) q_mo_isInside [.ref a0] h (some (.int r0)) h' := by
  refine sm_Met.of (by decide +kernel) rfl ?_
  show sm_W l lo hi (d) q_mo_isInside 0 [(0, .ref a0)] [] h (some (.int r0)) h'
  unfold f_mo_isInside at hf
  refine sm_iconst (v := 0) (by decide) d_mo_isInside_0 ?_
  refine sm_istore_n (lv' := [(1, .int 0), (0, .ref a0)]) d_mo_isInside_1 rfl rfl ?_
  refine sm_sub [1, 0] rfl ?_
  exact w_mo_isInside_L2 l lo hi d sm_N _ _ _ e0 hf
theorem d_mo_push_0 : decode q_mo_push.2.1 0 = .ok (.aload_n 0, 1) := by decide +kernel
theorem d_mo_push_1 : decode q_mo_push.2.1 1 = .ok (.getfield 32, 3) := by decide +kernel
theorem d_mo_push_4 : decode q_mo_push.2.1 4 = .ok (.aload_n 0, 1) := by decide +kernel
theorem d_mo_push_5 : decode q_mo_push.2.1 5 = .ok (.getfield 157, 3) := by decide +kernel
theorem d_mo_push_8 : decode q_mo_push.2.1 8 = .ok (.iload_n 1, 1) := by decide +kernel
theorem d_mo_push_9 : decode q_mo_push.2.1 9 = .ok (.iastore, 1) := by decide +kernel
theorem d_mo_push_10 : decode q_mo_push.2.1 10 = .ok (.aload_n 0, 1) := by decide +kernel
theorem d_mo_push_11 : decode q_mo_push.2.1 11 = .ok (.aload_n 0, 1) := by decide +kernel
theorem d_mo_push_12 : decode q_mo_push.2.1 12 = .ok (.getfield 157, 3) := by decide +kernel
theorem d_mo_push_15 : decode q_mo_push.2.1 15 = .ok (.iconst 1, 1) := by decide +kernel
theorem d_mo_push_16 : decode q_mo_push.2.1 16 = .ok (.iadd, 1) := by decide +kernel
theorem d_mo_push_17 : decode q_mo_push.2.1 17 = .ok (.putfield 157, 3) := by decide +kernel
theorem d_mo_push_20 : decode q_mo_push.2.1 20 = .ok (.return_, 1) := by decide +kernel
theorem m_mo_push (l : Launch) (lo hi d : Nat) {a0 : Nat} {a1 : Int32} {h h' : sm_H} (e0 : sm_at lo hi (0, 10, 0) a0) (hf : f_mo_push a0 a1 h = some h') : sm_Met l lo hi (d) q_mo_push [.ref a0, .int a1] h none h' := by
  refine sm_Met.of (by decide +kernel) rfl ?_
  show sm_W l lo hi (d) q_mo_push 0 [(0, .ref a0), (1, .int a1)] [] h none h'
  unfold f_mo_push at hf
  refine sm_aload_n 0 rfl d_mo_push_0 ?_
  refine sm_getR (n := 7) fl_mo_32 e0 rfl d_mo_push_1 ?_
  refine sm_aload_n 0 rfl d_mo_push_4 ?_
  refine sm_getI fl_mo_157 e0 rfl d_mo_push_5 ?_
  refine sm_iload_n 1 rfl d_mo_push_8 ?_
  obtain ⟨c1, hf⟩ := sm_gdE hf
  refine sm_iast (sm_at_arr (sm_inner e0 18 rfl rfl rfl)) c1 d_mo_push_9 ?_
  refine sm_nmH (fun g2 w3 => ?_)
  have hf := sm_letV w3 hf
  refine sm_aload_n 0 rfl d_mo_push_10 ?_
  refine sm_aload_n 0 rfl d_mo_push_11 ?_
  refine sm_getI fl_mo_157 e0 rfl d_mo_push_12 ?_
  refine sm_iconst (v := 1) (by decide) d_mo_push_15 ?_
  refine sm_iadd d_mo_push_16 ?_
  refine sm_putI fp_mo_157 e0 rfl rfl d_mo_push_17 ?_
  refine sm_nmH (fun g4 w5 => ?_)
  have hf := sm_letV w5 hf
  obtain rfl := sm_ret1 hf
  exact sm_vret d_mo_push_20 rfl
theorem d_mo_opens_0 : decode q_mo_opens.2.1 0 = .ok (.aload_n 0, 1) := by decide +kernel
theorem d_mo_opens_1 : decode q_mo_opens.2.1 1 = .ok (.getfield 167, 3) := by decide +kernel
theorem d_mo_opens_4 : decode q_mo_opens.2.1 4 = .ok (.bipush 6, 2) := by decide +kernel
theorem d_mo_opens_6 : decode q_mo_opens.2.1 6 = .ok (.if_icmp .ne 13, 3) := by decide +kernel
theorem d_mo_opens_9 : decode q_mo_opens.2.1 9 = .ok (.aload_n 0, 1) := by decide +kernel
theorem d_mo_opens_10 : decode q_mo_opens.2.1 10 = .ok (.iconst 3, 1) := by decide +kernel
theorem d_mo_opens_11 : decode q_mo_opens.2.1 11 = .ok (.aload_n 0, 1) := by decide +kernel
theorem d_mo_opens_12 : decode q_mo_opens.2.1 12 = .ok (.getfield 115, 3) := by decide +kernel
theorem d_mo_opens_15 : decode q_mo_opens.2.1 15 = .ok (.invokevirtual 129, 3) := by decide +kernel
theorem d_mo_opens_18 : decode q_mo_opens.2.1 18 = .ok (.ireturn, 1) := by decide +kernel
theorem d_mo_opens_19 : decode q_mo_opens.2.1 19 = .ok (.aload_n 0, 1) := by decide +kernel
theorem d_mo_opens_20 : decode q_mo_opens.2.1 20 = .ok (.aload_n 0, 1) := by decide +kernel
theorem d_mo_opens_21 : decode q_mo_opens.2.1 21 = .ok (.getfield 167, 3) := by decide +kernel
theorem d_mo_opens_24 : decode q_mo_opens.2.1 24 = .ok (.iconst 1, 1) := by decide +kernel
theorem d_mo_opens_25 : decode q_mo_opens.2.1 25 = .ok (.iadd, 1) := by decide +kernel
theorem d_mo_opens_26 : decode q_mo_opens.2.1 26 = .ok (.putfield 167, 3) := by decide +kernel
theorem d_mo_opens_29 : decode q_mo_opens.2.1 29 = .ok (.aload_n 0, 1) := by decide +kernel
theorem d_mo_opens_30 : decode q_mo_opens.2.1 30 = .ok (.iload_n 1, 1) := by decide +kernel
theorem d_mo_opens_31 : decode q_mo_opens.2.1 31 = .ok (.invokevirtual 170, 3) := by decide +kernel
theorem d_mo_opens_34 : decode q_mo_opens.2.1 34 = .ok (.iconst 1, 1) := by decide +kernel
theorem d_mo_opens_35 : decode q_mo_opens.2.1 35 = .ok (.ireturn, 1) := by decide +kernel
theorem m_mo_opens (l : Launch) (lo hi d : Nat) {a0 : Nat} {a1 : Int32} {r0 : Int32} {h h' : sm_H} (e0 : sm_at lo hi (0, 10, 0) a0) (hf : f_mo_opens a0 a1 h = some (r0, h')) : sm_Met l lo hi (d + 1) q_mo_opens [.ref a0, .int a1] h (some (.int r0)) h' := by
  refine sm_Met.of (by decide +kernel) rfl ?_
  show sm_W l lo hi (d + 1) q_mo_opens 0 [(0, .ref a0), (1, .int a1)] [] h (some (.int r0)) h'
  unfold f_mo_opens at hf
  refine sm_aload_n 0 rfl d_mo_opens_0 ?_
  refine sm_getI fl_mo_167 e0 rfl d_mo_opens_1 ?_
  refine sm_bipush (v := 6) (by decide) d_mo_opens_4 ?_
  refine sm_icmp_ne 19 d_mo_opens_6 rfl (fun c1 => ?_) (fun c1 => ?_)
  · have hf := sm_ifF c1 hf
    refine sm_aload_n 0 rfl d_mo_opens_19 ?_
    refine sm_aload_n 0 rfl d_mo_opens_20 ?_
    refine sm_getI fl_mo_167 e0 rfl d_mo_opens_21 ?_
    refine sm_iconst (v := 1) (by decide) d_mo_opens_24 ?_
    refine sm_iadd d_mo_opens_25 ?_
    refine sm_putI fp_mo_167 e0 rfl rfl d_mo_opens_26 ?_
    refine sm_nmH (fun g2 w3 => ?_)
    have hf := sm_letV w3 hf
    refine sm_aload_n 0 rfl d_mo_opens_29 ?_
    refine sm_iload_n 1 rfl d_mo_opens_30 ?_
    obtain ⟨g4, c5, hf⟩ := sm_bindE hf
    refine sm_callV (As := [.int a1]) (rv := none) (h1 := g4) (c := 10) cvv_mo_170 rfl rfl e0 (m_mo_push l lo hi _ e0 c5) rfl rfl d_mo_opens_31 ?_
    refine sm_iconst (v := 1) (by decide) d_mo_opens_34 ?_
    obtain ⟨rfl, rfl⟩ := sm_ret2 hf
    exact sm_bret (by decide) d_mo_opens_35 rfl
  · have hf := sm_ifT c1 hf
    refine sm_aload_n 0 rfl d_mo_opens_9 ?_
    refine sm_iconst (v := 3) (by decide) d_mo_opens_10 ?_
    refine sm_aload_n 0 rfl d_mo_opens_11 ?_
    refine sm_getI fl_mo_115 e0 rfl d_mo_opens_12 ?_
    obtain ⟨r6, g7, c8, hf⟩ := sm_b2E hf
    refine sm_callV (As := [.int 3, .int (h a0 13)]) (rv := some (.int r6)) (h1 := g7) (c := 10) cvv_mo_129 rfl rfl e0 (m_mo_fails l lo hi _ e0 c8) rfl rfl d_mo_opens_15 ?_
    obtain ⟨c9, hf⟩ := sm_gdE hf
    obtain ⟨rfl, rfl⟩ := sm_ret2 hf
    exact sm_bret c9 d_mo_opens_18 rfl
theorem d_mo_readOpenings_0 : decode q_mo_readOpenings.2.1 0 = .ok (.aload_n 0, 1) := by decide +kernel
theorem d_mo_readOpenings_1 : decode q_mo_readOpenings.2.1 1 = .ok (.invokevirtual 118, 3) := by decide +kernel
theorem d_mo_readOpenings_4 : decode q_mo_readOpenings.2.1 4 = .ok (.bipush 40, 2) := by decide +kernel
theorem d_mo_readOpenings_6 : decode q_mo_readOpenings.2.1 6 = .ok (.if_icmp .ne 21, 3) := by decide +kernel
theorem d_mo_readOpenings_9 : decode q_mo_readOpenings.2.1 9 = .ok (.aload_n 0, 1) := by decide +kernel
theorem d_mo_readOpenings_10 : decode q_mo_readOpenings.2.1 10 = .ok (.bipush 9, 2) := by decide +kernel
theorem d_mo_readOpenings_12 : decode q_mo_readOpenings.2.1 12 = .ok (.invokevirtual 173, 3) := by decide +kernel
theorem d_mo_readOpenings_15 : decode q_mo_readOpenings.2.1 15 = .ok (.ifCond .ne 5, 3) := by decide +kernel
theorem d_mo_readOpenings_18 : decode q_mo_readOpenings.2.1 18 = .ok (.iconst 0, 1) := by decide +kernel
theorem d_mo_readOpenings_19 : decode q_mo_readOpenings.2.1 19 = .ok (.ireturn, 1) := by decide +kernel
theorem d_mo_readOpenings_20 : decode q_mo_readOpenings.2.1 20 = .ok (.aload_n 0, 1) := by decide +kernel
theorem d_mo_readOpenings_21 : decode q_mo_readOpenings.2.1 21 = .ok (.invokevirtual 154, 3) := by decide +kernel
theorem d_mo_readOpenings_24 : decode q_mo_readOpenings.2.1 24 = .ok (.goto (-24), 3) := by decide +kernel
theorem d_mo_readOpenings_27 : decode q_mo_readOpenings.2.1 27 = .ok (.aload_n 0, 1) := by decide +kernel
theorem d_mo_readOpenings_28 : decode q_mo_readOpenings.2.1 28 = .ok (.invokevirtual 141, 3) := by decide +kernel
theorem d_mo_readOpenings_31 : decode q_mo_readOpenings.2.1 31 = .ok (.ifCond .ne 5, 3) := by decide +kernel
theorem d_mo_readOpenings_34 : decode q_mo_readOpenings.2.1 34 = .ok (.iconst 0, 1) := by decide +kernel
theorem d_mo_readOpenings_35 : decode q_mo_readOpenings.2.1 35 = .ok (.ireturn, 1) := by decide +kernel
theorem d_mo_readOpenings_36 : decode q_mo_readOpenings.2.1 36 = .ok (.aload_n 0, 1) := by decide +kernel
theorem d_mo_readOpenings_37 : decode q_mo_readOpenings.2.1 37 = .ok (.getfield 133, 3) := by decide +kernel
theorem d_mo_readOpenings_40 : decode q_mo_readOpenings.2.1 40 = .ok (.ldc2_w 176, 3) := by decide +kernel
theorem d_mo_readOpenings_43 : decode q_mo_readOpenings.2.1 43 = .ok (.lcmp, 1) := by decide +kernel
theorem d_mo_readOpenings_44 : decode q_mo_readOpenings.2.1 44 = .ok (.ifCond .eq 5, 3) := by decide +kernel
theorem d_mo_readOpenings_47 : decode q_mo_readOpenings.2.1 47 = .ok (.iconst 1, 1) := by decide +kernel
theorem d_mo_readOpenings_48 : decode q_mo_readOpenings.2.1 48 = .ok (.ireturn, 1) := by decide +kernel
theorem d_mo_readOpenings_49 : decode q_mo_readOpenings.2.1 49 = .ok (.aload_n 0, 1) := by decide +kernel
theorem d_mo_readOpenings_50 : decode q_mo_readOpenings.2.1 50 = .ok (.bipush 6, 2) := by decide +kernel
theorem d_mo_readOpenings_52 : decode q_mo_readOpenings.2.1 52 = .ok (.invokevirtual 173, 3) := by decide +kernel
theorem d_mo_readOpenings_55 : decode q_mo_readOpenings.2.1 55 = .ok (.ifCond .ne 5, 3) := by decide +kernel
theorem d_mo_readOpenings_58 : decode q_mo_readOpenings.2.1 58 = .ok (.iconst 0, 1) := by decide +kernel
theorem d_mo_readOpenings_59 : decode q_mo_readOpenings.2.1 59 = .ok (.ireturn, 1) := by decide +kernel
theorem d_mo_readOpenings_60 : decode q_mo_readOpenings.2.1 60 = .ok (.aload_n 0, 1) := by decide +kernel
theorem d_mo_readOpenings_61 : decode q_mo_readOpenings.2.1 61 = .ok (.invokevirtual 145, 3) := by decide +kernel
theorem d_mo_readOpenings_64 : decode q_mo_readOpenings.2.1 64 = .ok (.goto (-64), 3) := by decide +kernel
theorem w_mo_readOpenings_L0 (l : Launch) (lo hi d : Nat) {h' : sm_H} {r0 : Int32} : ∀ (n : Nat) (a0 : Nat) (h : sm_H) (e0 : sm_at lo hi (0, 10, 0) a0) (hf : f_mo_readOpenings_L0 n a0 h = some (r0, h')), sm_W l lo hi (d + 3) q_mo_readOpenings 0 [(0, .ref a0)] [] h (some (.int r0)) h' := by
  intro n
  induction n with
  | zero =>
    intro a0 h e0 hf
    have z : (none : Option (Int32 × sm_H)) = some _ := hf
    cases z
  | succ n ih =>
    intro a0 h e0 hf
    unfold f_mo_readOpenings_L0 at hf
    refine sm_aload_n 0 rfl d_mo_readOpenings_0 ?_
    obtain ⟨r1, g2, c3, hf⟩ := sm_b2E hf
    refine sm_callV (As := []) (rv := some (.int r1)) (h1 := g2) (c := 10) cvv_mo_118 rfl rfl e0 (m_mo_peek l lo hi _ e0 c3) rfl rfl d_mo_readOpenings_1 ?_
    refine sm_bipush (v := 40) (by decide) d_mo_readOpenings_4 ?_
    refine sm_icmp_ne 27 d_mo_readOpenings_6 rfl (fun c4 => ?_) (fun c4 => ?_)
    · have hf := sm_ifF c4 hf
      refine sm_aload_n 0 rfl d_mo_readOpenings_27 ?_
      obtain ⟨r5, g6, c7, hf⟩ := sm_b2E hf
      refine sm_callV (As := []) (rv := some (.int r5)) (h1 := g6) (c := 10) cvv_mo_141 rfl rfl e0 (m_mo_seesWord l lo hi _ e0 c7) rfl rfl d_mo_readOpenings_28 ?_
      refine sm_if_ne 36 d_mo_readOpenings_31 rfl (fun c8 => ?_) (fun c8 => ?_)
      · have hf := sm_ifF c8 hf
        refine sm_aload_n 0 rfl d_mo_readOpenings_36 ?_
        refine sm_getL fl_mo_133 e0 rfl d_mo_readOpenings_37 ?_
        refine sm_ldc2 (v := 14836) (sm_mq6 196 (by decide +kernel) rfl) d_mo_readOpenings_40 ?_
        refine sm_lcmp d_mo_readOpenings_43 ?_
        refine sm_if_eq 49 d_mo_readOpenings_44 rfl (fun c9 => ?_) (fun c9 => ?_)
        · have hf := sm_ifT c9 hf
          refine sm_aload_n 0 rfl d_mo_readOpenings_49 ?_
          refine sm_bipush (v := 6) (by decide) d_mo_readOpenings_50 ?_
          obtain ⟨r10, g11, c12, hf⟩ := sm_b2E hf
          refine sm_callV (As := [.int 6]) (rv := some (.int r10)) (h1 := g11) (c := 10) cvv_mo_173 rfl rfl e0 (m_mo_opens l lo hi _ e0 c12) rfl rfl d_mo_readOpenings_52 ?_
          refine sm_if_ne 60 d_mo_readOpenings_55 rfl (fun c13 => ?_) (fun c13 => ?_)
          · have hf := sm_ifF c13 hf
            refine sm_aload_n 0 rfl d_mo_readOpenings_60 ?_
            obtain ⟨g14, c15, hf⟩ := sm_bindE hf
            refine sm_callV (As := []) (rv := none) (h1 := g14) (c := 10) cvv_mo_145 rfl rfl e0 (m_mo_passWord l lo hi _ e0 c15) rfl rfl d_mo_readOpenings_61 ?_
            refine sm_goto 0 d_mo_readOpenings_64 rfl ?_
            exact ih _ _ e0 hf
          · have hf := sm_ifT c13 hf
            refine sm_iconst (v := 0) (by decide) d_mo_readOpenings_58 ?_
            obtain ⟨rfl, rfl⟩ := sm_ret2 hf
            exact sm_bret (by decide) d_mo_readOpenings_59 rfl
        · have hf := sm_ifF c9 hf
          refine sm_iconst (v := 1) (by decide) d_mo_readOpenings_47 ?_
          obtain ⟨rfl, rfl⟩ := sm_ret2 hf
          exact sm_bret (by decide) d_mo_readOpenings_48 rfl
      · have hf := sm_ifT c8 hf
        refine sm_iconst (v := 0) (by decide) d_mo_readOpenings_34 ?_
        obtain ⟨rfl, rfl⟩ := sm_ret2 hf
        exact sm_bret (by decide) d_mo_readOpenings_35 rfl
    · have hf := sm_ifT c4 hf
      refine sm_aload_n 0 rfl d_mo_readOpenings_9 ?_
      refine sm_bipush (v := 9) (by decide) d_mo_readOpenings_10 ?_
      obtain ⟨r16, g17, c18, hf⟩ := sm_b2E hf
      refine sm_callV (As := [.int 9]) (rv := some (.int r16)) (h1 := g17) (c := 10) cvv_mo_173 rfl rfl e0 (m_mo_opens l lo hi _ e0 c18) rfl rfl d_mo_readOpenings_12 ?_
      refine sm_if_ne 20 d_mo_readOpenings_15 rfl (fun c19 => ?_) (fun c19 => ?_)
      · have hf := sm_ifF c19 hf
        refine sm_aload_n 0 rfl d_mo_readOpenings_20 ?_
        obtain ⟨g20, c21, hf⟩ := sm_bindE hf
        refine sm_callV (As := []) (rv := none) (h1 := g20) (c := 10) cvv_mo_154 rfl rfl e0 (m_mo_passSign l lo hi _ e0 c21) rfl rfl d_mo_readOpenings_21 ?_
        refine sm_goto 0 d_mo_readOpenings_24 rfl ?_
        exact ih _ _ e0 hf
      · have hf := sm_ifT c19 hf
        refine sm_iconst (v := 0) (by decide) d_mo_readOpenings_18 ?_
        obtain ⟨rfl, rfl⟩ := sm_ret2 hf
        exact sm_bret (by decide) d_mo_readOpenings_19 rfl
theorem m_mo_readOpenings (l : Launch) (lo hi d : Nat) {a0 : Nat} {r0 : Int32} {h h' : sm_H} (e0 : sm_at lo hi (0, 10, 0) a0) (hf : f_mo_readOpenings a0 h = some (r0, h')) : sm_Met l lo hi (d + 3) q_mo_readOpenings [.ref a0] h (some (.int r0)) h' := by
  refine sm_Met.of (by decide +kernel) rfl ?_
  show sm_W l lo hi (d + 3) q_mo_readOpenings 0 [(0, .ref a0)] [] h (some (.int r0)) h'
  unfold f_mo_readOpenings at hf
  exact w_mo_readOpenings_L0 l lo hi d sm_N _ _ e0 hf
theorem d_mo_readTestOf_0 : decode q_mo_readTestOf.2.1 0 = .ok (.aload_n 0, 1) := by decide +kernel
theorem d_mo_readTestOf_1 : decode q_mo_readTestOf.2.1 1 = .ok (.invokevirtual 145, 3) := by decide +kernel
theorem d_mo_readTestOf_4 : decode q_mo_readTestOf.2.1 4 = .ok (.aload_n 0, 1) := by decide +kernel
theorem d_mo_readTestOf_5 : decode q_mo_readTestOf.2.1 5 = .ok (.iconst 0, 1) := by decide +kernel
theorem d_mo_readTestOf_6 : decode q_mo_readTestOf.2.1 6 = .ok (.iload_n 2, 1) := by decide +kernel
theorem d_mo_readTestOf_7 : decode q_mo_readTestOf.2.1 7 = .ok (.invokevirtual 178, 3) := by decide +kernel
theorem d_mo_readTestOf_10 : decode q_mo_readTestOf.2.1 10 = .ok (.ifCond .ne 5, 3) := by decide +kernel
theorem d_mo_readTestOf_13 : decode q_mo_readTestOf.2.1 13 = .ok (.iconst 0, 1) := by decide +kernel
theorem d_mo_readTestOf_14 : decode q_mo_readTestOf.2.1 14 = .ok (.ireturn, 1) := by decide +kernel
theorem d_mo_readTestOf_15 : decode q_mo_readTestOf.2.1 15 = .ok (.aload_n 0, 1) := by decide +kernel
theorem d_mo_readTestOf_16 : decode q_mo_readTestOf.2.1 16 = .ok (.iload_n 1, 1) := by decide +kernel
theorem d_mo_readTestOf_17 : decode q_mo_readTestOf.2.1 17 = .ok (.aload_n 0, 1) := by decide +kernel
theorem d_mo_readTestOf_18 : decode q_mo_readTestOf.2.1 18 = .ok (.getfield 151, 3) := by decide +kernel
theorem d_mo_readTestOf_21 : decode q_mo_readTestOf.2.1 21 = .ok (.invokevirtual 163, 3) := by decide +kernel
theorem d_mo_readTestOf_24 : decode q_mo_readTestOf.2.1 24 = .ok (.iconst 1, 1) := by decide +kernel
theorem d_mo_readTestOf_25 : decode q_mo_readTestOf.2.1 25 = .ok (.ireturn, 1) := by decide +kernel
theorem m_mo_readTestOf (l : Launch) (lo hi d : Nat) {a0 : Nat} {a1 : Int32} {a2 : Int32} {r0 : Int32} {h h' : sm_H} (e0 : sm_at lo hi (0, 10, 0) a0) (hf : f_mo_readTestOf a0 a1 a2 h = some (r0, h')) : sm_Met l lo hi (d + 3) q_mo_readTestOf [.ref a0, .int a1, .int a2] h (some (.int r0)) h' := by
  refine sm_Met.of (by decide +kernel) rfl ?_
  show sm_W l lo hi (d + 3) q_mo_readTestOf 0 [(0, .ref a0), (1, .int a1), (2, .int a2)] [] h (some (.int r0)) h'
  unfold f_mo_readTestOf at hf
  refine sm_aload_n 0 rfl d_mo_readTestOf_0 ?_
  obtain ⟨g1, c2, hf⟩ := sm_bindE hf
  refine sm_callV (As := []) (rv := none) (h1 := g1) (c := 10) cvv_mo_145 rfl rfl e0 (m_mo_passWord l lo hi _ e0 c2) rfl rfl d_mo_readTestOf_1 ?_
  refine sm_aload_n 0 rfl d_mo_readTestOf_4 ?_
  refine sm_iconst (v := 0) (by decide) d_mo_readTestOf_5 ?_
  refine sm_iload_n 2 rfl d_mo_readTestOf_6 ?_
  obtain ⟨r3, g4, c5, hf⟩ := sm_b2E hf
  refine sm_callV (As := [.int 0, .int a2]) (rv := some (.int r3)) (h1 := g4) (c := 10) cvv_mo_178 rfl rfl e0 (m_mo_readNumber l lo hi _ e0 c5) rfl rfl d_mo_readTestOf_7 ?_
  refine sm_if_ne 15 d_mo_readTestOf_10 rfl (fun c6 => ?_) (fun c6 => ?_)
  · have hf := sm_ifF c6 hf
    refine sm_aload_n 0 rfl d_mo_readTestOf_15 ?_
    refine sm_iload_n 1 rfl d_mo_readTestOf_16 ?_
    refine sm_aload_n 0 rfl d_mo_readTestOf_17 ?_
    refine sm_getI fl_mo_151 e0 rfl d_mo_readTestOf_18 ?_
    obtain ⟨g7, c8, hf⟩ := sm_bindE hf
    refine sm_callV (As := [.int a1, .int (g4 a0 14)]) (rv := none) (h1 := g7) (c := 10) cvv_mo_163 rfl rfl e0 (m_mo_emit l lo hi _ e0 c8) rfl rfl d_mo_readTestOf_21 ?_
    refine sm_iconst (v := 1) (by decide) d_mo_readTestOf_24 ?_
    obtain ⟨rfl, rfl⟩ := sm_ret2 hf
    exact sm_bret (by decide) d_mo_readTestOf_25 rfl
  · have hf := sm_ifT c6 hf
    refine sm_iconst (v := 0) (by decide) d_mo_readTestOf_13 ?_
    obtain ⟨rfl, rfl⟩ := sm_ret2 hf
    exact sm_bret (by decide) d_mo_readTestOf_14 rfl
theorem d_mo_readTest_0 : decode q_mo_readTest.2.1 0 = .ok (.aload_n 0, 1) := by decide +kernel
theorem d_mo_readTest_1 : decode q_mo_readTest.2.1 1 = .ok (.getfield 133, 3) := by decide +kernel
theorem d_mo_readTest_4 : decode q_mo_readTest.2.1 4 = .ok (.ldc2_w 181, 3) := by decide +kernel
theorem d_mo_readTest_7 : decode q_mo_readTest.2.1 7 = .ok (.lcmp, 1) := by decide +kernel
theorem d_mo_readTest_8 : decode q_mo_readTest.2.1 8 = .ok (.ifCond .ne 17, 3) := by decide +kernel
theorem d_mo_readTest_11 : decode q_mo_readTest.2.1 11 = .ok (.aload_n 0, 1) := by decide +kernel
theorem d_mo_readTest_12 : decode q_mo_readTest.2.1 12 = .ok (.iconst 0, 1) := by decide +kernel
theorem d_mo_readTest_13 : decode q_mo_readTest.2.1 13 = .ok (.aload_n 0, 1) := by decide +kernel
theorem d_mo_readTest_14 : decode q_mo_readTest.2.1 14 = .ok (.getfield 13, 3) := by decide +kernel
theorem d_mo_readTest_17 : decode q_mo_readTest.2.1 17 = .ok (.iconst 0, 1) := by decide +kernel
theorem d_mo_readTest_18 : decode q_mo_readTest.2.1 18 = .ok (.iaload, 1) := by decide +kernel
theorem d_mo_readTest_19 : decode q_mo_readTest.2.1 19 = .ok (.iconst 1, 1) := by decide +kernel
theorem d_mo_readTest_20 : decode q_mo_readTest.2.1 20 = .ok (.isub, 1) := by decide +kernel
theorem d_mo_readTest_21 : decode q_mo_readTest.2.1 21 = .ok (.invokevirtual 183, 3) := by decide +kernel
theorem d_mo_readTest_24 : decode q_mo_readTest.2.1 24 = .ok (.ireturn, 1) := by decide +kernel
theorem d_mo_readTest_25 : decode q_mo_readTest.2.1 25 = .ok (.aload_n 0, 1) := by decide +kernel
theorem d_mo_readTest_26 : decode q_mo_readTest.2.1 26 = .ok (.getfield 133, 3) := by decide +kernel
theorem d_mo_readTest_29 : decode q_mo_readTest.2.1 29 = .ok (.ldc2_w 186, 3) := by decide +kernel
theorem d_mo_readTest_32 : decode q_mo_readTest.2.1 32 = .ok (.lcmp, 1) := by decide +kernel
theorem d_mo_readTest_33 : decode q_mo_readTest.2.1 33 = .ok (.ifCond .ne 17, 3) := by decide +kernel
theorem d_mo_readTest_36 : decode q_mo_readTest.2.1 36 = .ok (.aload_n 0, 1) := by decide +kernel
theorem d_mo_readTest_37 : decode q_mo_readTest.2.1 37 = .ok (.iconst 1, 1) := by decide +kernel
theorem d_mo_readTest_38 : decode q_mo_readTest.2.1 38 = .ok (.aload_n 0, 1) := by decide +kernel
theorem d_mo_readTest_39 : decode q_mo_readTest.2.1 39 = .ok (.getfield 13, 3) := by decide +kernel
theorem d_mo_readTest_42 : decode q_mo_readTest.2.1 42 = .ok (.iconst 0, 1) := by decide +kernel
theorem d_mo_readTest_43 : decode q_mo_readTest.2.1 43 = .ok (.iaload, 1) := by decide +kernel
theorem d_mo_readTest_44 : decode q_mo_readTest.2.1 44 = .ok (.iconst 1, 1) := by decide +kernel
theorem d_mo_readTest_45 : decode q_mo_readTest.2.1 45 = .ok (.isub, 1) := by decide +kernel
theorem d_mo_readTest_46 : decode q_mo_readTest.2.1 46 = .ok (.invokevirtual 183, 3) := by decide +kernel
theorem d_mo_readTest_49 : decode q_mo_readTest.2.1 49 = .ok (.ireturn, 1) := by decide +kernel
theorem d_mo_readTest_50 : decode q_mo_readTest.2.1 50 = .ok (.aload_n 0, 1) := by decide +kernel
theorem d_mo_readTest_51 : decode q_mo_readTest.2.1 51 = .ok (.getfield 133, 3) := by decide +kernel
theorem d_mo_readTest_54 : decode q_mo_readTest.2.1 54 = .ok (.ldc2_w 188, 3) := by decide +kernel
theorem d_mo_readTest_57 : decode q_mo_readTest.2.1 57 = .ok (.lcmp, 1) := by decide +kernel
theorem d_mo_readTest_58 : decode q_mo_readTest.2.1 58 = .ok (.ifCond .ne 17, 3) := by decide +kernel
theorem d_mo_readTest_61 : decode q_mo_readTest.2.1 61 = .ok (.aload_n 0, 1) := by decide +kernel
theorem d_mo_readTest_62 : decode q_mo_readTest.2.1 62 = .ok (.iconst 2, 1) := by decide +kernel
theorem d_mo_readTest_63 : decode q_mo_readTest.2.1 63 = .ok (.aload_n 0, 1) := by decide +kernel
theorem d_mo_readTest_64 : decode q_mo_readTest.2.1 64 = .ok (.getfield 13, 3) := by decide +kernel
theorem d_mo_readTest_67 : decode q_mo_readTest.2.1 67 = .ok (.iconst 3, 1) := by decide +kernel
theorem d_mo_readTest_68 : decode q_mo_readTest.2.1 68 = .ok (.iaload, 1) := by decide +kernel
theorem d_mo_readTest_69 : decode q_mo_readTest.2.1 69 = .ok (.iconst 1, 1) := by decide +kernel
theorem d_mo_readTest_70 : decode q_mo_readTest.2.1 70 = .ok (.isub, 1) := by decide +kernel
theorem d_mo_readTest_71 : decode q_mo_readTest.2.1 71 = .ok (.invokevirtual 183, 3) := by decide +kernel
theorem d_mo_readTest_74 : decode q_mo_readTest.2.1 74 = .ok (.ireturn, 1) := by decide +kernel
theorem d_mo_readTest_75 : decode q_mo_readTest.2.1 75 = .ok (.aload_n 0, 1) := by decide +kernel
theorem d_mo_readTest_76 : decode q_mo_readTest.2.1 76 = .ok (.getfield 133, 3) := by decide +kernel
theorem d_mo_readTest_79 : decode q_mo_readTest.2.1 79 = .ok (.ldc2_w 190, 3) := by decide +kernel
theorem d_mo_readTest_82 : decode q_mo_readTest.2.1 82 = .ok (.lcmp, 1) := by decide +kernel
theorem d_mo_readTest_83 : decode q_mo_readTest.2.1 83 = .ok (.ifCond .ne 12, 3) := by decide +kernel
theorem d_mo_readTest_86 : decode q_mo_readTest.2.1 86 = .ok (.aload_n 0, 1) := by decide +kernel
theorem d_mo_readTest_87 : decode q_mo_readTest.2.1 87 = .ok (.iconst 3, 1) := by decide +kernel
theorem d_mo_readTest_88 : decode q_mo_readTest.2.1 88 = .ok (.sipush 999, 3) := by decide +kernel
theorem d_mo_readTest_91 : decode q_mo_readTest.2.1 91 = .ok (.invokevirtual 183, 3) := by decide +kernel
theorem d_mo_readTest_94 : decode q_mo_readTest.2.1 94 = .ok (.ireturn, 1) := by decide +kernel
theorem d_mo_readTest_95 : decode q_mo_readTest.2.1 95 = .ok (.aload_n 0, 1) := by decide +kernel
theorem d_mo_readTest_96 : decode q_mo_readTest.2.1 96 = .ok (.getfield 133, 3) := by decide +kernel
theorem d_mo_readTest_99 : decode q_mo_readTest.2.1 99 = .ok (.ldc2_w 192, 3) := by decide +kernel
theorem d_mo_readTest_102 : decode q_mo_readTest.2.1 102 = .ok (.lcmp, 1) := by decide +kernel
theorem d_mo_readTest_103 : decode q_mo_readTest.2.1 103 = .ok (.ifCond .ne 17, 3) := by decide +kernel
theorem d_mo_readTest_106 : decode q_mo_readTest.2.1 106 = .ok (.aload_n 0, 1) := by decide +kernel
theorem d_mo_readTest_107 : decode q_mo_readTest.2.1 107 = .ok (.iconst 4, 1) := by decide +kernel
theorem d_mo_readTest_108 : decode q_mo_readTest.2.1 108 = .ok (.aload_n 0, 1) := by decide +kernel
theorem d_mo_readTest_109 : decode q_mo_readTest.2.1 109 = .ok (.getfield 13, 3) := by decide +kernel
theorem d_mo_readTest_112 : decode q_mo_readTest.2.1 112 = .ok (.iconst 2, 1) := by decide +kernel
theorem d_mo_readTest_113 : decode q_mo_readTest.2.1 113 = .ok (.iaload, 1) := by decide +kernel
theorem d_mo_readTest_114 : decode q_mo_readTest.2.1 114 = .ok (.iconst 1, 1) := by decide +kernel
theorem d_mo_readTest_115 : decode q_mo_readTest.2.1 115 = .ok (.isub, 1) := by decide +kernel
theorem d_mo_readTest_116 : decode q_mo_readTest.2.1 116 = .ok (.invokevirtual 183, 3) := by decide +kernel
theorem d_mo_readTest_119 : decode q_mo_readTest.2.1 119 = .ok (.ireturn, 1) := by decide +kernel
theorem d_mo_readTest_120 : decode q_mo_readTest.2.1 120 = .ok (.aload_n 0, 1) := by decide +kernel
theorem d_mo_readTest_121 : decode q_mo_readTest.2.1 121 = .ok (.getfield 133, 3) := by decide +kernel
theorem d_mo_readTest_124 : decode q_mo_readTest.2.1 124 = .ok (.ldc2_w 194, 3) := by decide +kernel
theorem d_mo_readTest_127 : decode q_mo_readTest.2.1 127 = .ok (.lcmp, 1) := by decide +kernel
theorem d_mo_readTest_128 : decode q_mo_readTest.2.1 128 = .ok (.ifCond .eq 13, 3) := by decide +kernel
theorem d_mo_readTest_131 : decode q_mo_readTest.2.1 131 = .ok (.aload_n 0, 1) := by decide +kernel
theorem d_mo_readTest_132 : decode q_mo_readTest.2.1 132 = .ok (.iconst 1, 1) := by decide +kernel
theorem d_mo_readTest_133 : decode q_mo_readTest.2.1 133 = .ok (.aload_n 0, 1) := by decide +kernel
theorem d_mo_readTest_134 : decode q_mo_readTest.2.1 134 = .ok (.getfield 115, 3) := by decide +kernel
theorem d_mo_readTest_137 : decode q_mo_readTest.2.1 137 = .ok (.invokevirtual 129, 3) := by decide +kernel
theorem d_mo_readTest_140 : decode q_mo_readTest.2.1 140 = .ok (.ireturn, 1) := by decide +kernel
theorem d_mo_readTest_141 : decode q_mo_readTest.2.1 141 = .ok (.aload_n 0, 1) := by decide +kernel
theorem d_mo_readTest_142 : decode q_mo_readTest.2.1 142 = .ok (.invokevirtual 145, 3) := by decide +kernel
theorem d_mo_readTest_145 : decode q_mo_readTest.2.1 145 = .ok (.aload_n 0, 1) := by decide +kernel
theorem d_mo_readTest_146 : decode q_mo_readTest.2.1 146 = .ok (.iconst 5, 1) := by decide +kernel
theorem d_mo_readTest_147 : decode q_mo_readTest.2.1 147 = .ok (.iconst 0, 1) := by decide +kernel
theorem d_mo_readTest_148 : decode q_mo_readTest.2.1 148 = .ok (.invokevirtual 163, 3) := by decide +kernel
theorem d_mo_readTest_151 : decode q_mo_readTest.2.1 151 = .ok (.iconst 1, 1) := by decide +kernel
theorem d_mo_readTest_152 : decode q_mo_readTest.2.1 152 = .ok (.ireturn, 1) := by decide +kernel
theorem m_mo_readTest (l : Launch) (lo hi d : Nat) {a0 : Nat} {r0 : Int32} {h h' : sm_H} (e0 : sm_at lo hi (0, 10, 0) a0) (hf : f_mo_readTest a0 h = some (r0, h')) : sm_Met l lo hi (d + 4) q_mo_readTest [.ref a0] h (some (.int r0)) h' := by
  refine sm_Met.of (by decide +kernel) rfl ?_
  show sm_W l lo hi (d + 4) q_mo_readTest 0 [(0, .ref a0)] [] h (some (.int r0)) h'
  unfold f_mo_readTest at hf
  refine sm_aload_n 0 rfl d_mo_readTest_0 ?_
  refine sm_getL fl_mo_133 e0 rfl d_mo_readTest_1 ?_
  refine sm_ldc2 (v := 1443405) (sm_mq6 201 (by decide +kernel) rfl) d_mo_readTest_4 ?_
  refine sm_lcmp d_mo_readTest_7 ?_
  refine sm_if_ne 25 d_mo_readTest_8 rfl (fun c1 => ?_) (fun c1 => ?_)
  · have hf := sm_ifF c1 hf
    refine sm_aload_n 0 rfl d_mo_readTest_25 ?_
    refine sm_getL fl_mo_133 e0 rfl d_mo_readTest_26 ?_
    refine sm_ldc2 (v := 6605428) (sm_mq6 210 (by decide +kernel) rfl) d_mo_readTest_29 ?_
    refine sm_lcmp d_mo_readTest_32 ?_
    refine sm_if_ne 50 d_mo_readTest_33 rfl (fun c2 => ?_) (fun c2 => ?_)
    · have hf := sm_ifF c2 hf
      refine sm_aload_n 0 rfl d_mo_readTest_50 ?_
      refine sm_getL fl_mo_133 e0 rfl d_mo_readTest_51 ?_
      refine sm_ldc2 (v := 43058) (sm_mq6 211 (by decide +kernel) rfl) d_mo_readTest_54 ?_
      refine sm_lcmp d_mo_readTest_57 ?_
      refine sm_if_ne 75 d_mo_readTest_58 rfl (fun c3 => ?_) (fun c3 => ?_)
      · have hf := sm_ifF c3 hf
        refine sm_aload_n 0 rfl d_mo_readTest_75 ?_
        refine sm_getL fl_mo_133 e0 rfl d_mo_readTest_76 ?_
        refine sm_ldc2 (v := 1265842) (sm_mq6 212 (by decide +kernel) rfl) d_mo_readTest_79 ?_
        refine sm_lcmp d_mo_readTest_82 ?_
        refine sm_if_ne 95 d_mo_readTest_83 rfl (fun c4 => ?_) (fun c4 => ?_)
        · have hf := sm_ifF c4 hf
          refine sm_aload_n 0 rfl d_mo_readTest_95 ?_
          refine sm_getL fl_mo_133 e0 rfl d_mo_readTest_96 ?_
          refine sm_ldc2 (v := 20047144391) (sm_mq6 213 (by decide +kernel) rfl) d_mo_readTest_99 ?_
          refine sm_lcmp d_mo_readTest_102 ?_
          refine sm_if_ne 120 d_mo_readTest_103 rfl (fun c5 => ?_) (fun c5 => ?_)
          · have hf := sm_ifF c5 hf
            refine sm_aload_n 0 rfl d_mo_readTest_120 ?_
            refine sm_getL fl_mo_133 e0 rfl d_mo_readTest_121 ?_
            refine sm_ldc2 (v := 22095235461) (sm_mq6 214 (by decide +kernel) rfl) d_mo_readTest_124 ?_
            refine sm_lcmp d_mo_readTest_127 ?_
            refine sm_if_eq 141 d_mo_readTest_128 rfl (fun c6 => ?_) (fun c6 => ?_)
            · have hf := sm_ifT c6 hf
              refine sm_aload_n 0 rfl d_mo_readTest_141 ?_
              obtain ⟨g7, c8, hf⟩ := sm_bindE hf
              refine sm_callV (As := []) (rv := none) (h1 := g7) (c := 10) cvv_mo_145 rfl rfl e0 (m_mo_passWord l lo hi _ e0 c8) rfl rfl d_mo_readTest_142 ?_
              refine sm_aload_n 0 rfl d_mo_readTest_145 ?_
              refine sm_iconst (v := 5) (by decide) d_mo_readTest_146 ?_
              refine sm_iconst (v := 0) (by decide) d_mo_readTest_147 ?_
              obtain ⟨g9, c10, hf⟩ := sm_bindE hf
              refine sm_callV (As := [.int 5, .int 0]) (rv := none) (h1 := g9) (c := 10) cvv_mo_163 rfl rfl e0 (m_mo_emit l lo hi _ e0 c10) rfl rfl d_mo_readTest_148 ?_
              refine sm_iconst (v := 1) (by decide) d_mo_readTest_151 ?_
              obtain ⟨rfl, rfl⟩ := sm_ret2 hf
              exact sm_bret (by decide) d_mo_readTest_152 rfl
            · have hf := sm_ifF c6 hf
              refine sm_aload_n 0 rfl d_mo_readTest_131 ?_
              refine sm_iconst (v := 1) (by decide) d_mo_readTest_132 ?_
              refine sm_aload_n 0 rfl d_mo_readTest_133 ?_
              refine sm_getI fl_mo_115 e0 rfl d_mo_readTest_134 ?_
              obtain ⟨r11, g12, c13, hf⟩ := sm_b2E hf
              refine sm_callV (As := [.int 1, .int (h a0 13)]) (rv := some (.int r11)) (h1 := g12) (c := 10) cvv_mo_129 rfl rfl e0 (m_mo_fails l lo hi _ e0 c13) rfl rfl d_mo_readTest_137 ?_
              obtain ⟨c14, hf⟩ := sm_gdE hf
              obtain ⟨rfl, rfl⟩ := sm_ret2 hf
              exact sm_bret c14 d_mo_readTest_140 rfl
          · have hf := sm_ifT c5 hf
            refine sm_aload_n 0 rfl d_mo_readTest_106 ?_
            refine sm_iconst (v := 4) (by decide) d_mo_readTest_107 ?_
            refine sm_aload_n 0 rfl d_mo_readTest_108 ?_
            refine sm_getR (n := 2) fl_mo_13 e0 rfl d_mo_readTest_109 ?_
            refine sm_iconst (v := 2) (by decide) d_mo_readTest_112 ?_
            obtain ⟨c15, hf⟩ := sm_gdE hf
            refine sm_iald (sm_at_arr (sm_inner e0 1 rfl rfl rfl)) c15 d_mo_readTest_113 ?_
            refine sm_iconst (v := 1) (by decide) d_mo_readTest_114 ?_
            refine sm_isub d_mo_readTest_115 ?_
            obtain ⟨r16, g17, c18, hf⟩ := sm_b2E hf
            refine sm_callV (As := [.int 4, .int ((h (a0 + 2) (2 : Int32).toNatClampNeg) - 1)]) (rv := some (.int r16)) (h1 := g17) (c := 10) cvv_mo_183 rfl rfl e0 (m_mo_readTestOf l lo hi _ e0 c18) rfl rfl d_mo_readTest_116 ?_
            obtain ⟨c19, hf⟩ := sm_gdE hf
            obtain ⟨rfl, rfl⟩ := sm_ret2 hf
            exact sm_bret c19 d_mo_readTest_119 rfl
        · have hf := sm_ifT c4 hf
          refine sm_aload_n 0 rfl d_mo_readTest_86 ?_
          refine sm_iconst (v := 3) (by decide) d_mo_readTest_87 ?_
          refine sm_sipush (v := 999) (by decide) d_mo_readTest_88 ?_
          obtain ⟨r20, g21, c22, hf⟩ := sm_b2E hf
          refine sm_callV (As := [.int 3, .int 999]) (rv := some (.int r20)) (h1 := g21) (c := 10) cvv_mo_183 rfl rfl e0 (m_mo_readTestOf l lo hi _ e0 c22) rfl rfl d_mo_readTest_91 ?_
          obtain ⟨c23, hf⟩ := sm_gdE hf
          obtain ⟨rfl, rfl⟩ := sm_ret2 hf
          exact sm_bret c23 d_mo_readTest_94 rfl
      · have hf := sm_ifT c3 hf
        refine sm_aload_n 0 rfl d_mo_readTest_61 ?_
        refine sm_iconst (v := 2) (by decide) d_mo_readTest_62 ?_
        refine sm_aload_n 0 rfl d_mo_readTest_63 ?_
        refine sm_getR (n := 2) fl_mo_13 e0 rfl d_mo_readTest_64 ?_
        refine sm_iconst (v := 3) (by decide) d_mo_readTest_67 ?_
        obtain ⟨c24, hf⟩ := sm_gdE hf
        refine sm_iald (sm_at_arr (sm_inner e0 1 rfl rfl rfl)) c24 d_mo_readTest_68 ?_
        refine sm_iconst (v := 1) (by decide) d_mo_readTest_69 ?_
        refine sm_isub d_mo_readTest_70 ?_
        obtain ⟨r25, g26, c27, hf⟩ := sm_b2E hf
        refine sm_callV (As := [.int 2, .int ((h (a0 + 2) (3 : Int32).toNatClampNeg) - 1)]) (rv := some (.int r25)) (h1 := g26) (c := 10) cvv_mo_183 rfl rfl e0 (m_mo_readTestOf l lo hi _ e0 c27) rfl rfl d_mo_readTest_71 ?_
        obtain ⟨c28, hf⟩ := sm_gdE hf
        obtain ⟨rfl, rfl⟩ := sm_ret2 hf
        exact sm_bret c28 d_mo_readTest_74 rfl
    · have hf := sm_ifT c2 hf
      refine sm_aload_n 0 rfl d_mo_readTest_36 ?_
      refine sm_iconst (v := 1) (by decide) d_mo_readTest_37 ?_
      refine sm_aload_n 0 rfl d_mo_readTest_38 ?_
      refine sm_getR (n := 2) fl_mo_13 e0 rfl d_mo_readTest_39 ?_
      refine sm_iconst (v := 0) (by decide) d_mo_readTest_42 ?_
      obtain ⟨c29, hf⟩ := sm_gdE hf
      refine sm_iald (sm_at_arr (sm_inner e0 1 rfl rfl rfl)) c29 d_mo_readTest_43 ?_
      refine sm_iconst (v := 1) (by decide) d_mo_readTest_44 ?_
      refine sm_isub d_mo_readTest_45 ?_
      obtain ⟨r30, g31, c32, hf⟩ := sm_b2E hf
      refine sm_callV (As := [.int 1, .int ((h (a0 + 2) (0 : Int32).toNatClampNeg) - 1)]) (rv := some (.int r30)) (h1 := g31) (c := 10) cvv_mo_183 rfl rfl e0 (m_mo_readTestOf l lo hi _ e0 c32) rfl rfl d_mo_readTest_46 ?_
      obtain ⟨c33, hf⟩ := sm_gdE hf
      obtain ⟨rfl, rfl⟩ := sm_ret2 hf
      exact sm_bret c33 d_mo_readTest_49 rfl
  · have hf := sm_ifT c1 hf
    refine sm_aload_n 0 rfl d_mo_readTest_11 ?_
    refine sm_iconst (v := 0) (by decide) d_mo_readTest_12 ?_
    refine sm_aload_n 0 rfl d_mo_readTest_13 ?_
    refine sm_getR (n := 2) fl_mo_13 e0 rfl d_mo_readTest_14 ?_
    refine sm_iconst (v := 0) (by decide) d_mo_readTest_17 ?_
    obtain ⟨c34, hf⟩ := sm_gdE hf
    refine sm_iald (sm_at_arr (sm_inner e0 1 rfl rfl rfl)) c34 d_mo_readTest_18 ?_
    refine sm_iconst (v := 1) (by decide) d_mo_readTest_19 ?_
    refine sm_isub d_mo_readTest_20 ?_
    obtain ⟨r35, g36, c37, hf⟩ := sm_b2E hf
    refine sm_callV (As := [.int 0, .int ((h (a0 + 2) (0 : Int32).toNatClampNeg) - 1)]) (rv := some (.int r35)) (h1 := g36) (c := 10) cvv_mo_183 rfl rfl e0 (m_mo_readTestOf l lo hi _ e0 c37) rfl rfl d_mo_readTest_21 ?_
    obtain ⟨c38, hf⟩ := sm_gdE hf
    obtain ⟨rfl, rfl⟩ := sm_ret2 hf
    exact sm_bret c38 d_mo_readTest_24 rfl
theorem d_mo_passClosings_0 : decode q_mo_passClosings.2.1 0 = .ok (.aload_n 0, 1) := by decide +kernel
theorem d_mo_passClosings_1 : decode q_mo_passClosings.2.1 1 = .ok (.iconst 3, 1) := by decide +kernel
theorem d_mo_passClosings_2 : decode q_mo_passClosings.2.1 2 = .ok (.invokevirtual 196, 3) := by decide +kernel
theorem d_mo_passClosings_5 : decode q_mo_passClosings.2.1 5 = .ok (.aload_n 0, 1) := by decide +kernel
theorem d_mo_passClosings_6 : decode q_mo_passClosings.2.1 6 = .ok (.invokevirtual 118, 3) := by decide +kernel
theorem d_mo_passClosings_9 : decode q_mo_passClosings.2.1 9 = .ok (.bipush 41, 2) := by decide +kernel
theorem d_mo_passClosings_11 : decode q_mo_passClosings.2.1 11 = .ok (.if_icmp .ne 47, 3) := by decide +kernel
theorem d_mo_passClosings_14 : decode q_mo_passClosings.2.1 14 = .ok (.aload_n 0, 1) := by decide +kernel
theorem d_mo_passClosings_15 : decode q_mo_passClosings.2.1 15 = .ok (.invokevirtual 199, 3) := by decide +kernel
theorem d_mo_passClosings_18 : decode q_mo_passClosings.2.1 18 = .ok (.ifCond .eq 40, 3) := by decide +kernel
theorem d_mo_passClosings_21 : decode q_mo_passClosings.2.1 21 = .ok (.aload_n 0, 1) := by decide +kernel
theorem d_mo_passClosings_22 : decode q_mo_passClosings.2.1 22 = .ok (.iconst 1, 1) := by decide +kernel
theorem d_mo_passClosings_23 : decode q_mo_passClosings.2.1 23 = .ok (.invokevirtual 196, 3) := by decide +kernel
theorem d_mo_passClosings_26 : decode q_mo_passClosings.2.1 26 = .ok (.aload_n 0, 1) := by decide +kernel
theorem d_mo_passClosings_27 : decode q_mo_passClosings.2.1 27 = .ok (.aload_n 0, 1) := by decide +kernel
theorem d_mo_passClosings_28 : decode q_mo_passClosings.2.1 28 = .ok (.getfield 157, 3) := by decide +kernel
theorem d_mo_passClosings_31 : decode q_mo_passClosings.2.1 31 = .ok (.iconst 1, 1) := by decide +kernel
theorem d_mo_passClosings_32 : decode q_mo_passClosings.2.1 32 = .ok (.isub, 1) := by decide +kernel
theorem d_mo_passClosings_33 : decode q_mo_passClosings.2.1 33 = .ok (.putfield 157, 3) := by decide +kernel
theorem d_mo_passClosings_36 : decode q_mo_passClosings.2.1 36 = .ok (.aload_n 0, 1) := by decide +kernel
theorem d_mo_passClosings_37 : decode q_mo_passClosings.2.1 37 = .ok (.aload_n 0, 1) := by decide +kernel
theorem d_mo_passClosings_38 : decode q_mo_passClosings.2.1 38 = .ok (.getfield 167, 3) := by decide +kernel
theorem d_mo_passClosings_41 : decode q_mo_passClosings.2.1 41 = .ok (.iconst 1, 1) := by decide +kernel
theorem d_mo_passClosings_42 : decode q_mo_passClosings.2.1 42 = .ok (.isub, 1) := by decide +kernel
theorem d_mo_passClosings_43 : decode q_mo_passClosings.2.1 43 = .ok (.putfield 167, 3) := by decide +kernel
theorem d_mo_passClosings_46 : decode q_mo_passClosings.2.1 46 = .ok (.aload_n 0, 1) := by decide +kernel
theorem d_mo_passClosings_47 : decode q_mo_passClosings.2.1 47 = .ok (.invokevirtual 154, 3) := by decide +kernel
theorem d_mo_passClosings_50 : decode q_mo_passClosings.2.1 50 = .ok (.aload_n 0, 1) := by decide +kernel
theorem d_mo_passClosings_51 : decode q_mo_passClosings.2.1 51 = .ok (.iconst 3, 1) := by decide +kernel
theorem d_mo_passClosings_52 : decode q_mo_passClosings.2.1 52 = .ok (.invokevirtual 196, 3) := by decide +kernel
theorem d_mo_passClosings_55 : decode q_mo_passClosings.2.1 55 = .ok (.goto (-50), 3) := by decide +kernel
theorem d_mo_passClosings_58 : decode q_mo_passClosings.2.1 58 = .ok (.return_, 1) := by decide +kernel
theorem w_mo_passClosings_L5 (l : Launch) (lo hi d : Nat) {h' : sm_H} : ∀ (n : Nat) (a0 : Nat) (h : sm_H) (e0 : sm_at lo hi (0, 10, 0) a0) (hf : f_mo_passClosings_L5 n a0 h = some h'), sm_W l lo hi (d + 2) q_mo_passClosings 5 [(0, .ref a0)] [] h none h' := by
  intro n
  induction n with
  | zero =>
    intro a0 h e0 hf
    have z : (none : Option sm_H) = some _ := hf
    cases z
  | succ n ih =>
    intro a0 h e0 hf
    unfold f_mo_passClosings_L5 at hf
    refine sm_aload_n 0 rfl d_mo_passClosings_5 ?_
    obtain ⟨r3, g4, c5, hf⟩ := sm_b2E hf
    refine sm_callV (As := []) (rv := some (.int r3)) (h1 := g4) (c := 10) cvv_mo_118 rfl rfl e0 (m_mo_peek l lo hi _ e0 c5) rfl rfl d_mo_passClosings_6 ?_
    refine sm_bipush (v := 41) (by decide) d_mo_passClosings_9 ?_
    refine sm_icmp_ne 58 d_mo_passClosings_11 rfl (fun c6 => ?_) (fun c6 => ?_)
    · have hf := sm_ifF c6 hf
      obtain rfl := sm_ret1 hf
      exact sm_vret d_mo_passClosings_58 rfl
    · have hf := sm_ifT c6 hf
      refine sm_aload_n 0 rfl d_mo_passClosings_14 ?_
      obtain ⟨r7, g8, c9, hf⟩ := sm_b2E hf
      refine sm_callV (As := []) (rv := some (.int r7)) (h1 := g8) (c := 10) cvv_mo_199 rfl rfl e0 (m_mo_isInside l lo hi _ e0 c9) rfl rfl d_mo_passClosings_15 ?_
      refine sm_if_eq 58 d_mo_passClosings_18 rfl (fun c10 => ?_) (fun c10 => ?_)
      · have hf := sm_ifT c10 hf
        obtain rfl := sm_ret1 hf
        exact sm_vret d_mo_passClosings_58 rfl
      · have hf := sm_ifF c10 hf
        refine sm_aload_n 0 rfl d_mo_passClosings_21 ?_
        refine sm_iconst (v := 1) (by decide) d_mo_passClosings_22 ?_
        obtain ⟨g11, c12, hf⟩ := sm_bindE hf
        refine sm_callV (As := [.int 1]) (rv := none) (h1 := g11) (c := 10) cvv_mo_196 rfl rfl e0 (m_mo_settle l lo hi _ e0 c12) rfl rfl d_mo_passClosings_23 ?_
        refine sm_aload_n 0 rfl d_mo_passClosings_26 ?_
        refine sm_aload_n 0 rfl d_mo_passClosings_27 ?_
        refine sm_getI fl_mo_157 e0 rfl d_mo_passClosings_28 ?_
        refine sm_iconst (v := 1) (by decide) d_mo_passClosings_31 ?_
        refine sm_isub d_mo_passClosings_32 ?_
        refine sm_putI fp_mo_157 e0 rfl rfl d_mo_passClosings_33 ?_
        refine sm_nmH (fun g13 w14 => ?_)
        have hf := sm_letV w14 hf
        refine sm_aload_n 0 rfl d_mo_passClosings_36 ?_
        refine sm_aload_n 0 rfl d_mo_passClosings_37 ?_
        refine sm_getI fl_mo_167 e0 rfl d_mo_passClosings_38 ?_
        refine sm_iconst (v := 1) (by decide) d_mo_passClosings_41 ?_
        refine sm_isub d_mo_passClosings_42 ?_
        refine sm_putI fp_mo_167 e0 rfl rfl d_mo_passClosings_43 ?_
        refine sm_nmH (fun g15 w16 => ?_)
        have hf := sm_letV w16 hf
        refine sm_aload_n 0 rfl d_mo_passClosings_46 ?_
        obtain ⟨g17, c18, hf⟩ := sm_bindE hf
        refine sm_callV (As := []) (rv := none) (h1 := g17) (c := 10) cvv_mo_154 rfl rfl e0 (m_mo_passSign l lo hi _ e0 c18) rfl rfl d_mo_passClosings_47 ?_
        refine sm_aload_n 0 rfl d_mo_passClosings_50 ?_
        refine sm_iconst (v := 3) (by decide) d_mo_passClosings_51 ?_
        obtain ⟨g19, c20, hf⟩ := sm_bindE hf
        refine sm_callV (As := [.int 3]) (rv := none) (h1 := g19) (c := 10) cvv_mo_196 rfl rfl e0 (m_mo_settle l lo hi _ e0 c20) rfl rfl d_mo_passClosings_52 ?_
        refine sm_goto 5 d_mo_passClosings_55 rfl ?_
        exact ih _ _ e0 hf
theorem m_mo_passClosings (l : Launch) (lo hi d : Nat) {a0 : Nat} {h h' : sm_H} (e0 : sm_at lo hi (0, 10, 0) a0) (hf : f_mo_passClosings a0 h = some h') : sm_Met l lo hi (d + 2) q_mo_passClosings [.ref a0] h none h' := by
  refine sm_Met.of (by decide +kernel) rfl ?_
  show sm_W l lo hi (d + 2) q_mo_passClosings 0 [(0, .ref a0)] [] h none h'
  unfold f_mo_passClosings at hf
  refine sm_aload_n 0 rfl d_mo_passClosings_0 ?_
  refine sm_iconst (v := 3) (by decide) d_mo_passClosings_1 ?_
  obtain ⟨g1, c2, hf⟩ := sm_bindE hf
  refine sm_callV (As := [.int 3]) (rv := none) (h1 := g1) (c := 10) cvv_mo_196 rfl rfl e0 (m_mo_settle l lo hi _ e0 c2) rfl rfl d_mo_passClosings_2 ?_
  exact w_mo_passClosings_L5 l lo hi d sm_N _ _ e0 hf
theorem d_mo_readCondition_0 : decode q_mo_readCondition.2.1 0 = .ok (.aload_n 0, 1) := by decide +kernel
theorem d_mo_readCondition_1 : decode q_mo_readCondition.2.1 1 = .ok (.iconst 0, 1) := by decide +kernel
theorem d_mo_readCondition_2 : decode q_mo_readCondition.2.1 2 = .ok (.putfield 157, 3) := by decide +kernel
theorem d_mo_readCondition_5 : decode q_mo_readCondition.2.1 5 = .ok (.aload_n 0, 1) := by decide +kernel
theorem d_mo_readCondition_6 : decode q_mo_readCondition.2.1 6 = .ok (.iconst 0, 1) := by decide +kernel
theorem d_mo_readCondition_7 : decode q_mo_readCondition.2.1 7 = .ok (.putfield 167, 3) := by decide +kernel
theorem d_mo_readCondition_10 : decode q_mo_readCondition.2.1 10 = .ok (.aload_n 0, 1) := by decide +kernel
theorem d_mo_readCondition_11 : decode q_mo_readCondition.2.1 11 = .ok (.invokevirtual 202, 3) := by decide +kernel
theorem d_mo_readCondition_14 : decode q_mo_readCondition.2.1 14 = .ok (.ifCond .eq 10, 3) := by decide +kernel
theorem d_mo_readCondition_17 : decode q_mo_readCondition.2.1 17 = .ok (.aload_n 0, 1) := by decide +kernel
theorem d_mo_readCondition_18 : decode q_mo_readCondition.2.1 18 = .ok (.invokevirtual 205, 3) := by decide +kernel
theorem d_mo_readCondition_21 : decode q_mo_readCondition.2.1 21 = .ok (.ifCond .ne 5, 3) := by decide +kernel
theorem d_mo_readCondition_24 : decode q_mo_readCondition.2.1 24 = .ok (.iconst 0, 1) := by decide +kernel
theorem d_mo_readCondition_25 : decode q_mo_readCondition.2.1 25 = .ok (.ireturn, 1) := by decide +kernel
theorem d_mo_readCondition_26 : decode q_mo_readCondition.2.1 26 = .ok (.aload_n 0, 1) := by decide +kernel
theorem d_mo_readCondition_27 : decode q_mo_readCondition.2.1 27 = .ok (.invokevirtual 208, 3) := by decide +kernel
theorem d_mo_readCondition_30 : decode q_mo_readCondition.2.1 30 = .ok (.aload_n 0, 1) := by decide +kernel
theorem d_mo_readCondition_31 : decode q_mo_readCondition.2.1 31 = .ok (.invokevirtual 141, 3) := by decide +kernel
theorem d_mo_readCondition_34 : decode q_mo_readCondition.2.1 34 = .ok (.ifCond .ne 5, 3) := by decide +kernel
theorem d_mo_readCondition_37 : decode q_mo_readCondition.2.1 37 = .ok (.iconst 0, 1) := by decide +kernel
theorem d_mo_readCondition_38 : decode q_mo_readCondition.2.1 38 = .ok (.ireturn, 1) := by decide +kernel
theorem d_mo_readCondition_39 : decode q_mo_readCondition.2.1 39 = .ok (.aload_n 0, 1) := by decide +kernel
theorem d_mo_readCondition_40 : decode q_mo_readCondition.2.1 40 = .ok (.getfield 133, 3) := by decide +kernel
theorem d_mo_readCondition_43 : decode q_mo_readCondition.2.1 43 = .ok (.ldc2_w 211, 3) := by decide +kernel
theorem d_mo_readCondition_46 : decode q_mo_readCondition.2.1 46 = .ok (.lcmp, 1) := by decide +kernel
theorem d_mo_readCondition_47 : decode q_mo_readCondition.2.1 47 = .ok (.ifCond .eq 14, 3) := by decide +kernel
theorem d_mo_readCondition_50 : decode q_mo_readCondition.2.1 50 = .ok (.aload_n 0, 1) := by decide +kernel
theorem d_mo_readCondition_51 : decode q_mo_readCondition.2.1 51 = .ok (.getfield 133, 3) := by decide +kernel
theorem d_mo_readCondition_54 : decode q_mo_readCondition.2.1 54 = .ok (.ldc2_w 213, 3) := by decide +kernel
theorem d_mo_readCondition_57 : decode q_mo_readCondition.2.1 57 = .ok (.lcmp, 1) := by decide +kernel
theorem d_mo_readCondition_58 : decode q_mo_readCondition.2.1 58 = .ok (.ifCond .ne 7, 3) := by decide +kernel
theorem d_mo_readCondition_61 : decode q_mo_readCondition.2.1 61 = .ok (.iconst 1, 1) := by decide +kernel
theorem d_mo_readCondition_62 : decode q_mo_readCondition.2.1 62 = .ok (.goto 4, 3) := by decide +kernel
theorem d_mo_readCondition_65 : decode q_mo_readCondition.2.1 65 = .ok (.iconst 0, 1) := by decide +kernel
theorem d_mo_readCondition_66 : decode q_mo_readCondition.2.1 66 = .ok (.istore_n 1, 1) := by decide +kernel
theorem d_mo_readCondition_67 : decode q_mo_readCondition.2.1 67 = .ok (.iload_n 1, 1) := by decide +kernel
theorem d_mo_readCondition_68 : decode q_mo_readCondition.2.1 68 = .ok (.ifCond .ne 31, 3) := by decide +kernel
theorem d_mo_readCondition_71 : decode q_mo_readCondition.2.1 71 = .ok (.aload_n 0, 1) := by decide +kernel
theorem d_mo_readCondition_72 : decode q_mo_readCondition.2.1 72 = .ok (.getfield 133, 3) := by decide +kernel
theorem d_mo_readCondition_75 : decode q_mo_readCondition.2.1 75 = .ok (.ldc2_w 215, 3) := by decide +kernel
theorem d_mo_readCondition_78 : decode q_mo_readCondition.2.1 78 = .ok (.lcmp, 1) := by decide +kernel
theorem d_mo_readCondition_79 : decode q_mo_readCondition.2.1 79 = .ok (.ifCond .ne 10, 3) := by decide +kernel
theorem d_mo_readCondition_82 : decode q_mo_readCondition.2.1 82 = .ok (.aload_n 0, 1) := by decide +kernel
theorem d_mo_readCondition_83 : decode q_mo_readCondition.2.1 83 = .ok (.invokevirtual 199, 3) := by decide +kernel
theorem d_mo_readCondition_86 : decode q_mo_readCondition.2.1 86 = .ok (.ifCond .eq 13, 3) := by decide +kernel
theorem d_mo_readCondition_89 : decode q_mo_readCondition.2.1 89 = .ok (.aload_n 0, 1) := by decide +kernel
theorem d_mo_readCondition_90 : decode q_mo_readCondition.2.1 90 = .ok (.iconst 1, 1) := by decide +kernel
theorem d_mo_readCondition_91 : decode q_mo_readCondition.2.1 91 = .ok (.aload_n 0, 1) := by decide +kernel
theorem d_mo_readCondition_92 : decode q_mo_readCondition.2.1 92 = .ok (.getfield 115, 3) := by decide +kernel
theorem d_mo_readCondition_95 : decode q_mo_readCondition.2.1 95 = .ok (.invokevirtual 129, 3) := by decide +kernel
theorem d_mo_readCondition_98 : decode q_mo_readCondition.2.1 98 = .ok (.ireturn, 1) := by decide +kernel
theorem d_mo_readCondition_99 : decode q_mo_readCondition.2.1 99 = .ok (.aload_n 0, 1) := by decide +kernel
theorem d_mo_readCondition_100 : decode q_mo_readCondition.2.1 100 = .ok (.invokevirtual 145, 3) := by decide +kernel
theorem d_mo_readCondition_103 : decode q_mo_readCondition.2.1 103 = .ok (.aload_n 0, 1) := by decide +kernel
theorem d_mo_readCondition_104 : decode q_mo_readCondition.2.1 104 = .ok (.getfield 133, 3) := by decide +kernel
theorem d_mo_readCondition_107 : decode q_mo_readCondition.2.1 107 = .ok (.ldc2_w 211, 3) := by decide +kernel
theorem d_mo_readCondition_110 : decode q_mo_readCondition.2.1 110 = .ok (.lcmp, 1) := by decide +kernel
theorem d_mo_readCondition_111 : decode q_mo_readCondition.2.1 111 = .ok (.ifCond .ne 8, 3) := by decide +kernel
theorem d_mo_readCondition_114 : decode q_mo_readCondition.2.1 114 = .ok (.bipush 7, 2) := by decide +kernel
theorem d_mo_readCondition_116 : decode q_mo_readCondition.2.1 116 = .ok (.goto 5, 3) := by decide +kernel
theorem d_mo_readCondition_119 : decode q_mo_readCondition.2.1 119 = .ok (.bipush 8, 2) := by decide +kernel
theorem d_mo_readCondition_121 : decode q_mo_readCondition.2.1 121 = .ok (.istore_n 2, 1) := by decide +kernel
theorem d_mo_readCondition_122 : decode q_mo_readCondition.2.1 122 = .ok (.aload_n 0, 1) := by decide +kernel
theorem d_mo_readCondition_123 : decode q_mo_readCondition.2.1 123 = .ok (.iload_n 1, 1) := by decide +kernel
theorem d_mo_readCondition_124 : decode q_mo_readCondition.2.1 124 = .ok (.ifCond .eq 10, 3) := by decide +kernel
theorem d_mo_readCondition_127 : decode q_mo_readCondition.2.1 127 = .ok (.iload_n 2, 1) := by decide +kernel
theorem d_mo_readCondition_128 : decode q_mo_readCondition.2.1 128 = .ok (.invokestatic 160, 3) := by decide +kernel
theorem d_mo_readCondition_131 : decode q_mo_readCondition.2.1 131 = .ok (.goto 4, 3) := by decide +kernel
theorem d_mo_readCondition_134 : decode q_mo_readCondition.2.1 134 = .ok (.iconst 1, 1) := by decide +kernel
theorem d_mo_readCondition_135 : decode q_mo_readCondition.2.1 135 = .ok (.invokevirtual 196, 3) := by decide +kernel
theorem d_mo_readCondition_138 : decode q_mo_readCondition.2.1 138 = .ok (.iload_n 1, 1) := by decide +kernel
theorem d_mo_readCondition_139 : decode q_mo_readCondition.2.1 139 = .ok (.ifCond .ne 5, 3) := by decide +kernel
theorem d_mo_readCondition_142 : decode q_mo_readCondition.2.1 142 = .ok (.iconst 1, 1) := by decide +kernel
theorem d_mo_readCondition_143 : decode q_mo_readCondition.2.1 143 = .ok (.ireturn, 1) := by decide +kernel
theorem d_mo_readCondition_144 : decode q_mo_readCondition.2.1 144 = .ok (.aload_n 0, 1) := by decide +kernel
theorem d_mo_readCondition_145 : decode q_mo_readCondition.2.1 145 = .ok (.iload_n 2, 1) := by decide +kernel
theorem d_mo_readCondition_146 : decode q_mo_readCondition.2.1 146 = .ok (.invokevirtual 170, 3) := by decide +kernel
theorem d_mo_readCondition_149 : decode q_mo_readCondition.2.1 149 = .ok (.goto (-139), 3) := by decide +kernel
theorem w_mo_readCondition_L135 (l : Launch) (lo hi d : Nat) {k10 : Nat → sm_H → Option (Int32 × sm_H)} {h' : sm_H} {r0 : Int32} (hk10 : ∀ (a0 : Nat) (h : sm_H) (_ : sm_at lo hi (0, 10, 0) a0) , k10 a0 h = some (r0, h') → sm_W l lo hi (d + 5) q_mo_readCondition 10 [(0, .ref a0)] [] h (some (.int r0)) h') (a0 : Nat) (a1 : Int32) (a2 : Int32) (s0 : Int32) (s1 : Nat) (h : sm_H) (e0 : sm_at lo hi (0, 10, 0) a0) (t1 : sm_at lo hi (0, 10, 0) s1) (hf : f_mo_readCondition_L135 k10 a0 a1 a2 s0 s1 h = some (r0, h')) : sm_W l lo hi (d + 5) q_mo_readCondition 135 [(0, .ref a0), (1, .int a1), (2, .int a2)] [.int s0, .ref s1] h (some (.int r0)) h' := by
  unfold f_mo_readCondition_L135 at hf
  obtain ⟨g38, c39, hf⟩ := sm_bindE hf
  refine sm_callV (As := [.int s0]) (rv := none) (h1 := g38) (c := 10) cvv_mo_196 rfl rfl t1 (m_mo_settle l lo hi _ t1 c39) rfl rfl d_mo_readCondition_135 ?_
  refine sm_iload_n 1 rfl d_mo_readCondition_138 ?_
  refine sm_if_ne 144 d_mo_readCondition_139 rfl (fun c40 => ?_) (fun c40 => ?_)
  · have hf := sm_ifF c40 hf
    refine sm_aload_n 0 rfl d_mo_readCondition_144 ?_
    refine sm_iload_n 2 rfl d_mo_readCondition_145 ?_
    obtain ⟨g41, c42, hf⟩ := sm_bindE hf
    refine sm_callV (As := [.int a2]) (rv := none) (h1 := g41) (c := 10) cvv_mo_170 rfl rfl e0 (m_mo_push l lo hi _ e0 c42) rfl rfl d_mo_readCondition_146 ?_
    refine sm_goto 10 d_mo_readCondition_149 rfl ?_
    refine sm_sub [0] rfl ?_
    exact hk10 _ _ e0 hf
  · have hf := sm_ifT c40 hf
    refine sm_iconst (v := 1) (by decide) d_mo_readCondition_142 ?_
    obtain ⟨rfl, rfl⟩ := sm_ret2 hf
    exact sm_bret (by decide) d_mo_readCondition_143 rfl
theorem w_mo_readCondition_L121 (l : Launch) (lo hi d : Nat) {k10 : Nat → sm_H → Option (Int32 × sm_H)} {h' : sm_H} {r0 : Int32} (hk10 : ∀ (a0 : Nat) (h : sm_H) (_ : sm_at lo hi (0, 10, 0) a0) , k10 a0 h = some (r0, h') → sm_W l lo hi (d + 5) q_mo_readCondition 10 [(0, .ref a0)] [] h (some (.int r0)) h') (a0 : Nat) (a1 : Int32) (s0 : Int32) (h : sm_H) (e0 : sm_at lo hi (0, 10, 0) a0) (hf : f_mo_readCondition_L121 k10 a0 a1 s0 h = some (r0, h')) : sm_W l lo hi (d + 5) q_mo_readCondition 121 [(0, .ref a0), (1, .int a1)] [.int s0] h (some (.int r0)) h' := by
  unfold f_mo_readCondition_L121 at hf
  refine sm_istore_n (lv' := [(2, .int s0), (0, .ref a0), (1, .int a1)]) d_mo_readCondition_121 rfl rfl ?_
  refine sm_aload_n 1 rfl d_mo_readCondition_122 ?_
  refine sm_iload_n 2 rfl d_mo_readCondition_123 ?_
  refine sm_if_eq 134 d_mo_readCondition_124 rfl (fun c34 => ?_) (fun c34 => ?_)
  · have hf := sm_ifT c34 hf
    refine sm_iconst (v := 1) (by decide) d_mo_readCondition_134 ?_
    refine sm_sub [1, 2, 0] rfl ?_
    exact w_mo_readCondition_L135 l lo hi d hk10 _ _ _ _ _ _ e0 e0 hf
  · have hf := sm_ifF c34 hf
    refine sm_iload_n 0 rfl d_mo_readCondition_127 ?_
    obtain ⟨r35, g36, c37, hf⟩ := sm_b2E hf
    refine sm_callS (As := [.int s0]) (rv := some (.int r35)) (h1 := g36) cvs_mo_160 (m_mo_strength l lo hi _ c37) rfl rfl d_mo_readCondition_128 ?_
    refine sm_goto 135 d_mo_readCondition_131 rfl ?_
    refine sm_sub [1, 2, 0] rfl ?_
    exact w_mo_readCondition_L135 l lo hi d hk10 _ _ _ _ _ _ e0 e0 hf
theorem w_mo_readCondition_L99 (l : Launch) (lo hi d : Nat) {k10 : Nat → sm_H → Option (Int32 × sm_H)} {h' : sm_H} {r0 : Int32} (hk10 : ∀ (a0 : Nat) (h : sm_H) (_ : sm_at lo hi (0, 10, 0) a0) , k10 a0 h = some (r0, h') → sm_W l lo hi (d + 5) q_mo_readCondition 10 [(0, .ref a0)] [] h (some (.int r0)) h') (a0 : Nat) (a1 : Int32) (h : sm_H) (e0 : sm_at lo hi (0, 10, 0) a0) (hf : f_mo_readCondition_L99 k10 a0 a1 h = some (r0, h')) : sm_W l lo hi (d + 5) q_mo_readCondition 99 [(0, .ref a0), (1, .int a1)] [] h (some (.int r0)) h' := by
  unfold f_mo_readCondition_L99 at hf
  refine sm_aload_n 0 rfl d_mo_readCondition_99 ?_
  obtain ⟨g31, c32, hf⟩ := sm_bindE hf
  refine sm_callV (As := []) (rv := none) (h1 := g31) (c := 10) cvv_mo_145 rfl rfl e0 (m_mo_passWord l lo hi _ e0 c32) rfl rfl d_mo_readCondition_100 ?_
  refine sm_aload_n 0 rfl d_mo_readCondition_103 ?_
  refine sm_getL fl_mo_133 e0 rfl d_mo_readCondition_104 ?_
  refine sm_ldc2 (v := 1476) (sm_mq6 230 (by decide +kernel) rfl) d_mo_readCondition_107 ?_
  refine sm_lcmp d_mo_readCondition_110 ?_
  refine sm_if_ne 119 d_mo_readCondition_111 rfl (fun c33 => ?_) (fun c33 => ?_)
  · have hf := sm_ifF c33 hf
    refine sm_bipush (v := 8) (by decide) d_mo_readCondition_119 ?_
    exact w_mo_readCondition_L121 l lo hi d hk10 _ _ _ _ e0 hf
  · have hf := sm_ifT c33 hf
    refine sm_bipush (v := 7) (by decide) d_mo_readCondition_114 ?_
    refine sm_goto 121 d_mo_readCondition_116 rfl ?_
    exact w_mo_readCondition_L121 l lo hi d hk10 _ _ _ _ e0 hf
theorem w_mo_readCondition_L89 (l : Launch) (lo hi d : Nat) {h' : sm_H} {r0 : Int32} (a0 : Nat) (h : sm_H) (e0 : sm_at lo hi (0, 10, 0) a0) (hf : f_mo_readCondition_L89 a0 h = some (r0, h')) : sm_W l lo hi (d + 5) q_mo_readCondition 89 [(0, .ref a0)] [] h (some (.int r0)) h' := by
  unfold f_mo_readCondition_L89 at hf
  refine sm_aload_n 0 rfl d_mo_readCondition_89 ?_
  refine sm_iconst (v := 1) (by decide) d_mo_readCondition_90 ?_
  refine sm_aload_n 0 rfl d_mo_readCondition_91 ?_
  refine sm_getI fl_mo_115 e0 rfl d_mo_readCondition_92 ?_
  obtain ⟨r27, g28, c29, hf⟩ := sm_b2E hf
  refine sm_callV (As := [.int 1, .int (h a0 13)]) (rv := some (.int r27)) (h1 := g28) (c := 10) cvv_mo_129 rfl rfl e0 (m_mo_fails l lo hi _ e0 c29) rfl rfl d_mo_readCondition_95 ?_
  obtain ⟨c30, hf⟩ := sm_gdE hf
  obtain ⟨rfl, rfl⟩ := sm_ret2 hf
  exact sm_bret c30 d_mo_readCondition_98 rfl
theorem w_mo_readCondition_L66 (l : Launch) (lo hi d : Nat) {k10 : Nat → sm_H → Option (Int32 × sm_H)} {h' : sm_H} {r0 : Int32} (hk10 : ∀ (a0 : Nat) (h : sm_H) (_ : sm_at lo hi (0, 10, 0) a0) , k10 a0 h = some (r0, h') → sm_W l lo hi (d + 5) q_mo_readCondition 10 [(0, .ref a0)] [] h (some (.int r0)) h') (a0 : Nat) (s0 : Int32) (h : sm_H) (e0 : sm_at lo hi (0, 10, 0) a0) (hf : f_mo_readCondition_L66 k10 a0 s0 h = some (r0, h')) : sm_W l lo hi (d + 5) q_mo_readCondition 66 [(0, .ref a0)] [.int s0] h (some (.int r0)) h' := by
  unfold f_mo_readCondition_L66 at hf
  refine sm_istore_n (lv' := [(1, .int s0), (0, .ref a0)]) d_mo_readCondition_66 rfl rfl ?_
  refine sm_iload_n 0 rfl d_mo_readCondition_67 ?_
  refine sm_if_ne 99 d_mo_readCondition_68 rfl (fun c21 => ?_) (fun c21 => ?_)
  · have hf := sm_ifF c21 hf
    refine sm_sub [1, 0] rfl ?_
    exact w_mo_readCondition_L99 l lo hi d hk10 _ _ _ e0 hf
  · have hf := sm_ifT c21 hf
    refine sm_aload_n 1 rfl d_mo_readCondition_71 ?_
    refine sm_getL fl_mo_133 e0 rfl d_mo_readCondition_72 ?_
    refine sm_ldc2 (v := 143) (sm_mq6 232 (by decide +kernel) rfl) d_mo_readCondition_75 ?_
    refine sm_lcmp d_mo_readCondition_78 ?_
    refine sm_if_ne 89 d_mo_readCondition_79 rfl (fun c22 => ?_) (fun c22 => ?_)
    · have hf := sm_ifF c22 hf
      refine sm_sub [1] rfl ?_
      exact w_mo_readCondition_L89 l lo hi d _ _ e0 hf
    · have hf := sm_ifT c22 hf
      refine sm_aload_n 1 rfl d_mo_readCondition_82 ?_
      obtain ⟨r23, g24, c25, hf⟩ := sm_b2E hf
      refine sm_callV (As := []) (rv := some (.int r23)) (h1 := g24) (c := 10) cvv_mo_199 rfl rfl e0 (m_mo_isInside l lo hi _ e0 c25) rfl rfl d_mo_readCondition_83 ?_
      refine sm_if_eq 99 d_mo_readCondition_86 rfl (fun c26 => ?_) (fun c26 => ?_)
      · have hf := sm_ifT c26 hf
        refine sm_sub [1, 0] rfl ?_
        exact w_mo_readCondition_L99 l lo hi d hk10 _ _ _ e0 hf
      · have hf := sm_ifF c26 hf
        refine sm_sub [1] rfl ?_
        exact w_mo_readCondition_L89 l lo hi d _ _ e0 hf
theorem w_mo_readCondition_L61 (l : Launch) (lo hi d : Nat) {k10 : Nat → sm_H → Option (Int32 × sm_H)} {h' : sm_H} {r0 : Int32} (hk10 : ∀ (a0 : Nat) (h : sm_H) (_ : sm_at lo hi (0, 10, 0) a0) , k10 a0 h = some (r0, h') → sm_W l lo hi (d + 5) q_mo_readCondition 10 [(0, .ref a0)] [] h (some (.int r0)) h') (a0 : Nat) (h : sm_H) (e0 : sm_at lo hi (0, 10, 0) a0) (hf : f_mo_readCondition_L61 k10 a0 h = some (r0, h')) : sm_W l lo hi (d + 5) q_mo_readCondition 61 [(0, .ref a0)] [] h (some (.int r0)) h' := by
  unfold f_mo_readCondition_L61 at hf
  refine sm_iconst (v := 1) (by decide) d_mo_readCondition_61 ?_
  refine sm_goto 66 d_mo_readCondition_62 rfl ?_
  exact w_mo_readCondition_L66 l lo hi d hk10 _ _ _ e0 hf
theorem w_mo_readCondition_L10 (l : Launch) (lo hi d : Nat) {h' : sm_H} {r0 : Int32} : ∀ (n : Nat) (a0 : Nat) (h : sm_H) (e0 : sm_at lo hi (0, 10, 0) a0) (hf : f_mo_readCondition_L10 n a0 h = some (r0, h')), sm_W l lo hi (d + 5) q_mo_readCondition 10 [(0, .ref a0)] [] h (some (.int r0)) h' := by
  intro n
  induction n with
  | zero =>
    intro a0 h e0 hf
    have z : (none : Option (Int32 × sm_H)) = some _ := hf
    cases z
  | succ n ih =>
    intro a0 h e0 hf
    unfold f_mo_readCondition_L10 at hf
    refine sm_aload_n 0 rfl d_mo_readCondition_10 ?_
    obtain ⟨r5, g6, c7, hf⟩ := sm_b2E hf
    refine sm_callV (As := []) (rv := some (.int r5)) (h1 := g6) (c := 10) cvv_mo_202 rfl rfl e0 (m_mo_readOpenings l lo hi _ e0 c7) rfl rfl d_mo_readCondition_11 ?_
    refine sm_if_eq 24 d_mo_readCondition_14 rfl (fun c8 => ?_) (fun c8 => ?_)
    · have hf := sm_ifT c8 hf
      refine sm_iconst (v := 0) (by decide) d_mo_readCondition_24 ?_
      obtain ⟨rfl, rfl⟩ := sm_ret2 hf
      exact sm_bret (by decide) d_mo_readCondition_25 rfl
    · have hf := sm_ifF c8 hf
      refine sm_aload_n 0 rfl d_mo_readCondition_17 ?_
      obtain ⟨r9, g10, c11, hf⟩ := sm_b2E hf
      refine sm_callV (As := []) (rv := some (.int r9)) (h1 := g10) (c := 10) cvv_mo_205 rfl rfl e0 (m_mo_readTest l lo hi _ e0 c11) rfl rfl d_mo_readCondition_18 ?_
      refine sm_if_ne 26 d_mo_readCondition_21 rfl (fun c12 => ?_) (fun c12 => ?_)
      · have hf := sm_ifF c12 hf
        refine sm_aload_n 0 rfl d_mo_readCondition_26 ?_
        obtain ⟨g13, c14, hf⟩ := sm_bindE hf
        refine sm_callV (As := []) (rv := none) (h1 := g13) (c := 10) cvv_mo_208 rfl rfl e0 (m_mo_passClosings l lo hi _ e0 c14) rfl rfl d_mo_readCondition_27 ?_
        refine sm_aload_n 0 rfl d_mo_readCondition_30 ?_
        obtain ⟨r15, g16, c17, hf⟩ := sm_b2E hf
        refine sm_callV (As := []) (rv := some (.int r15)) (h1 := g16) (c := 10) cvv_mo_141 rfl rfl e0 (m_mo_seesWord l lo hi _ e0 c17) rfl rfl d_mo_readCondition_31 ?_
        refine sm_if_ne 39 d_mo_readCondition_34 rfl (fun c18 => ?_) (fun c18 => ?_)
        · have hf := sm_ifF c18 hf
          refine sm_aload_n 0 rfl d_mo_readCondition_39 ?_
          refine sm_getL fl_mo_133 e0 rfl d_mo_readCondition_40 ?_
          refine sm_ldc2 (v := 1476) (sm_mq6 230 (by decide +kernel) rfl) d_mo_readCondition_43 ?_
          refine sm_lcmp d_mo_readCondition_46 ?_
          refine sm_if_eq 61 d_mo_readCondition_47 rfl (fun c19 => ?_) (fun c19 => ?_)
          · have hf := sm_ifT c19 hf
            exact w_mo_readCondition_L61 l lo hi d ih _ _ e0 hf
          · have hf := sm_ifF c19 hf
            refine sm_aload_n 0 rfl d_mo_readCondition_50 ?_
            refine sm_getL fl_mo_133 e0 rfl d_mo_readCondition_51 ?_
            refine sm_ldc2 (v := 498) (sm_mq6 231 (by decide +kernel) rfl) d_mo_readCondition_54 ?_
            refine sm_lcmp d_mo_readCondition_57 ?_
            refine sm_if_ne 65 d_mo_readCondition_58 rfl (fun c20 => ?_) (fun c20 => ?_)
            · have hf := sm_ifF c20 hf
              refine sm_iconst (v := 0) (by decide) d_mo_readCondition_65 ?_
              exact w_mo_readCondition_L66 l lo hi d ih _ _ _ e0 hf
            · have hf := sm_ifT c20 hf
              exact w_mo_readCondition_L61 l lo hi d ih _ _ e0 hf
        · have hf := sm_ifT c18 hf
          refine sm_iconst (v := 0) (by decide) d_mo_readCondition_37 ?_
          obtain ⟨rfl, rfl⟩ := sm_ret2 hf
          exact sm_bret (by decide) d_mo_readCondition_38 rfl
      · have hf := sm_ifT c12 hf
        refine sm_iconst (v := 0) (by decide) d_mo_readCondition_24 ?_
        obtain ⟨rfl, rfl⟩ := sm_ret2 hf
        exact sm_bret (by decide) d_mo_readCondition_25 rfl
theorem m_mo_readCondition (l : Launch) (lo hi d : Nat) {a0 : Nat} {r0 : Int32} {h h' : sm_H} (e0 : sm_at lo hi (0, 10, 0) a0) (hf : f_mo_readCondition a0 h = some (r0, h')) : sm_Met l lo hi (d + 5) q_mo_readCondition [.ref a0] h (some (.int r0)) h' := by
  refine sm_Met.of (by decide +kernel) rfl ?_
  show sm_W l lo hi (d + 5) q_mo_readCondition 0 [(0, .ref a0)] [] h (some (.int r0)) h'
  unfold f_mo_readCondition at hf
  refine sm_aload_n 0 rfl d_mo_readCondition_0 ?_
  refine sm_iconst (v := 0) (by decide) d_mo_readCondition_1 ?_
  refine sm_putI fp_mo_157 e0 rfl rfl d_mo_readCondition_2 ?_
  refine sm_nmH (fun g1 w2 => ?_)
  have hf := sm_letV w2 hf
  refine sm_aload_n 0 rfl d_mo_readCondition_5 ?_
  refine sm_iconst (v := 0) (by decide) d_mo_readCondition_6 ?_
  refine sm_putI fp_mo_167 e0 rfl rfl d_mo_readCondition_7 ?_
  refine sm_nmH (fun g3 w4 => ?_)
  have hf := sm_letV w4 hf
  exact w_mo_readCondition_L10 l lo hi d sm_N _ _ e0 hf
theorem d_mo_actionHere_0 : decode q_mo_actionHere.2.1 0 = .ok (.aload_n 0, 1) := by decide +kernel
theorem d_mo_actionHere_1 : decode q_mo_actionHere.2.1 1 = .ok (.getfield 133, 3) := by decide +kernel
theorem d_mo_actionHere_4 : decode q_mo_actionHere.2.1 4 = .ok (.ldc2_w 217, 3) := by decide +kernel
theorem d_mo_actionHere_7 : decode q_mo_actionHere.2.1 7 = .ok (.lcmp, 1) := by decide +kernel
theorem d_mo_actionHere_8 : decode q_mo_actionHere.2.1 8 = .ok (.ifCond .ne 5, 3) := by decide +kernel
theorem d_mo_actionHere_11 : decode q_mo_actionHere.2.1 11 = .ok (.iconst 0, 1) := by decide +kernel
theorem d_mo_actionHere_12 : decode q_mo_actionHere.2.1 12 = .ok (.ireturn, 1) := by decide +kernel
theorem d_mo_actionHere_13 : decode q_mo_actionHere.2.1 13 = .ok (.aload_n 0, 1) := by decide +kernel
theorem d_mo_actionHere_14 : decode q_mo_actionHere.2.1 14 = .ok (.getfield 133, 3) := by decide +kernel
theorem d_mo_actionHere_17 : decode q_mo_actionHere.2.1 17 = .ok (.ldc2_w 219, 3) := by decide +kernel
theorem d_mo_actionHere_20 : decode q_mo_actionHere.2.1 20 = .ok (.lcmp, 1) := by decide +kernel
theorem d_mo_actionHere_21 : decode q_mo_actionHere.2.1 21 = .ok (.ifCond .ne 5, 3) := by decide +kernel
theorem d_mo_actionHere_24 : decode q_mo_actionHere.2.1 24 = .ok (.iconst 1, 1) := by decide +kernel
theorem d_mo_actionHere_25 : decode q_mo_actionHere.2.1 25 = .ok (.ireturn, 1) := by decide +kernel
theorem d_mo_actionHere_26 : decode q_mo_actionHere.2.1 26 = .ok (.aload_n 0, 1) := by decide +kernel
theorem d_mo_actionHere_27 : decode q_mo_actionHere.2.1 27 = .ok (.getfield 133, 3) := by decide +kernel
theorem d_mo_actionHere_30 : decode q_mo_actionHere.2.1 30 = .ok (.ldc2_w 221, 3) := by decide +kernel
theorem d_mo_actionHere_33 : decode q_mo_actionHere.2.1 33 = .ok (.lcmp, 1) := by decide +kernel
theorem d_mo_actionHere_34 : decode q_mo_actionHere.2.1 34 = .ok (.ifCond .ne 5, 3) := by decide +kernel
theorem d_mo_actionHere_37 : decode q_mo_actionHere.2.1 37 = .ok (.iconst 2, 1) := by decide +kernel
theorem d_mo_actionHere_38 : decode q_mo_actionHere.2.1 38 = .ok (.ireturn, 1) := by decide +kernel
theorem d_mo_actionHere_39 : decode q_mo_actionHere.2.1 39 = .ok (.aload_n 0, 1) := by decide +kernel
theorem d_mo_actionHere_40 : decode q_mo_actionHere.2.1 40 = .ok (.getfield 133, 3) := by decide +kernel
theorem d_mo_actionHere_43 : decode q_mo_actionHere.2.1 43 = .ok (.ldc2_w 223, 3) := by decide +kernel
theorem d_mo_actionHere_46 : decode q_mo_actionHere.2.1 46 = .ok (.lcmp, 1) := by decide +kernel
theorem d_mo_actionHere_47 : decode q_mo_actionHere.2.1 47 = .ok (.ifCond .ne 5, 3) := by decide +kernel
theorem d_mo_actionHere_50 : decode q_mo_actionHere.2.1 50 = .ok (.iconst 3, 1) := by decide +kernel
theorem d_mo_actionHere_51 : decode q_mo_actionHere.2.1 51 = .ok (.ireturn, 1) := by decide +kernel
theorem d_mo_actionHere_52 : decode q_mo_actionHere.2.1 52 = .ok (.aload_n 0, 1) := by decide +kernel
theorem d_mo_actionHere_53 : decode q_mo_actionHere.2.1 53 = .ok (.getfield 133, 3) := by decide +kernel
theorem d_mo_actionHere_56 : decode q_mo_actionHere.2.1 56 = .ok (.ldc2_w 225, 3) := by decide +kernel
theorem d_mo_actionHere_59 : decode q_mo_actionHere.2.1 59 = .ok (.lcmp, 1) := by decide +kernel
theorem d_mo_actionHere_60 : decode q_mo_actionHere.2.1 60 = .ok (.ifCond .ne 5, 3) := by decide +kernel
theorem d_mo_actionHere_63 : decode q_mo_actionHere.2.1 63 = .ok (.iconst 4, 1) := by decide +kernel
theorem d_mo_actionHere_64 : decode q_mo_actionHere.2.1 64 = .ok (.ireturn, 1) := by decide +kernel
theorem d_mo_actionHere_65 : decode q_mo_actionHere.2.1 65 = .ok (.aload_n 0, 1) := by decide +kernel
theorem d_mo_actionHere_66 : decode q_mo_actionHere.2.1 66 = .ok (.getfield 133, 3) := by decide +kernel
theorem d_mo_actionHere_69 : decode q_mo_actionHere.2.1 69 = .ok (.ldc2_w 227, 3) := by decide +kernel
theorem d_mo_actionHere_72 : decode q_mo_actionHere.2.1 72 = .ok (.lcmp, 1) := by decide +kernel
theorem d_mo_actionHere_73 : decode q_mo_actionHere.2.1 73 = .ok (.ifCond .ne 5, 3) := by decide +kernel
theorem d_mo_actionHere_76 : decode q_mo_actionHere.2.1 76 = .ok (.iconst 5, 1) := by decide +kernel
theorem d_mo_actionHere_77 : decode q_mo_actionHere.2.1 77 = .ok (.ireturn, 1) := by decide +kernel
theorem d_mo_actionHere_78 : decode q_mo_actionHere.2.1 78 = .ok (.aload_n 0, 1) := by decide +kernel
theorem d_mo_actionHere_79 : decode q_mo_actionHere.2.1 79 = .ok (.getfield 133, 3) := by decide +kernel
theorem d_mo_actionHere_82 : decode q_mo_actionHere.2.1 82 = .ok (.ldc2_w 229, 3) := by decide +kernel
theorem d_mo_actionHere_85 : decode q_mo_actionHere.2.1 85 = .ok (.lcmp, 1) := by decide +kernel
theorem d_mo_actionHere_86 : decode q_mo_actionHere.2.1 86 = .ok (.ifCond .ne 6, 3) := by decide +kernel
theorem d_mo_actionHere_89 : decode q_mo_actionHere.2.1 89 = .ok (.bipush 6, 2) := by decide +kernel
theorem d_mo_actionHere_91 : decode q_mo_actionHere.2.1 91 = .ok (.ireturn, 1) := by decide +kernel
theorem d_mo_actionHere_92 : decode q_mo_actionHere.2.1 92 = .ok (.aload_n 0, 1) := by decide +kernel
theorem d_mo_actionHere_93 : decode q_mo_actionHere.2.1 93 = .ok (.getfield 133, 3) := by decide +kernel
theorem d_mo_actionHere_96 : decode q_mo_actionHere.2.1 96 = .ok (.ldc2_w 231, 3) := by decide +kernel
theorem d_mo_actionHere_99 : decode q_mo_actionHere.2.1 99 = .ok (.lcmp, 1) := by decide +kernel
theorem d_mo_actionHere_100 : decode q_mo_actionHere.2.1 100 = .ok (.ifCond .ne 8, 3) := by decide +kernel
theorem d_mo_actionHere_103 : decode q_mo_actionHere.2.1 103 = .ok (.bipush 7, 2) := by decide +kernel
theorem d_mo_actionHere_105 : decode q_mo_actionHere.2.1 105 = .ok (.goto 4, 3) := by decide +kernel
theorem d_mo_actionHere_108 : decode q_mo_actionHere.2.1 108 = .ok (.iconst (-1), 1) := by decide +kernel
theorem d_mo_actionHere_109 : decode q_mo_actionHere.2.1 109 = .ok (.ireturn, 1) := by decide +kernel
theorem w_mo_actionHere_L109 (l : Launch) (lo hi d : Nat) {h' : sm_H} {r0 : Int32} (s0 : Int32) (h : sm_H) (hf : f_mo_actionHere_L109 s0 h = some (r0, h')) : sm_W l lo hi (d) q_mo_actionHere 109 [] [.int s0] h (some (.int r0)) h' := by
  unfold f_mo_actionHere_L109 at hf
  obtain ⟨rfl, rfl⟩ := sm_ret2 hf
  exact sm_iret d_mo_actionHere_109 rfl
theorem m_mo_actionHere (l : Launch) (lo hi d : Nat) {a0 : Nat} {r0 : Int32} {h h' : sm_H} (e0 : sm_at lo hi (0, 10, 0) a0) (hf : f_mo_actionHere a0 h = some (r0, h')) : sm_Met l lo hi (d) q_mo_actionHere [.ref a0] h (some (.int r0)) h' := by
  refine sm_Met.of (by decide +kernel) rfl ?_
  show sm_W l lo hi (d) q_mo_actionHere 0 [(0, .ref a0)] [] h (some (.int r0)) h'
  unfold f_mo_actionHere at hf
  refine sm_aload_n 0 rfl d_mo_actionHere_0 ?_
  refine sm_getL fl_mo_133 e0 rfl d_mo_actionHere_1 ?_
  refine sm_ldc2 (v := 508078) (sm_mq6 153 (by decide +kernel) rfl) d_mo_actionHere_4 ?_
  refine sm_lcmp d_mo_actionHere_7 ?_
  refine sm_if_ne 13 d_mo_actionHere_8 rfl (fun c1 => ?_) (fun c1 => ?_)
  · have hf := sm_ifF c1 hf
    refine sm_aload_n 0 rfl d_mo_actionHere_13 ?_
    refine sm_getL fl_mo_133 e0 rfl d_mo_actionHere_14 ?_
    refine sm_ldc2 (v := 631476) (sm_mq7 1 (by decide +kernel) rfl) d_mo_actionHere_17 ?_
    refine sm_lcmp d_mo_actionHere_20 ?_
    refine sm_if_ne 26 d_mo_actionHere_21 rfl (fun c2 => ?_) (fun c2 => ?_)
    · have hf := sm_ifF c2 hf
      refine sm_aload_n 0 rfl d_mo_actionHere_26 ?_
      refine sm_getL fl_mo_133 e0 rfl d_mo_actionHere_27 ?_
      refine sm_ldc2 (v := 20579924) (sm_mq7 2 (by decide +kernel) rfl) d_mo_actionHere_30 ?_
      refine sm_lcmp d_mo_actionHere_33 ?_
      refine sm_if_ne 39 d_mo_actionHere_34 rfl (fun c3 => ?_) (fun c3 => ?_)
      · have hf := sm_ifF c3 hf
        refine sm_aload_n 0 rfl d_mo_actionHere_39 ?_
        refine sm_getL fl_mo_133 e0 rfl d_mo_actionHere_40 ?_
        refine sm_ldc2 (v := 643568) (sm_mq7 3 (by decide +kernel) rfl) d_mo_actionHere_43 ?_
        refine sm_lcmp d_mo_actionHere_46 ?_
        refine sm_if_ne 52 d_mo_actionHere_47 rfl (fun c4 => ?_) (fun c4 => ?_)
        · have hf := sm_ifF c4 hf
          refine sm_aload_n 0 rfl d_mo_actionHere_52 ?_
          refine sm_getL fl_mo_133 e0 rfl d_mo_actionHere_53 ?_
          refine sm_ldc2 (v := 6195577972) (sm_mq7 4 (by decide +kernel) rfl) d_mo_actionHere_56 ?_
          refine sm_lcmp d_mo_actionHere_59 ?_
          refine sm_if_ne 65 d_mo_actionHere_60 rfl (fun c5 => ?_) (fun c5 => ?_)
          · have hf := sm_ifF c5 hf
            refine sm_aload_n 0 rfl d_mo_actionHere_65 ?_
            refine sm_getL fl_mo_133 e0 rfl d_mo_actionHere_66 ?_
            refine sm_ldc2 (v := 17372787) (sm_mq7 5 (by decide +kernel) rfl) d_mo_actionHere_69 ?_
            refine sm_lcmp d_mo_actionHere_72 ?_
            refine sm_if_ne 78 d_mo_actionHere_73 rfl (fun c6 => ?_) (fun c6 => ?_)
            · have hf := sm_ifF c6 hf
              refine sm_aload_n 0 rfl d_mo_actionHere_78 ?_
              refine sm_getL fl_mo_133 e0 rfl d_mo_actionHere_79 ?_
              refine sm_ldc2 (v := 3554917) (sm_mq7 6 (by decide +kernel) rfl) d_mo_actionHere_82 ?_
              refine sm_lcmp d_mo_actionHere_85 ?_
              refine sm_if_ne 92 d_mo_actionHere_86 rfl (fun c7 => ?_) (fun c7 => ?_)
              · have hf := sm_ifF c7 hf
                refine sm_aload_n 0 rfl d_mo_actionHere_92 ?_
                refine sm_getL fl_mo_133 e0 rfl d_mo_actionHere_93 ?_
                refine sm_ldc2 (v := 17484005) (sm_mq7 7 (by decide +kernel) rfl) d_mo_actionHere_96 ?_
                refine sm_lcmp d_mo_actionHere_99 ?_
                refine sm_if_ne 108 d_mo_actionHere_100 rfl (fun c8 => ?_) (fun c8 => ?_)
                · have hf := sm_ifF c8 hf
                  refine sm_iconst (v := (-1)) (by decide) d_mo_actionHere_108 ?_
                  refine sm_sub [] rfl ?_
                  exact w_mo_actionHere_L109 l lo hi d _ _ hf
                · have hf := sm_ifT c8 hf
                  refine sm_bipush (v := 7) (by decide) d_mo_actionHere_103 ?_
                  refine sm_goto 109 d_mo_actionHere_105 rfl ?_
                  refine sm_sub [] rfl ?_
                  exact w_mo_actionHere_L109 l lo hi d _ _ hf
              · have hf := sm_ifT c7 hf
                refine sm_bipush (v := 6) (by decide) d_mo_actionHere_89 ?_
                obtain ⟨rfl, rfl⟩ := sm_ret2 hf
                exact sm_iret d_mo_actionHere_91 rfl
            · have hf := sm_ifT c6 hf
              refine sm_iconst (v := 5) (by decide) d_mo_actionHere_76 ?_
              obtain ⟨rfl, rfl⟩ := sm_ret2 hf
              exact sm_iret d_mo_actionHere_77 rfl
          · have hf := sm_ifT c5 hf
            refine sm_iconst (v := 4) (by decide) d_mo_actionHere_63 ?_
            obtain ⟨rfl, rfl⟩ := sm_ret2 hf
            exact sm_iret d_mo_actionHere_64 rfl
        · have hf := sm_ifT c4 hf
          refine sm_iconst (v := 3) (by decide) d_mo_actionHere_50 ?_
          obtain ⟨rfl, rfl⟩ := sm_ret2 hf
          exact sm_iret d_mo_actionHere_51 rfl
      · have hf := sm_ifT c3 hf
        refine sm_iconst (v := 2) (by decide) d_mo_actionHere_37 ?_
        obtain ⟨rfl, rfl⟩ := sm_ret2 hf
        exact sm_iret d_mo_actionHere_38 rfl
    · have hf := sm_ifT c2 hf
      refine sm_iconst (v := 1) (by decide) d_mo_actionHere_24 ?_
      obtain ⟨rfl, rfl⟩ := sm_ret2 hf
      exact sm_iret d_mo_actionHere_25 rfl
  · have hf := sm_ifT c1 hf
    refine sm_iconst (v := 0) (by decide) d_mo_actionHere_11 ?_
    obtain ⟨rfl, rfl⟩ := sm_ret2 hf
    exact sm_iret d_mo_actionHere_12 rfl
theorem d_mo_readAction_0 : decode q_mo_readAction.2.1 0 = .ok (.aload_n 0, 1) := by decide +kernel
theorem d_mo_readAction_1 : decode q_mo_readAction.2.1 1 = .ok (.invokevirtual 141, 3) := by decide +kernel
theorem d_mo_readAction_4 : decode q_mo_readAction.2.1 4 = .ok (.ifCond .ne 5, 3) := by decide +kernel
theorem d_mo_readAction_7 : decode q_mo_readAction.2.1 7 = .ok (.iconst 0, 1) := by decide +kernel
theorem d_mo_readAction_8 : decode q_mo_readAction.2.1 8 = .ok (.ireturn, 1) := by decide +kernel
theorem d_mo_readAction_9 : decode q_mo_readAction.2.1 9 = .ok (.aload_n 0, 1) := by decide +kernel
theorem d_mo_readAction_10 : decode q_mo_readAction.2.1 10 = .ok (.invokevirtual 233, 3) := by decide +kernel
theorem d_mo_readAction_13 : decode q_mo_readAction.2.1 13 = .ok (.istore_n 2, 1) := by decide +kernel
theorem d_mo_readAction_14 : decode q_mo_readAction.2.1 14 = .ok (.iload_n 2, 1) := by decide +kernel
theorem d_mo_readAction_15 : decode q_mo_readAction.2.1 15 = .ok (.iconst (-1), 1) := by decide +kernel
theorem d_mo_readAction_16 : decode q_mo_readAction.2.1 16 = .ok (.if_icmp .ne 13, 3) := by decide +kernel
theorem d_mo_readAction_19 : decode q_mo_readAction.2.1 19 = .ok (.aload_n 0, 1) := by decide +kernel
theorem d_mo_readAction_20 : decode q_mo_readAction.2.1 20 = .ok (.iconst 1, 1) := by decide +kernel
theorem d_mo_readAction_21 : decode q_mo_readAction.2.1 21 = .ok (.aload_n 0, 1) := by decide +kernel
theorem d_mo_readAction_22 : decode q_mo_readAction.2.1 22 = .ok (.getfield 115, 3) := by decide +kernel
theorem d_mo_readAction_25 : decode q_mo_readAction.2.1 25 = .ok (.invokevirtual 129, 3) := by decide +kernel
theorem d_mo_readAction_28 : decode q_mo_readAction.2.1 28 = .ok (.ireturn, 1) := by decide +kernel
theorem d_mo_readAction_29 : decode q_mo_readAction.2.1 29 = .ok (.iload_n 1, 1) := by decide +kernel
theorem d_mo_readAction_30 : decode q_mo_readAction.2.1 30 = .ok (.bipush 8, 2) := by decide +kernel
theorem d_mo_readAction_32 : decode q_mo_readAction.2.1 32 = .ok (.if_icmp .ne 13, 3) := by decide +kernel
theorem d_mo_readAction_35 : decode q_mo_readAction.2.1 35 = .ok (.aload_n 0, 1) := by decide +kernel
theorem d_mo_readAction_36 : decode q_mo_readAction.2.1 36 = .ok (.iconst 3, 1) := by decide +kernel
theorem d_mo_readAction_37 : decode q_mo_readAction.2.1 37 = .ok (.aload_n 0, 1) := by decide +kernel
theorem d_mo_readAction_38 : decode q_mo_readAction.2.1 38 = .ok (.getfield 115, 3) := by decide +kernel
theorem d_mo_readAction_41 : decode q_mo_readAction.2.1 41 = .ok (.invokevirtual 129, 3) := by decide +kernel
theorem d_mo_readAction_44 : decode q_mo_readAction.2.1 44 = .ok (.ireturn, 1) := by decide +kernel
theorem d_mo_readAction_45 : decode q_mo_readAction.2.1 45 = .ok (.aload_n 0, 1) := by decide +kernel
theorem d_mo_readAction_46 : decode q_mo_readAction.2.1 46 = .ok (.invokevirtual 145, 3) := by decide +kernel
theorem d_mo_readAction_49 : decode q_mo_readAction.2.1 49 = .ok (.aload_n 0, 1) := by decide +kernel
theorem d_mo_readAction_50 : decode q_mo_readAction.2.1 50 = .ok (.iconst 0, 1) := by decide +kernel
theorem d_mo_readAction_51 : decode q_mo_readAction.2.1 51 = .ok (.aload_n 0, 1) := by decide +kernel
theorem d_mo_readAction_52 : decode q_mo_readAction.2.1 52 = .ok (.getfield 13, 3) := by decide +kernel
theorem d_mo_readAction_55 : decode q_mo_readAction.2.1 55 = .ok (.iload_n 2, 1) := by decide +kernel
theorem d_mo_readAction_56 : decode q_mo_readAction.2.1 56 = .ok (.iconst 1, 1) := by decide +kernel
theorem d_mo_readAction_57 : decode q_mo_readAction.2.1 57 = .ok (.if_icmp .gt 7, 3) := by decide +kernel
theorem d_mo_readAction_60 : decode q_mo_readAction.2.1 60 = .ok (.iconst 1, 1) := by decide +kernel
theorem d_mo_readAction_61 : decode q_mo_readAction.2.1 61 = .ok (.goto 13, 3) := by decide +kernel
theorem d_mo_readAction_64 : decode q_mo_readAction.2.1 64 = .ok (.iload_n 2, 1) := by decide +kernel
theorem d_mo_readAction_65 : decode q_mo_readAction.2.1 65 = .ok (.iconst 3, 1) := by decide +kernel
theorem d_mo_readAction_66 : decode q_mo_readAction.2.1 66 = .ok (.if_icmp .gt 7, 3) := by decide +kernel
theorem d_mo_readAction_69 : decode q_mo_readAction.2.1 69 = .ok (.iconst 2, 1) := by decide +kernel
theorem d_mo_readAction_70 : decode q_mo_readAction.2.1 70 = .ok (.goto 4, 3) := by decide +kernel
theorem d_mo_readAction_73 : decode q_mo_readAction.2.1 73 = .ok (.iconst 0, 1) := by decide +kernel
theorem d_mo_readAction_74 : decode q_mo_readAction.2.1 74 = .ok (.iaload, 1) := by decide +kernel
theorem d_mo_readAction_75 : decode q_mo_readAction.2.1 75 = .ok (.iconst 1, 1) := by decide +kernel
theorem d_mo_readAction_76 : decode q_mo_readAction.2.1 76 = .ok (.isub, 1) := by decide +kernel
theorem d_mo_readAction_77 : decode q_mo_readAction.2.1 77 = .ok (.invokevirtual 178, 3) := by decide +kernel
theorem d_mo_readAction_80 : decode q_mo_readAction.2.1 80 = .ok (.ifCond .ne 5, 3) := by decide +kernel
theorem d_mo_readAction_83 : decode q_mo_readAction.2.1 83 = .ok (.iconst 0, 1) := by decide +kernel
theorem d_mo_readAction_84 : decode q_mo_readAction.2.1 84 = .ok (.ireturn, 1) := by decide +kernel
theorem d_mo_readAction_85 : decode q_mo_readAction.2.1 85 = .ok (.sipush 1076, 3) := by decide +kernel
theorem d_mo_readAction_88 : decode q_mo_readAction.2.1 88 = .ok (.iconst 2, 1) := by decide +kernel
theorem d_mo_readAction_89 : decode q_mo_readAction.2.1 89 = .ok (.aload_n 0, 1) := by decide +kernel
theorem d_mo_readAction_90 : decode q_mo_readAction.2.1 90 = .ok (.getfield 13, 3) := by decide +kernel
theorem d_mo_readAction_93 : decode q_mo_readAction.2.1 93 = .ok (.bipush 7, 2) := by decide +kernel
theorem d_mo_readAction_95 : decode q_mo_readAction.2.1 95 = .ok (.iaload, 1) := by decide +kernel
theorem d_mo_readAction_96 : decode q_mo_readAction.2.1 96 = .ok (.imul, 1) := by decide +kernel
theorem d_mo_readAction_97 : decode q_mo_readAction.2.1 97 = .ok (.iadd, 1) := by decide +kernel
theorem d_mo_readAction_98 : decode q_mo_readAction.2.1 98 = .ok (.istore_n 3, 1) := by decide +kernel
theorem d_mo_readAction_99 : decode q_mo_readAction.2.1 99 = .ok (.aload_n 0, 1) := by decide +kernel
theorem d_mo_readAction_100 : decode q_mo_readAction.2.1 100 = .ok (.getfield 13, 3) := by decide +kernel
theorem d_mo_readAction_103 : decode q_mo_readAction.2.1 103 = .ok (.iload_n 3, 1) := by decide +kernel
theorem d_mo_readAction_104 : decode q_mo_readAction.2.1 104 = .ok (.iload_n 2, 1) := by decide +kernel
theorem d_mo_readAction_105 : decode q_mo_readAction.2.1 105 = .ok (.iastore, 1) := by decide +kernel
theorem d_mo_readAction_106 : decode q_mo_readAction.2.1 106 = .ok (.aload_n 0, 1) := by decide +kernel
theorem d_mo_readAction_107 : decode q_mo_readAction.2.1 107 = .ok (.getfield 13, 3) := by decide +kernel
theorem d_mo_readAction_110 : decode q_mo_readAction.2.1 110 = .ok (.iload_n 3, 1) := by decide +kernel
theorem d_mo_readAction_111 : decode q_mo_readAction.2.1 111 = .ok (.iconst 1, 1) := by decide +kernel
theorem d_mo_readAction_112 : decode q_mo_readAction.2.1 112 = .ok (.iadd, 1) := by decide +kernel
theorem d_mo_readAction_113 : decode q_mo_readAction.2.1 113 = .ok (.aload_n 0, 1) := by decide +kernel
theorem d_mo_readAction_114 : decode q_mo_readAction.2.1 114 = .ok (.getfield 151, 3) := by decide +kernel
theorem d_mo_readAction_117 : decode q_mo_readAction.2.1 117 = .ok (.iastore, 1) := by decide +kernel
theorem d_mo_readAction_118 : decode q_mo_readAction.2.1 118 = .ok (.aload_n 0, 1) := by decide +kernel
theorem d_mo_readAction_119 : decode q_mo_readAction.2.1 119 = .ok (.getfield 13, 3) := by decide +kernel
theorem d_mo_readAction_122 : decode q_mo_readAction.2.1 122 = .ok (.bipush 7, 2) := by decide +kernel
theorem d_mo_readAction_124 : decode q_mo_readAction.2.1 124 = .ok (.aload_n 0, 1) := by decide +kernel
theorem d_mo_readAction_125 : decode q_mo_readAction.2.1 125 = .ok (.getfield 13, 3) := by decide +kernel
theorem d_mo_readAction_128 : decode q_mo_readAction.2.1 128 = .ok (.bipush 7, 2) := by decide +kernel
theorem d_mo_readAction_130 : decode q_mo_readAction.2.1 130 = .ok (.iaload, 1) := by decide +kernel
theorem d_mo_readAction_131 : decode q_mo_readAction.2.1 131 = .ok (.iconst 1, 1) := by decide +kernel
theorem d_mo_readAction_132 : decode q_mo_readAction.2.1 132 = .ok (.iadd, 1) := by decide +kernel
theorem d_mo_readAction_133 : decode q_mo_readAction.2.1 133 = .ok (.iastore, 1) := by decide +kernel
theorem d_mo_readAction_134 : decode q_mo_readAction.2.1 134 = .ok (.iconst 1, 1) := by decide +kernel
theorem d_mo_readAction_135 : decode q_mo_readAction.2.1 135 = .ok (.ireturn, 1) := by decide +kernel
theorem w_mo_readAction_L74 (l : Launch) (lo hi d : Nat) {h' : sm_H} {r0 : Int32} (a0 : Nat) (a2 : Int32) (s0 : Int32) (s1 : Nat) (s2 : Int32) (s3 : Nat) (h : sm_H) (e0 : sm_at lo hi (0, 10, 0) a0) (t1 : sm_arr lo hi 0 1268 s1) (t3 : sm_at lo hi (0, 10, 0) s3) (hf : f_mo_readAction_L74 a0 a2 s0 s1 s2 s3 h = some (r0, h')) : sm_W l lo hi (d + 3) q_mo_readAction 74 [(0, .ref a0), (2, .int a2)] [.int s0, .ref s1, .int s2, .ref s3] h (some (.int r0)) h' := by
  unfold f_mo_readAction_L74 at hf
  obtain ⟨c22, hf⟩ := sm_gdE hf
  refine sm_iald t1 c22 d_mo_readAction_74 ?_
  refine sm_iconst (v := 1) (by decide) d_mo_readAction_75 ?_
  refine sm_isub d_mo_readAction_76 ?_
  obtain ⟨r23, g24, c25, hf⟩ := sm_b2E hf
  refine sm_callV (As := [.int s2, .int ((h s1 (s0 : Int32).toNatClampNeg) - 1)]) (rv := some (.int r23)) (h1 := g24) (c := 10) cvv_mo_178 rfl rfl t3 (m_mo_readNumber l lo hi _ t3 c25) rfl rfl d_mo_readAction_77 ?_
  refine sm_if_ne 85 d_mo_readAction_80 rfl (fun c26 => ?_) (fun c26 => ?_)
  · have hf := sm_ifF c26 hf
    refine sm_sipush (v := 1076) (by decide) d_mo_readAction_85 ?_
    refine sm_iconst (v := 2) (by decide) d_mo_readAction_88 ?_
    refine sm_aload_n 0 rfl d_mo_readAction_89 ?_
    refine sm_getR (n := 2) fl_mo_13 e0 rfl d_mo_readAction_90 ?_
    refine sm_bipush (v := 7) (by decide) d_mo_readAction_93 ?_
    obtain ⟨c27, hf⟩ := sm_gdE hf
    refine sm_iald (sm_at_arr (sm_inner e0 1 rfl rfl rfl)) c27 d_mo_readAction_95 ?_
    refine sm_imul d_mo_readAction_96 ?_
    refine sm_iadd d_mo_readAction_97 ?_
    refine sm_nmI (fun x28 w29 => ?_)
    have hf := sm_letV w29 hf
    refine sm_istore_n (lv' := [(3, .int x28), (0, .ref a0), (2, .int a2)]) d_mo_readAction_98 rfl rfl ?_
    refine sm_aload_n 1 rfl d_mo_readAction_99 ?_
    refine sm_getR (n := 2) fl_mo_13 e0 rfl d_mo_readAction_100 ?_
    refine sm_iload_n 0 rfl d_mo_readAction_103 ?_
    refine sm_iload_n 2 rfl d_mo_readAction_104 ?_
    obtain ⟨c30, hf⟩ := sm_gdE hf
    refine sm_iast (sm_at_arr (sm_inner e0 1 rfl rfl rfl)) c30 d_mo_readAction_105 ?_
    refine sm_nmH (fun g31 w32 => ?_)
    have hf := sm_letV w32 hf
    refine sm_aload_n 1 rfl d_mo_readAction_106 ?_
    refine sm_getR (n := 2) fl_mo_13 e0 rfl d_mo_readAction_107 ?_
    refine sm_iload_n 0 rfl d_mo_readAction_110 ?_
    refine sm_iconst (v := 1) (by decide) d_mo_readAction_111 ?_
    refine sm_iadd d_mo_readAction_112 ?_
    refine sm_aload_n 1 rfl d_mo_readAction_113 ?_
    refine sm_getI fl_mo_151 e0 rfl d_mo_readAction_114 ?_
    obtain ⟨c33, hf⟩ := sm_gdE hf
    refine sm_iast (sm_at_arr (sm_inner e0 1 rfl rfl rfl)) c33 d_mo_readAction_117 ?_
    refine sm_nmH (fun g34 w35 => ?_)
    have hf := sm_letV w35 hf
    refine sm_aload_n 1 rfl d_mo_readAction_118 ?_
    refine sm_getR (n := 2) fl_mo_13 e0 rfl d_mo_readAction_119 ?_
    refine sm_bipush (v := 7) (by decide) d_mo_readAction_122 ?_
    refine sm_aload_n 1 rfl d_mo_readAction_124 ?_
    refine sm_getR (n := 2) fl_mo_13 e0 rfl d_mo_readAction_125 ?_
    refine sm_bipush (v := 7) (by decide) d_mo_readAction_128 ?_
    obtain ⟨c36, hf⟩ := sm_gdE hf
    refine sm_iald (sm_at_arr (sm_inner e0 1 rfl rfl rfl)) c36 d_mo_readAction_130 ?_
    refine sm_iconst (v := 1) (by decide) d_mo_readAction_131 ?_
    refine sm_iadd d_mo_readAction_132 ?_
    obtain ⟨c37, hf⟩ := sm_gdE hf
    refine sm_iast (sm_at_arr (sm_inner e0 1 rfl rfl rfl)) c37 d_mo_readAction_133 ?_
    refine sm_nmH (fun g38 w39 => ?_)
    have hf := sm_letV w39 hf
    refine sm_iconst (v := 1) (by decide) d_mo_readAction_134 ?_
    obtain ⟨rfl, rfl⟩ := sm_ret2 hf
    exact sm_bret (by decide) d_mo_readAction_135 rfl
  · have hf := sm_ifT c26 hf
    refine sm_iconst (v := 0) (by decide) d_mo_readAction_83 ?_
    obtain ⟨rfl, rfl⟩ := sm_ret2 hf
    exact sm_bret (by decide) d_mo_readAction_84 rfl
theorem m_mo_readAction (l : Launch) (lo hi d : Nat) {a0 : Nat} {a1 : Int32} {r0 : Int32} {h h' : sm_H} (e0 : sm_at lo hi (0, 10, 0) a0) (hf : f_mo_readAction a0 a1 h = some (r0, h')) : sm_Met l lo hi (d + 3) q_mo_readAction [.ref a0, .int a1] h (some (.int r0)) h' := by
  refine sm_Met.of (by decide +kernel) rfl ?_
  show sm_W l lo hi (d + 3) q_mo_readAction 0 [(0, .ref a0), (1, .int a1)] [] h (some (.int r0)) h'
  unfold f_mo_readAction at hf
  refine sm_aload_n 0 rfl d_mo_readAction_0 ?_
  obtain ⟨r1, g2, c3, hf⟩ := sm_b2E hf
  refine sm_callV (As := []) (rv := some (.int r1)) (h1 := g2) (c := 10) cvv_mo_141 rfl rfl e0 (m_mo_seesWord l lo hi _ e0 c3) rfl rfl d_mo_readAction_1 ?_
  refine sm_if_ne 9 d_mo_readAction_4 rfl (fun c4 => ?_) (fun c4 => ?_)
  · have hf := sm_ifF c4 hf
    refine sm_aload_n 0 rfl d_mo_readAction_9 ?_
    obtain ⟨r5, g6, c7, hf⟩ := sm_b2E hf
    refine sm_callV (As := []) (rv := some (.int r5)) (h1 := g6) (c := 10) cvv_mo_233 rfl rfl e0 (m_mo_actionHere l lo hi _ e0 c7) rfl rfl d_mo_readAction_10 ?_
    refine sm_istore_n (lv' := [(2, .int r5), (0, .ref a0), (1, .int a1)]) d_mo_readAction_13 rfl rfl ?_
    refine sm_iload_n 0 rfl d_mo_readAction_14 ?_
    refine sm_iconst (v := (-1)) (by decide) d_mo_readAction_15 ?_
    refine sm_icmp_ne 29 d_mo_readAction_16 rfl (fun c8 => ?_) (fun c8 => ?_)
    · have hf := sm_ifF c8 hf
      refine sm_iload_n 2 rfl d_mo_readAction_29 ?_
      refine sm_bipush (v := 8) (by decide) d_mo_readAction_30 ?_
      refine sm_icmp_ne 45 d_mo_readAction_32 rfl (fun c9 => ?_) (fun c9 => ?_)
      · have hf := sm_ifF c9 hf
        refine sm_aload_n 1 rfl d_mo_readAction_45 ?_
        obtain ⟨g10, c11, hf⟩ := sm_bindE hf
        refine sm_callV (As := []) (rv := none) (h1 := g10) (c := 10) cvv_mo_145 rfl rfl e0 (m_mo_passWord l lo hi _ e0 c11) rfl rfl d_mo_readAction_46 ?_
        refine sm_aload_n 1 rfl d_mo_readAction_49 ?_
        refine sm_iconst (v := 0) (by decide) d_mo_readAction_50 ?_
        refine sm_aload_n 1 rfl d_mo_readAction_51 ?_
        refine sm_getR (n := 2) fl_mo_13 e0 rfl d_mo_readAction_52 ?_
        refine sm_iload_n 0 rfl d_mo_readAction_55 ?_
        refine sm_iconst (v := 1) (by decide) d_mo_readAction_56 ?_
        refine sm_icmp_gt 64 d_mo_readAction_57 rfl (fun c12 => ?_) (fun c12 => ?_)
        · have hf := sm_ifT c12 hf
          refine sm_iload_n 0 rfl d_mo_readAction_64 ?_
          refine sm_iconst (v := 3) (by decide) d_mo_readAction_65 ?_
          refine sm_icmp_gt 73 d_mo_readAction_66 rfl (fun c13 => ?_) (fun c13 => ?_)
          · have hf := sm_ifT c13 hf
            refine sm_iconst (v := 0) (by decide) d_mo_readAction_73 ?_
            refine sm_sub [1, 0] rfl ?_
            exact w_mo_readAction_L74 l lo hi d _ _ _ _ _ _ _ e0 (sm_at_arr (sm_inner e0 1 rfl rfl rfl)) e0 hf
          · have hf := sm_ifF c13 hf
            refine sm_iconst (v := 2) (by decide) d_mo_readAction_69 ?_
            refine sm_goto 74 d_mo_readAction_70 rfl ?_
            refine sm_sub [1, 0] rfl ?_
            exact w_mo_readAction_L74 l lo hi d _ _ _ _ _ _ _ e0 (sm_at_arr (sm_inner e0 1 rfl rfl rfl)) e0 hf
        · have hf := sm_ifF c12 hf
          refine sm_iconst (v := 1) (by decide) d_mo_readAction_60 ?_
          refine sm_goto 74 d_mo_readAction_61 rfl ?_
          refine sm_sub [1, 0] rfl ?_
          exact w_mo_readAction_L74 l lo hi d _ _ _ _ _ _ _ e0 (sm_at_arr (sm_inner e0 1 rfl rfl rfl)) e0 hf
      · have hf := sm_ifT c9 hf
        refine sm_aload_n 1 rfl d_mo_readAction_35 ?_
        refine sm_iconst (v := 3) (by decide) d_mo_readAction_36 ?_
        refine sm_aload_n 1 rfl d_mo_readAction_37 ?_
        refine sm_getI fl_mo_115 e0 rfl d_mo_readAction_38 ?_
        obtain ⟨r14, g15, c16, hf⟩ := sm_b2E hf
        refine sm_callV (As := [.int 3, .int (g6 a0 13)]) (rv := some (.int r14)) (h1 := g15) (c := 10) cvv_mo_129 rfl rfl e0 (m_mo_fails l lo hi _ e0 c16) rfl rfl d_mo_readAction_41 ?_
        obtain ⟨c17, hf⟩ := sm_gdE hf
        obtain ⟨rfl, rfl⟩ := sm_ret2 hf
        exact sm_bret c17 d_mo_readAction_44 rfl
    · have hf := sm_ifT c8 hf
      refine sm_aload_n 1 rfl d_mo_readAction_19 ?_
      refine sm_iconst (v := 1) (by decide) d_mo_readAction_20 ?_
      refine sm_aload_n 1 rfl d_mo_readAction_21 ?_
      refine sm_getI fl_mo_115 e0 rfl d_mo_readAction_22 ?_
      obtain ⟨r18, g19, c20, hf⟩ := sm_b2E hf
      refine sm_callV (As := [.int 1, .int (g6 a0 13)]) (rv := some (.int r18)) (h1 := g19) (c := 10) cvv_mo_129 rfl rfl e0 (m_mo_fails l lo hi _ e0 c20) rfl rfl d_mo_readAction_25 ?_
      obtain ⟨c21, hf⟩ := sm_gdE hf
      obtain ⟨rfl, rfl⟩ := sm_ret2 hf
      exact sm_bret c21 d_mo_readAction_28 rfl
  · have hf := sm_ifT c4 hf
    refine sm_iconst (v := 0) (by decide) d_mo_readAction_7 ?_
    obtain ⟨rfl, rfl⟩ := sm_ret2 hf
    exact sm_bret (by decide) d_mo_readAction_8 rfl
theorem d_mo_readRule_0 : decode q_mo_readRule.2.1 0 = .ok (.sipush 128, 3) := by decide +kernel
theorem d_mo_readRule_3 : decode q_mo_readRule.2.1 3 = .ok (.iconst 4, 1) := by decide +kernel
theorem d_mo_readRule_4 : decode q_mo_readRule.2.1 4 = .ok (.aload_n 0, 1) := by decide +kernel
theorem d_mo_readRule_5 : decode q_mo_readRule.2.1 5 = .ok (.getfield 13, 3) := by decide +kernel
theorem d_mo_readRule_8 : decode q_mo_readRule.2.1 8 = .ok (.iconst 4, 1) := by decide +kernel
theorem d_mo_readRule_9 : decode q_mo_readRule.2.1 9 = .ok (.iaload, 1) := by decide +kernel
theorem d_mo_readRule_10 : decode q_mo_readRule.2.1 10 = .ok (.imul, 1) := by decide +kernel
theorem d_mo_readRule_11 : decode q_mo_readRule.2.1 11 = .ok (.iadd, 1) := by decide +kernel
theorem d_mo_readRule_12 : decode q_mo_readRule.2.1 12 = .ok (.istore_n 1, 1) := by decide +kernel
theorem d_mo_readRule_13 : decode q_mo_readRule.2.1 13 = .ok (.aload_n 0, 1) := by decide +kernel
theorem d_mo_readRule_14 : decode q_mo_readRule.2.1 14 = .ok (.getfield 13, 3) := by decide +kernel
theorem d_mo_readRule_17 : decode q_mo_readRule.2.1 17 = .ok (.iload_n 1, 1) := by decide +kernel
theorem d_mo_readRule_18 : decode q_mo_readRule.2.1 18 = .ok (.aload_n 0, 1) := by decide +kernel
theorem d_mo_readRule_19 : decode q_mo_readRule.2.1 19 = .ok (.getfield 13, 3) := by decide +kernel
theorem d_mo_readRule_22 : decode q_mo_readRule.2.1 22 = .ok (.bipush 8, 2) := by decide +kernel
theorem d_mo_readRule_24 : decode q_mo_readRule.2.1 24 = .ok (.iaload, 1) := by decide +kernel
theorem d_mo_readRule_25 : decode q_mo_readRule.2.1 25 = .ok (.iastore, 1) := by decide +kernel
theorem d_mo_readRule_26 : decode q_mo_readRule.2.1 26 = .ok (.aload_n 0, 1) := by decide +kernel
theorem d_mo_readRule_27 : decode q_mo_readRule.2.1 27 = .ok (.invokevirtual 236, 3) := by decide +kernel
theorem d_mo_readRule_30 : decode q_mo_readRule.2.1 30 = .ok (.ifCond .ne 5, 3) := by decide +kernel
theorem d_mo_readRule_33 : decode q_mo_readRule.2.1 33 = .ok (.iconst 0, 1) := by decide +kernel
theorem d_mo_readRule_34 : decode q_mo_readRule.2.1 34 = .ok (.ireturn, 1) := by decide +kernel
theorem d_mo_readRule_35 : decode q_mo_readRule.2.1 35 = .ok (.aload_n 0, 1) := by decide +kernel
theorem d_mo_readRule_36 : decode q_mo_readRule.2.1 36 = .ok (.getfield 13, 3) := by decide +kernel
theorem d_mo_readRule_39 : decode q_mo_readRule.2.1 39 = .ok (.iload_n 1, 1) := by decide +kernel
theorem d_mo_readRule_40 : decode q_mo_readRule.2.1 40 = .ok (.iconst 1, 1) := by decide +kernel
theorem d_mo_readRule_41 : decode q_mo_readRule.2.1 41 = .ok (.iadd, 1) := by decide +kernel
theorem d_mo_readRule_42 : decode q_mo_readRule.2.1 42 = .ok (.aload_n 0, 1) := by decide +kernel
theorem d_mo_readRule_43 : decode q_mo_readRule.2.1 43 = .ok (.getfield 13, 3) := by decide +kernel
theorem d_mo_readRule_46 : decode q_mo_readRule.2.1 46 = .ok (.bipush 8, 2) := by decide +kernel
theorem d_mo_readRule_48 : decode q_mo_readRule.2.1 48 = .ok (.iaload, 1) := by decide +kernel
theorem d_mo_readRule_49 : decode q_mo_readRule.2.1 49 = .ok (.iastore, 1) := by decide +kernel
theorem d_mo_readRule_50 : decode q_mo_readRule.2.1 50 = .ok (.aload_n 0, 1) := by decide +kernel
theorem d_mo_readRule_51 : decode q_mo_readRule.2.1 51 = .ok (.getfield 13, 3) := by decide +kernel
theorem d_mo_readRule_54 : decode q_mo_readRule.2.1 54 = .ok (.iload_n 1, 1) := by decide +kernel
theorem d_mo_readRule_55 : decode q_mo_readRule.2.1 55 = .ok (.iconst 2, 1) := by decide +kernel
theorem d_mo_readRule_56 : decode q_mo_readRule.2.1 56 = .ok (.iadd, 1) := by decide +kernel
theorem d_mo_readRule_57 : decode q_mo_readRule.2.1 57 = .ok (.aload_n 0, 1) := by decide +kernel
theorem d_mo_readRule_58 : decode q_mo_readRule.2.1 58 = .ok (.getfield 13, 3) := by decide +kernel
theorem d_mo_readRule_61 : decode q_mo_readRule.2.1 61 = .ok (.bipush 7, 2) := by decide +kernel
theorem d_mo_readRule_63 : decode q_mo_readRule.2.1 63 = .ok (.iaload, 1) := by decide +kernel
theorem d_mo_readRule_64 : decode q_mo_readRule.2.1 64 = .ok (.iastore, 1) := by decide +kernel
theorem d_mo_readRule_65 : decode q_mo_readRule.2.1 65 = .ok (.iconst 0, 1) := by decide +kernel
theorem d_mo_readRule_66 : decode q_mo_readRule.2.1 66 = .ok (.istore_n 2, 1) := by decide +kernel
theorem d_mo_readRule_67 : decode q_mo_readRule.2.1 67 = .ok (.iconst 1, 1) := by decide +kernel
theorem d_mo_readRule_68 : decode q_mo_readRule.2.1 68 = .ok (.istore_n 3, 1) := by decide +kernel
theorem d_mo_readRule_69 : decode q_mo_readRule.2.1 69 = .ok (.iload_n 3, 1) := by decide +kernel
theorem d_mo_readRule_70 : decode q_mo_readRule.2.1 70 = .ok (.ifCond .eq 43, 3) := by decide +kernel
theorem d_mo_readRule_73 : decode q_mo_readRule.2.1 73 = .ok (.aload_n 0, 1) := by decide +kernel
theorem d_mo_readRule_74 : decode q_mo_readRule.2.1 74 = .ok (.iload_n 2, 1) := by decide +kernel
theorem d_mo_readRule_75 : decode q_mo_readRule.2.1 75 = .ok (.invokevirtual 239, 3) := by decide +kernel
theorem d_mo_readRule_78 : decode q_mo_readRule.2.1 78 = .ok (.ifCond .ne 5, 3) := by decide +kernel
theorem d_mo_readRule_81 : decode q_mo_readRule.2.1 81 = .ok (.iconst 0, 1) := by decide +kernel
theorem d_mo_readRule_82 : decode q_mo_readRule.2.1 82 = .ok (.ireturn, 1) := by decide +kernel
theorem d_mo_readRule_83 : decode q_mo_readRule.2.1 83 = .ok (.iload_n 2, 1) := by decide +kernel
theorem d_mo_readRule_84 : decode q_mo_readRule.2.1 84 = .ok (.iconst 1, 1) := by decide +kernel
theorem d_mo_readRule_85 : decode q_mo_readRule.2.1 85 = .ok (.iadd, 1) := by decide +kernel
theorem d_mo_readRule_86 : decode q_mo_readRule.2.1 86 = .ok (.istore_n 2, 1) := by decide +kernel
theorem d_mo_readRule_87 : decode q_mo_readRule.2.1 87 = .ok (.aload_n 0, 1) := by decide +kernel
theorem d_mo_readRule_88 : decode q_mo_readRule.2.1 88 = .ok (.invokevirtual 118, 3) := by decide +kernel
theorem d_mo_readRule_91 : decode q_mo_readRule.2.1 91 = .ok (.bipush 44, 2) := by decide +kernel
theorem d_mo_readRule_93 : decode q_mo_readRule.2.1 93 = .ok (.if_icmp .ne 7, 3) := by decide +kernel
theorem d_mo_readRule_96 : decode q_mo_readRule.2.1 96 = .ok (.iconst 1, 1) := by decide +kernel
theorem d_mo_readRule_97 : decode q_mo_readRule.2.1 97 = .ok (.goto 4, 3) := by decide +kernel
theorem d_mo_readRule_100 : decode q_mo_readRule.2.1 100 = .ok (.iconst 0, 1) := by decide +kernel
theorem d_mo_readRule_101 : decode q_mo_readRule.2.1 101 = .ok (.istore_n 3, 1) := by decide +kernel
theorem d_mo_readRule_102 : decode q_mo_readRule.2.1 102 = .ok (.iload_n 3, 1) := by decide +kernel
theorem d_mo_readRule_103 : decode q_mo_readRule.2.1 103 = .ok (.ifCond .eq (-34), 3) := by decide +kernel
theorem d_mo_readRule_106 : decode q_mo_readRule.2.1 106 = .ok (.aload_n 0, 1) := by decide +kernel
theorem d_mo_readRule_107 : decode q_mo_readRule.2.1 107 = .ok (.invokevirtual 154, 3) := by decide +kernel
theorem d_mo_readRule_110 : decode q_mo_readRule.2.1 110 = .ok (.goto (-41), 3) := by decide +kernel
theorem d_mo_readRule_113 : decode q_mo_readRule.2.1 113 = .ok (.aload_n 0, 1) := by decide +kernel
theorem d_mo_readRule_114 : decode q_mo_readRule.2.1 114 = .ok (.getfield 13, 3) := by decide +kernel
theorem d_mo_readRule_117 : decode q_mo_readRule.2.1 117 = .ok (.iload_n 1, 1) := by decide +kernel
theorem d_mo_readRule_118 : decode q_mo_readRule.2.1 118 = .ok (.iconst 3, 1) := by decide +kernel
theorem d_mo_readRule_119 : decode q_mo_readRule.2.1 119 = .ok (.iadd, 1) := by decide +kernel
theorem d_mo_readRule_120 : decode q_mo_readRule.2.1 120 = .ok (.aload_n 0, 1) := by decide +kernel
theorem d_mo_readRule_121 : decode q_mo_readRule.2.1 121 = .ok (.getfield 13, 3) := by decide +kernel
theorem d_mo_readRule_124 : decode q_mo_readRule.2.1 124 = .ok (.bipush 7, 2) := by decide +kernel
theorem d_mo_readRule_126 : decode q_mo_readRule.2.1 126 = .ok (.iaload, 1) := by decide +kernel
theorem d_mo_readRule_127 : decode q_mo_readRule.2.1 127 = .ok (.iastore, 1) := by decide +kernel
theorem d_mo_readRule_128 : decode q_mo_readRule.2.1 128 = .ok (.aload_n 0, 1) := by decide +kernel
theorem d_mo_readRule_129 : decode q_mo_readRule.2.1 129 = .ok (.getfield 13, 3) := by decide +kernel
theorem d_mo_readRule_132 : decode q_mo_readRule.2.1 132 = .ok (.iconst 4, 1) := by decide +kernel
theorem d_mo_readRule_133 : decode q_mo_readRule.2.1 133 = .ok (.aload_n 0, 1) := by decide +kernel
theorem d_mo_readRule_134 : decode q_mo_readRule.2.1 134 = .ok (.getfield 13, 3) := by decide +kernel
theorem d_mo_readRule_137 : decode q_mo_readRule.2.1 137 = .ok (.iconst 4, 1) := by decide +kernel
theorem d_mo_readRule_138 : decode q_mo_readRule.2.1 138 = .ok (.iaload, 1) := by decide +kernel
theorem d_mo_readRule_139 : decode q_mo_readRule.2.1 139 = .ok (.iconst 1, 1) := by decide +kernel
theorem d_mo_readRule_140 : decode q_mo_readRule.2.1 140 = .ok (.iadd, 1) := by decide +kernel
theorem d_mo_readRule_141 : decode q_mo_readRule.2.1 141 = .ok (.iastore, 1) := by decide +kernel
theorem d_mo_readRule_142 : decode q_mo_readRule.2.1 142 = .ok (.iconst 1, 1) := by decide +kernel
theorem d_mo_readRule_143 : decode q_mo_readRule.2.1 143 = .ok (.ireturn, 1) := by decide +kernel
theorem w_mo_readRule_L113 (l : Launch) (lo hi d : Nat) {h' : sm_H} {r0 : Int32} (a0 : Nat) (a1 : Int32) (h : sm_H) (e0 : sm_at lo hi (0, 10, 0) a0) (hf : f_mo_readRule_L113 a0 a1 h = some (r0, h')) : sm_W l lo hi (d + 6) q_mo_readRule 113 [(0, .ref a0), (1, .int a1)] [] h (some (.int r0)) h' := by
  unfold f_mo_readRule_L113 at hf
  refine sm_aload_n 0 rfl d_mo_readRule_113 ?_
  refine sm_getR (n := 2) fl_mo_13 e0 rfl d_mo_readRule_114 ?_
  refine sm_iload_n 1 rfl d_mo_readRule_117 ?_
  refine sm_iconst (v := 3) (by decide) d_mo_readRule_118 ?_
  refine sm_iadd d_mo_readRule_119 ?_
  refine sm_aload_n 0 rfl d_mo_readRule_120 ?_
  refine sm_getR (n := 2) fl_mo_13 e0 rfl d_mo_readRule_121 ?_
  refine sm_bipush (v := 7) (by decide) d_mo_readRule_124 ?_
  obtain ⟨c34, hf⟩ := sm_gdE hf
  refine sm_iald (sm_at_arr (sm_inner e0 1 rfl rfl rfl)) c34 d_mo_readRule_126 ?_
  obtain ⟨c35, hf⟩ := sm_gdE hf
  refine sm_iast (sm_at_arr (sm_inner e0 1 rfl rfl rfl)) c35 d_mo_readRule_127 ?_
  refine sm_nmH (fun g36 w37 => ?_)
  have hf := sm_letV w37 hf
  refine sm_aload_n 0 rfl d_mo_readRule_128 ?_
  refine sm_getR (n := 2) fl_mo_13 e0 rfl d_mo_readRule_129 ?_
  refine sm_iconst (v := 4) (by decide) d_mo_readRule_132 ?_
  refine sm_aload_n 0 rfl d_mo_readRule_133 ?_
  refine sm_getR (n := 2) fl_mo_13 e0 rfl d_mo_readRule_134 ?_
  refine sm_iconst (v := 4) (by decide) d_mo_readRule_137 ?_
  obtain ⟨c38, hf⟩ := sm_gdE hf
  refine sm_iald (sm_at_arr (sm_inner e0 1 rfl rfl rfl)) c38 d_mo_readRule_138 ?_
  refine sm_iconst (v := 1) (by decide) d_mo_readRule_139 ?_
  refine sm_iadd d_mo_readRule_140 ?_
  obtain ⟨c39, hf⟩ := sm_gdE hf
  refine sm_iast (sm_at_arr (sm_inner e0 1 rfl rfl rfl)) c39 d_mo_readRule_141 ?_
  refine sm_nmH (fun g40 w41 => ?_)
  have hf := sm_letV w41 hf
  refine sm_iconst (v := 1) (by decide) d_mo_readRule_142 ?_
  obtain ⟨rfl, rfl⟩ := sm_ret2 hf
  exact sm_bret (by decide) d_mo_readRule_143 rfl
theorem w_mo_readRule_L101 (l : Launch) (lo hi d : Nat) {k69 : Nat → Int32 → Int32 → Int32 → sm_H → Option (Int32 × sm_H)} {h' : sm_H} {r0 : Int32} (hk69 : ∀ (a0 : Nat) (a1 : Int32) (a2 : Int32) (a3 : Int32) (h : sm_H) (_ : sm_at lo hi (0, 10, 0) a0) , k69 a0 a1 a2 a3 h = some (r0, h') → sm_W l lo hi (d + 6) q_mo_readRule 69 [(0, .ref a0), (1, .int a1), (2, .int a2), (3, .int a3)] [] h (some (.int r0)) h') (a0 : Nat) (a1 : Int32) (a2 : Int32) (s0 : Int32) (h : sm_H) (e0 : sm_at lo hi (0, 10, 0) a0) (hf : f_mo_readRule_L101 k69 a0 a1 a2 s0 h = some (r0, h')) : sm_W l lo hi (d + 6) q_mo_readRule 101 [(0, .ref a0), (1, .int a1), (2, .int a2)] [.int s0] h (some (.int r0)) h' := by
  unfold f_mo_readRule_L101 at hf
  refine sm_istore_n (lv' := [(3, .int s0), (0, .ref a0), (1, .int a1), (2, .int a2)]) d_mo_readRule_101 rfl rfl ?_
  refine sm_iload_n 0 rfl d_mo_readRule_102 ?_
  refine sm_if_eq 69 d_mo_readRule_103 rfl (fun c31 => ?_) (fun c31 => ?_)
  · have hf := sm_ifT c31 hf
    refine sm_sub [1, 2, 3, 0] rfl ?_
    exact hk69 _ _ _ _ _ e0 hf
  · have hf := sm_ifF c31 hf
    refine sm_aload_n 1 rfl d_mo_readRule_106 ?_
    obtain ⟨g32, c33, hf⟩ := sm_bindE hf
    refine sm_callV (As := []) (rv := none) (h1 := g32) (c := 10) cvv_mo_154 rfl rfl e0 (m_mo_passSign l lo hi _ e0 c33) rfl rfl d_mo_readRule_107 ?_
    refine sm_goto 69 d_mo_readRule_110 rfl ?_
    refine sm_sub [1, 2, 3, 0] rfl ?_
    exact hk69 _ _ _ _ _ e0 hf
theorem w_mo_readRule_L69 (l : Launch) (lo hi d : Nat) {h' : sm_H} {r0 : Int32} : ∀ (n : Nat) (a0 : Nat) (a1 : Int32) (a2 : Int32) (a3 : Int32) (h : sm_H) (e0 : sm_at lo hi (0, 10, 0) a0) (hf : f_mo_readRule_L69 n a0 a1 a2 a3 h = some (r0, h')), sm_W l lo hi (d + 6) q_mo_readRule 69 [(0, .ref a0), (1, .int a1), (2, .int a2), (3, .int a3)] [] h (some (.int r0)) h' := by
  intro n
  induction n with
  | zero =>
    intro a0 a1 a2 a3 h e0 hf
    have z : (none : Option (Int32 × sm_H)) = some _ := hf
    cases z
  | succ n ih =>
    intro a0 a1 a2 a3 h e0 hf
    unfold f_mo_readRule_L69 at hf
    refine sm_iload_n 3 rfl d_mo_readRule_69 ?_
    refine sm_if_eq 113 d_mo_readRule_70 rfl (fun c20 => ?_) (fun c20 => ?_)
    · have hf := sm_ifT c20 hf
      refine sm_sub [0, 1] rfl ?_
      exact w_mo_readRule_L113 l lo hi d _ _ _ e0 hf
    · have hf := sm_ifF c20 hf
      refine sm_aload_n 0 rfl d_mo_readRule_73 ?_
      refine sm_iload_n 2 rfl d_mo_readRule_74 ?_
      obtain ⟨r21, g22, c23, hf⟩ := sm_b2E hf
      refine sm_callV (As := [.int a2]) (rv := some (.int r21)) (h1 := g22) (c := 10) cvv_mo_239 rfl rfl e0 (m_mo_readAction l lo hi _ e0 c23) rfl rfl d_mo_readRule_75 ?_
      refine sm_if_ne 83 d_mo_readRule_78 rfl (fun c24 => ?_) (fun c24 => ?_)
      · have hf := sm_ifF c24 hf
        refine sm_iload_n 2 rfl d_mo_readRule_83 ?_
        refine sm_iconst (v := 1) (by decide) d_mo_readRule_84 ?_
        refine sm_iadd d_mo_readRule_85 ?_
        refine sm_nmI (fun x25 w26 => ?_)
        have hf := sm_letV w26 hf
        refine sm_istore_n (lv' := [(2, .int x25), (0, .ref a0), (1, .int a1), (3, .int a3)]) d_mo_readRule_86 rfl rfl ?_
        refine sm_aload_n 1 rfl d_mo_readRule_87 ?_
        obtain ⟨r27, g28, c29, hf⟩ := sm_b2E hf
        refine sm_callV (As := []) (rv := some (.int r27)) (h1 := g28) (c := 10) cvv_mo_118 rfl rfl e0 (m_mo_peek l lo hi _ e0 c29) rfl rfl d_mo_readRule_88 ?_
        refine sm_bipush (v := 44) (by decide) d_mo_readRule_91 ?_
        refine sm_icmp_ne 100 d_mo_readRule_93 rfl (fun c30 => ?_) (fun c30 => ?_)
        · have hf := sm_ifF c30 hf
          refine sm_iconst (v := 0) (by decide) d_mo_readRule_100 ?_
          refine sm_sub [1, 2, 0] rfl ?_
          exact w_mo_readRule_L101 l lo hi d ih _ _ _ _ _ e0 hf
        · have hf := sm_ifT c30 hf
          refine sm_iconst (v := 1) (by decide) d_mo_readRule_96 ?_
          refine sm_goto 101 d_mo_readRule_97 rfl ?_
          refine sm_sub [1, 2, 0] rfl ?_
          exact w_mo_readRule_L101 l lo hi d ih _ _ _ _ _ e0 hf
      · have hf := sm_ifT c24 hf
        refine sm_iconst (v := 0) (by decide) d_mo_readRule_81 ?_
        obtain ⟨rfl, rfl⟩ := sm_ret2 hf
        exact sm_bret (by decide) d_mo_readRule_82 rfl
theorem m_mo_readRule (l : Launch) (lo hi d : Nat) {a0 : Nat} {r0 : Int32} {h h' : sm_H} (e0 : sm_at lo hi (0, 10, 0) a0) (hf : f_mo_readRule a0 h = some (r0, h')) : sm_Met l lo hi (d + 6) q_mo_readRule [.ref a0] h (some (.int r0)) h' := by
  refine sm_Met.of (by decide +kernel) rfl ?_
  show sm_W l lo hi (d + 6) q_mo_readRule 0 [(0, .ref a0)] [] h (some (.int r0)) h'
  unfold f_mo_readRule at hf
  refine sm_sipush (v := 128) (by decide) d_mo_readRule_0 ?_
  refine sm_iconst (v := 4) (by decide) d_mo_readRule_3 ?_
  refine sm_aload_n 0 rfl d_mo_readRule_4 ?_
  refine sm_getR (n := 2) fl_mo_13 e0 rfl d_mo_readRule_5 ?_
  refine sm_iconst (v := 4) (by decide) d_mo_readRule_8 ?_
  obtain ⟨c1, hf⟩ := sm_gdE hf
  refine sm_iald (sm_at_arr (sm_inner e0 1 rfl rfl rfl)) c1 d_mo_readRule_9 ?_
  refine sm_imul d_mo_readRule_10 ?_
  refine sm_iadd d_mo_readRule_11 ?_
  refine sm_nmI (fun x2 w3 => ?_)
  have hf := sm_letV w3 hf
  refine sm_istore_n (lv' := [(1, .int x2), (0, .ref a0)]) d_mo_readRule_12 rfl rfl ?_
  refine sm_aload_n 1 rfl d_mo_readRule_13 ?_
  refine sm_getR (n := 2) fl_mo_13 e0 rfl d_mo_readRule_14 ?_
  refine sm_iload_n 0 rfl d_mo_readRule_17 ?_
  refine sm_aload_n 1 rfl d_mo_readRule_18 ?_
  refine sm_getR (n := 2) fl_mo_13 e0 rfl d_mo_readRule_19 ?_
  refine sm_bipush (v := 8) (by decide) d_mo_readRule_22 ?_
  obtain ⟨c4, hf⟩ := sm_gdE hf
  refine sm_iald (sm_at_arr (sm_inner e0 1 rfl rfl rfl)) c4 d_mo_readRule_24 ?_
  obtain ⟨c5, hf⟩ := sm_gdE hf
  refine sm_iast (sm_at_arr (sm_inner e0 1 rfl rfl rfl)) c5 d_mo_readRule_25 ?_
  refine sm_nmH (fun g6 w7 => ?_)
  have hf := sm_letV w7 hf
  refine sm_aload_n 1 rfl d_mo_readRule_26 ?_
  obtain ⟨r8, g9, c10, hf⟩ := sm_b2E hf
  refine sm_callV (As := []) (rv := some (.int r8)) (h1 := g9) (c := 10) cvv_mo_236 rfl rfl e0 (m_mo_readCondition l lo hi _ e0 c10) rfl rfl d_mo_readRule_27 ?_
  refine sm_if_ne 35 d_mo_readRule_30 rfl (fun c11 => ?_) (fun c11 => ?_)
  · have hf := sm_ifF c11 hf
    refine sm_aload_n 1 rfl d_mo_readRule_35 ?_
    refine sm_getR (n := 2) fl_mo_13 e0 rfl d_mo_readRule_36 ?_
    refine sm_iload_n 0 rfl d_mo_readRule_39 ?_
    refine sm_iconst (v := 1) (by decide) d_mo_readRule_40 ?_
    refine sm_iadd d_mo_readRule_41 ?_
    refine sm_aload_n 1 rfl d_mo_readRule_42 ?_
    refine sm_getR (n := 2) fl_mo_13 e0 rfl d_mo_readRule_43 ?_
    refine sm_bipush (v := 8) (by decide) d_mo_readRule_46 ?_
    obtain ⟨c12, hf⟩ := sm_gdE hf
    refine sm_iald (sm_at_arr (sm_inner e0 1 rfl rfl rfl)) c12 d_mo_readRule_48 ?_
    obtain ⟨c13, hf⟩ := sm_gdE hf
    refine sm_iast (sm_at_arr (sm_inner e0 1 rfl rfl rfl)) c13 d_mo_readRule_49 ?_
    refine sm_nmH (fun g14 w15 => ?_)
    have hf := sm_letV w15 hf
    refine sm_aload_n 1 rfl d_mo_readRule_50 ?_
    refine sm_getR (n := 2) fl_mo_13 e0 rfl d_mo_readRule_51 ?_
    refine sm_iload_n 0 rfl d_mo_readRule_54 ?_
    refine sm_iconst (v := 2) (by decide) d_mo_readRule_55 ?_
    refine sm_iadd d_mo_readRule_56 ?_
    refine sm_aload_n 1 rfl d_mo_readRule_57 ?_
    refine sm_getR (n := 2) fl_mo_13 e0 rfl d_mo_readRule_58 ?_
    refine sm_bipush (v := 7) (by decide) d_mo_readRule_61 ?_
    obtain ⟨c16, hf⟩ := sm_gdE hf
    refine sm_iald (sm_at_arr (sm_inner e0 1 rfl rfl rfl)) c16 d_mo_readRule_63 ?_
    obtain ⟨c17, hf⟩ := sm_gdE hf
    refine sm_iast (sm_at_arr (sm_inner e0 1 rfl rfl rfl)) c17 d_mo_readRule_64 ?_
    refine sm_nmH (fun g18 w19 => ?_)
    have hf := sm_letV w19 hf
    refine sm_iconst (v := 0) (by decide) d_mo_readRule_65 ?_
    refine sm_istore_n (lv' := [(2, .int 0), (1, .int x2), (0, .ref a0)]) d_mo_readRule_66 rfl rfl ?_
    refine sm_iconst (v := 1) (by decide) d_mo_readRule_67 ?_
    refine sm_istore_n (lv' := [(3, .int 1), (2, .int 0), (1, .int x2), (0, .ref a0)]) d_mo_readRule_68 rfl rfl ?_
    refine sm_sub [3, 2, 1, 0] rfl ?_
    exact w_mo_readRule_L69 l lo hi d sm_N _ _ _ _ _ e0 hf
  · have hf := sm_ifT c11 hf
    refine sm_iconst (v := 0) (by decide) d_mo_readRule_33 ?_
    obtain ⟨rfl, rfl⟩ := sm_ret2 hf
    exact sm_bret (by decide) d_mo_readRule_34 rfl
theorem d_mo_readKind_0 : decode q_mo_readKind.2.1 0 = .ok (.aload_n 0, 1) := by decide +kernel
theorem d_mo_readKind_1 : decode q_mo_readKind.2.1 1 = .ok (.invokevirtual 141, 3) := by decide +kernel
theorem d_mo_readKind_4 : decode q_mo_readKind.2.1 4 = .ok (.ifCond .ne 5, 3) := by decide +kernel
theorem d_mo_readKind_7 : decode q_mo_readKind.2.1 7 = .ok (.iconst 0, 1) := by decide +kernel
theorem d_mo_readKind_8 : decode q_mo_readKind.2.1 8 = .ok (.ireturn, 1) := by decide +kernel
theorem d_mo_readKind_9 : decode q_mo_readKind.2.1 9 = .ok (.aload_n 0, 1) := by decide +kernel
theorem d_mo_readKind_10 : decode q_mo_readKind.2.1 10 = .ok (.aload_n 0, 1) := by decide +kernel
theorem d_mo_readKind_11 : decode q_mo_readKind.2.1 11 = .ok (.getfield 133, 3) := by decide +kernel
theorem d_mo_readKind_14 : decode q_mo_readKind.2.1 14 = .ok (.ldc2_w 242, 3) := by decide +kernel
theorem d_mo_readKind_17 : decode q_mo_readKind.2.1 17 = .ok (.lcmp, 1) := by decide +kernel
theorem d_mo_readKind_18 : decode q_mo_readKind.2.1 18 = .ok (.ifCond .ne 7, 3) := by decide +kernel
theorem d_mo_readKind_21 : decode q_mo_readKind.2.1 21 = .ok (.iconst 0, 1) := by decide +kernel
theorem d_mo_readKind_22 : decode q_mo_readKind.2.1 22 = .ok (.goto 34, 3) := by decide +kernel
theorem d_mo_readKind_25 : decode q_mo_readKind.2.1 25 = .ok (.aload_n 0, 1) := by decide +kernel
theorem d_mo_readKind_26 : decode q_mo_readKind.2.1 26 = .ok (.getfield 133, 3) := by decide +kernel
theorem d_mo_readKind_29 : decode q_mo_readKind.2.1 29 = .ok (.ldc2_w 244, 3) := by decide +kernel
theorem d_mo_readKind_32 : decode q_mo_readKind.2.1 32 = .ok (.lcmp, 1) := by decide +kernel
theorem d_mo_readKind_33 : decode q_mo_readKind.2.1 33 = .ok (.ifCond .ne 7, 3) := by decide +kernel
theorem d_mo_readKind_36 : decode q_mo_readKind.2.1 36 = .ok (.iconst 1, 1) := by decide +kernel
theorem d_mo_readKind_37 : decode q_mo_readKind.2.1 37 = .ok (.goto 19, 3) := by decide +kernel
theorem d_mo_readKind_40 : decode q_mo_readKind.2.1 40 = .ok (.aload_n 0, 1) := by decide +kernel
theorem d_mo_readKind_41 : decode q_mo_readKind.2.1 41 = .ok (.getfield 133, 3) := by decide +kernel
theorem d_mo_readKind_44 : decode q_mo_readKind.2.1 44 = .ok (.ldc2_w 246, 3) := by decide +kernel
theorem d_mo_readKind_47 : decode q_mo_readKind.2.1 47 = .ok (.lcmp, 1) := by decide +kernel
theorem d_mo_readKind_48 : decode q_mo_readKind.2.1 48 = .ok (.ifCond .ne 7, 3) := by decide +kernel
theorem d_mo_readKind_51 : decode q_mo_readKind.2.1 51 = .ok (.iconst 2, 1) := by decide +kernel
theorem d_mo_readKind_52 : decode q_mo_readKind.2.1 52 = .ok (.goto 4, 3) := by decide +kernel
theorem d_mo_readKind_55 : decode q_mo_readKind.2.1 55 = .ok (.iconst (-1), 1) := by decide +kernel
theorem d_mo_readKind_56 : decode q_mo_readKind.2.1 56 = .ok (.putfield 151, 3) := by decide +kernel
theorem d_mo_readKind_59 : decode q_mo_readKind.2.1 59 = .ok (.aload_n 0, 1) := by decide +kernel
theorem d_mo_readKind_60 : decode q_mo_readKind.2.1 60 = .ok (.getfield 151, 3) := by decide +kernel
theorem d_mo_readKind_63 : decode q_mo_readKind.2.1 63 = .ok (.iconst 0, 1) := by decide +kernel
theorem d_mo_readKind_64 : decode q_mo_readKind.2.1 64 = .ok (.iload_n 1, 1) := by decide +kernel
theorem d_mo_readKind_65 : decode q_mo_readKind.2.1 65 = .ok (.invokestatic 91, 3) := by decide +kernel
theorem d_mo_readKind_68 : decode q_mo_readKind.2.1 68 = .ok (.ifCond .ne 13, 3) := by decide +kernel
theorem d_mo_readKind_71 : decode q_mo_readKind.2.1 71 = .ok (.aload_n 0, 1) := by decide +kernel
theorem d_mo_readKind_72 : decode q_mo_readKind.2.1 72 = .ok (.iconst 1, 1) := by decide +kernel
theorem d_mo_readKind_73 : decode q_mo_readKind.2.1 73 = .ok (.aload_n 0, 1) := by decide +kernel
theorem d_mo_readKind_74 : decode q_mo_readKind.2.1 74 = .ok (.getfield 115, 3) := by decide +kernel
theorem d_mo_readKind_77 : decode q_mo_readKind.2.1 77 = .ok (.invokevirtual 129, 3) := by decide +kernel
theorem d_mo_readKind_80 : decode q_mo_readKind.2.1 80 = .ok (.ireturn, 1) := by decide +kernel
theorem d_mo_readKind_81 : decode q_mo_readKind.2.1 81 = .ok (.aload_n 0, 1) := by decide +kernel
theorem d_mo_readKind_82 : decode q_mo_readKind.2.1 82 = .ok (.invokevirtual 145, 3) := by decide +kernel
theorem d_mo_readKind_85 : decode q_mo_readKind.2.1 85 = .ok (.iconst 1, 1) := by decide +kernel
theorem d_mo_readKind_86 : decode q_mo_readKind.2.1 86 = .ok (.ireturn, 1) := by decide +kernel
theorem w_mo_readKind_L56 (l : Launch) (lo hi d : Nat) {h' : sm_H} {r0 : Int32} (a0 : Nat) (a1 : Int32) (s0 : Int32) (s1 : Nat) (h : sm_H) (e0 : sm_at lo hi (0, 10, 0) a0) (t1 : sm_at lo hi (0, 10, 0) s1) (hf : f_mo_readKind_L56 a0 a1 s0 s1 h = some (r0, h')) : sm_W l lo hi (d + 3) q_mo_readKind 56 [(0, .ref a0), (1, .int a1)] [.int s0, .ref s1] h (some (.int r0)) h' := by
  unfold f_mo_readKind_L56 at hf
  refine sm_putI fp_mo_151 t1 rfl rfl d_mo_readKind_56 ?_
  refine sm_nmH (fun g8 w9 => ?_)
  have hf := sm_letV w9 hf
  refine sm_aload_n 0 rfl d_mo_readKind_59 ?_
  refine sm_getI fl_mo_151 e0 rfl d_mo_readKind_60 ?_
  refine sm_iconst (v := 0) (by decide) d_mo_readKind_63 ?_
  refine sm_iload_n 1 rfl d_mo_readKind_64 ?_
  obtain ⟨r10, g11, c12, hf⟩ := sm_b2E hf
  refine sm_callS (As := [.int (g8 a0 14), .int 0, .int a1]) (rv := some (.int r10)) (h1 := g11) cvs_mo_91 (m_mo_in l lo hi _ c12) rfl rfl d_mo_readKind_65 ?_
  refine sm_if_ne 81 d_mo_readKind_68 rfl (fun c13 => ?_) (fun c13 => ?_)
  · have hf := sm_ifF c13 hf
    refine sm_aload_n 0 rfl d_mo_readKind_81 ?_
    obtain ⟨g14, c15, hf⟩ := sm_bindE hf
    refine sm_callV (As := []) (rv := none) (h1 := g14) (c := 10) cvv_mo_145 rfl rfl e0 (m_mo_passWord l lo hi _ e0 c15) rfl rfl d_mo_readKind_82 ?_
    refine sm_iconst (v := 1) (by decide) d_mo_readKind_85 ?_
    obtain ⟨rfl, rfl⟩ := sm_ret2 hf
    exact sm_bret (by decide) d_mo_readKind_86 rfl
  · have hf := sm_ifT c13 hf
    refine sm_aload_n 0 rfl d_mo_readKind_71 ?_
    refine sm_iconst (v := 1) (by decide) d_mo_readKind_72 ?_
    refine sm_aload_n 0 rfl d_mo_readKind_73 ?_
    refine sm_getI fl_mo_115 e0 rfl d_mo_readKind_74 ?_
    obtain ⟨r16, g17, c18, hf⟩ := sm_b2E hf
    refine sm_callV (As := [.int 1, .int (g11 a0 13)]) (rv := some (.int r16)) (h1 := g17) (c := 10) cvv_mo_129 rfl rfl e0 (m_mo_fails l lo hi _ e0 c18) rfl rfl d_mo_readKind_77 ?_
    obtain ⟨c19, hf⟩ := sm_gdE hf
    obtain ⟨rfl, rfl⟩ := sm_ret2 hf
    exact sm_bret c19 d_mo_readKind_80 rfl
theorem m_mo_readKind (l : Launch) (lo hi d : Nat) {a0 : Nat} {a1 : Int32} {r0 : Int32} {h h' : sm_H} (e0 : sm_at lo hi (0, 10, 0) a0) (hf : f_mo_readKind a0 a1 h = some (r0, h')) : sm_Met l lo hi (d + 3) q_mo_readKind [.ref a0, .int a1] h (some (.int r0)) h' := by
  refine sm_Met.of (by decide +kernel) rfl ?_
  show sm_W l lo hi (d + 3) q_mo_readKind 0 [(0, .ref a0), (1, .int a1)] [] h (some (.int r0)) h'
  unfold f_mo_readKind at hf
  refine sm_aload_n 0 rfl d_mo_readKind_0 ?_
  obtain ⟨r1, g2, c3, hf⟩ := sm_b2E hf
  refine sm_callV (As := []) (rv := some (.int r1)) (h1 := g2) (c := 10) cvv_mo_141 rfl rfl e0 (m_mo_seesWord l lo hi _ e0 c3) rfl rfl d_mo_readKind_1 ?_
  refine sm_if_ne 9 d_mo_readKind_4 rfl (fun c4 => ?_) (fun c4 => ?_)
  · have hf := sm_ifF c4 hf
    refine sm_aload_n 0 rfl d_mo_readKind_9 ?_
    refine sm_aload_n 0 rfl d_mo_readKind_10 ?_
    refine sm_getL fl_mo_133 e0 rfl d_mo_readKind_11 ?_
    refine sm_ldc2 (v := 660095385) (sm_mq6 150 (by decide +kernel) rfl) d_mo_readKind_14 ?_
    refine sm_lcmp d_mo_readKind_17 ?_
    refine sm_if_ne 25 d_mo_readKind_18 rfl (fun c5 => ?_) (fun c5 => ?_)
    · have hf := sm_ifF c5 hf
      refine sm_aload_n 0 rfl d_mo_readKind_25 ?_
      refine sm_getL fl_mo_133 e0 rfl d_mo_readKind_26 ?_
      refine sm_ldc2 (v := 6182458996) (sm_mq6 151 (by decide +kernel) rfl) d_mo_readKind_29 ?_
      refine sm_lcmp d_mo_readKind_32 ?_
      refine sm_if_ne 40 d_mo_readKind_33 rfl (fun c6 => ?_) (fun c6 => ?_)
      · have hf := sm_ifF c6 hf
        refine sm_aload_n 0 rfl d_mo_readKind_40 ?_
        refine sm_getL fl_mo_133 e0 rfl d_mo_readKind_41 ?_
        refine sm_ldc2 (v := 20579634) (sm_mq6 152 (by decide +kernel) rfl) d_mo_readKind_44 ?_
        refine sm_lcmp d_mo_readKind_47 ?_
        refine sm_if_ne 55 d_mo_readKind_48 rfl (fun c7 => ?_) (fun c7 => ?_)
        · have hf := sm_ifF c7 hf
          refine sm_iconst (v := (-1)) (by decide) d_mo_readKind_55 ?_
          exact w_mo_readKind_L56 l lo hi d _ _ _ _ _ e0 e0 hf
        · have hf := sm_ifT c7 hf
          refine sm_iconst (v := 2) (by decide) d_mo_readKind_51 ?_
          refine sm_goto 56 d_mo_readKind_52 rfl ?_
          exact w_mo_readKind_L56 l lo hi d _ _ _ _ _ e0 e0 hf
      · have hf := sm_ifT c6 hf
        refine sm_iconst (v := 1) (by decide) d_mo_readKind_36 ?_
        refine sm_goto 56 d_mo_readKind_37 rfl ?_
        exact w_mo_readKind_L56 l lo hi d _ _ _ _ _ e0 e0 hf
    · have hf := sm_ifT c5 hf
      refine sm_iconst (v := 0) (by decide) d_mo_readKind_21 ?_
      refine sm_goto 56 d_mo_readKind_22 rfl ?_
      exact w_mo_readKind_L56 l lo hi d _ _ _ _ _ e0 e0 hf
  · have hf := sm_ifT c4 hf
    refine sm_iconst (v := 0) (by decide) d_mo_readKind_7 ?_
    obtain ⟨rfl, rfl⟩ := sm_ret2 hf
    exact sm_bret (by decide) d_mo_readKind_8 rfl
theorem d_mo_readDamper_0 : decode q_mo_readDamper.2.1 0 = .ok (.bipush 10, 2) := by decide +kernel
theorem d_mo_readDamper_2 : decode q_mo_readDamper.2.1 2 = .ok (.iconst 4, 1) := by decide +kernel
theorem d_mo_readDamper_3 : decode q_mo_readDamper.2.1 3 = .ok (.aload_n 0, 1) := by decide +kernel
theorem d_mo_readDamper_4 : decode q_mo_readDamper.2.1 4 = .ok (.getfield 13, 3) := by decide +kernel
theorem d_mo_readDamper_7 : decode q_mo_readDamper.2.1 7 = .ok (.iconst 1, 1) := by decide +kernel
theorem d_mo_readDamper_8 : decode q_mo_readDamper.2.1 8 = .ok (.iaload, 1) := by decide +kernel
theorem d_mo_readDamper_9 : decode q_mo_readDamper.2.1 9 = .ok (.imul, 1) := by decide +kernel
theorem d_mo_readDamper_10 : decode q_mo_readDamper.2.1 10 = .ok (.iadd, 1) := by decide +kernel
theorem d_mo_readDamper_11 : decode q_mo_readDamper.2.1 11 = .ok (.istore_n 1, 1) := by decide +kernel
theorem d_mo_readDamper_12 : decode q_mo_readDamper.2.1 12 = .ok (.aload_n 0, 1) := by decide +kernel
theorem d_mo_readDamper_13 : decode q_mo_readDamper.2.1 13 = .ok (.iconst 1, 1) := by decide +kernel
theorem d_mo_readDamper_14 : decode q_mo_readDamper.2.1 14 = .ok (.invokevirtual 248, 3) := by decide +kernel
theorem d_mo_readDamper_17 : decode q_mo_readDamper.2.1 17 = .ok (.ifCond .ne 5, 3) := by decide +kernel
theorem d_mo_readDamper_20 : decode q_mo_readDamper.2.1 20 = .ok (.iconst 0, 1) := by decide +kernel
theorem d_mo_readDamper_21 : decode q_mo_readDamper.2.1 21 = .ok (.ireturn, 1) := by decide +kernel
theorem d_mo_readDamper_22 : decode q_mo_readDamper.2.1 22 = .ok (.aload_n 0, 1) := by decide +kernel
theorem d_mo_readDamper_23 : decode q_mo_readDamper.2.1 23 = .ok (.getfield 13, 3) := by decide +kernel
theorem d_mo_readDamper_26 : decode q_mo_readDamper.2.1 26 = .ok (.iload_n 1, 1) := by decide +kernel
theorem d_mo_readDamper_27 : decode q_mo_readDamper.2.1 27 = .ok (.iconst 0, 1) := by decide +kernel
theorem d_mo_readDamper_28 : decode q_mo_readDamper.2.1 28 = .ok (.iadd, 1) := by decide +kernel
theorem d_mo_readDamper_29 : decode q_mo_readDamper.2.1 29 = .ok (.aload_n 0, 1) := by decide +kernel
theorem d_mo_readDamper_30 : decode q_mo_readDamper.2.1 30 = .ok (.getfield 151, 3) := by decide +kernel
theorem d_mo_readDamper_33 : decode q_mo_readDamper.2.1 33 = .ok (.iastore, 1) := by decide +kernel
theorem d_mo_readDamper_34 : decode q_mo_readDamper.2.1 34 = .ok (.aload_n 0, 1) := by decide +kernel
theorem d_mo_readDamper_35 : decode q_mo_readDamper.2.1 35 = .ok (.iconst 0, 1) := by decide +kernel
theorem d_mo_readDamper_36 : decode q_mo_readDamper.2.1 36 = .ok (.aload_n 0, 1) := by decide +kernel
theorem d_mo_readDamper_37 : decode q_mo_readDamper.2.1 37 = .ok (.getfield 13, 3) := by decide +kernel
theorem d_mo_readDamper_40 : decode q_mo_readDamper.2.1 40 = .ok (.iconst 0, 1) := by decide +kernel
theorem d_mo_readDamper_41 : decode q_mo_readDamper.2.1 41 = .ok (.iaload, 1) := by decide +kernel
theorem d_mo_readDamper_42 : decode q_mo_readDamper.2.1 42 = .ok (.iconst 1, 1) := by decide +kernel
theorem d_mo_readDamper_43 : decode q_mo_readDamper.2.1 43 = .ok (.isub, 1) := by decide +kernel
theorem d_mo_readDamper_44 : decode q_mo_readDamper.2.1 44 = .ok (.invokevirtual 178, 3) := by decide +kernel
theorem d_mo_readDamper_47 : decode q_mo_readDamper.2.1 47 = .ok (.ifCond .ne 5, 3) := by decide +kernel
theorem d_mo_readDamper_50 : decode q_mo_readDamper.2.1 50 = .ok (.iconst 0, 1) := by decide +kernel
theorem d_mo_readDamper_51 : decode q_mo_readDamper.2.1 51 = .ok (.ireturn, 1) := by decide +kernel
theorem d_mo_readDamper_52 : decode q_mo_readDamper.2.1 52 = .ok (.aload_n 0, 1) := by decide +kernel
theorem d_mo_readDamper_53 : decode q_mo_readDamper.2.1 53 = .ok (.getfield 13, 3) := by decide +kernel
theorem d_mo_readDamper_56 : decode q_mo_readDamper.2.1 56 = .ok (.iload_n 1, 1) := by decide +kernel
theorem d_mo_readDamper_57 : decode q_mo_readDamper.2.1 57 = .ok (.iconst 1, 1) := by decide +kernel
theorem d_mo_readDamper_58 : decode q_mo_readDamper.2.1 58 = .ok (.iadd, 1) := by decide +kernel
theorem d_mo_readDamper_59 : decode q_mo_readDamper.2.1 59 = .ok (.aload_n 0, 1) := by decide +kernel
theorem d_mo_readDamper_60 : decode q_mo_readDamper.2.1 60 = .ok (.getfield 151, 3) := by decide +kernel
theorem d_mo_readDamper_63 : decode q_mo_readDamper.2.1 63 = .ok (.iastore, 1) := by decide +kernel
theorem d_mo_readDamper_64 : decode q_mo_readDamper.2.1 64 = .ok (.aload_n 0, 1) := by decide +kernel
theorem d_mo_readDamper_65 : decode q_mo_readDamper.2.1 65 = .ok (.iconst 1, 1) := by decide +kernel
theorem d_mo_readDamper_66 : decode q_mo_readDamper.2.1 66 = .ok (.bipush 30, 2) := by decide +kernel
theorem d_mo_readDamper_68 : decode q_mo_readDamper.2.1 68 = .ok (.invokevirtual 178, 3) := by decide +kernel
theorem d_mo_readDamper_71 : decode q_mo_readDamper.2.1 71 = .ok (.ifCond .ne 5, 3) := by decide +kernel
theorem d_mo_readDamper_74 : decode q_mo_readDamper.2.1 74 = .ok (.iconst 0, 1) := by decide +kernel
theorem d_mo_readDamper_75 : decode q_mo_readDamper.2.1 75 = .ok (.ireturn, 1) := by decide +kernel
theorem d_mo_readDamper_76 : decode q_mo_readDamper.2.1 76 = .ok (.aload_n 0, 1) := by decide +kernel
theorem d_mo_readDamper_77 : decode q_mo_readDamper.2.1 77 = .ok (.getfield 13, 3) := by decide +kernel
theorem d_mo_readDamper_80 : decode q_mo_readDamper.2.1 80 = .ok (.iload_n 1, 1) := by decide +kernel
theorem d_mo_readDamper_81 : decode q_mo_readDamper.2.1 81 = .ok (.iconst 2, 1) := by decide +kernel
theorem d_mo_readDamper_82 : decode q_mo_readDamper.2.1 82 = .ok (.iadd, 1) := by decide +kernel
theorem d_mo_readDamper_83 : decode q_mo_readDamper.2.1 83 = .ok (.aload_n 0, 1) := by decide +kernel
theorem d_mo_readDamper_84 : decode q_mo_readDamper.2.1 84 = .ok (.getfield 151, 3) := by decide +kernel
theorem d_mo_readDamper_87 : decode q_mo_readDamper.2.1 87 = .ok (.iastore, 1) := by decide +kernel
theorem d_mo_readDamper_88 : decode q_mo_readDamper.2.1 88 = .ok (.aload_n 0, 1) := by decide +kernel
theorem d_mo_readDamper_89 : decode q_mo_readDamper.2.1 89 = .ok (.invokevirtual 118, 3) := by decide +kernel
theorem d_mo_readDamper_92 : decode q_mo_readDamper.2.1 92 = .ok (.invokestatic 122, 3) := by decide +kernel
theorem d_mo_readDamper_95 : decode q_mo_readDamper.2.1 95 = .ok (.ifCond .eq 24, 3) := by decide +kernel
theorem d_mo_readDamper_98 : decode q_mo_readDamper.2.1 98 = .ok (.aload_n 0, 1) := by decide +kernel
theorem d_mo_readDamper_99 : decode q_mo_readDamper.2.1 99 = .ok (.ldc2_w 217, 3) := by decide +kernel
theorem d_mo_readDamper_102 : decode q_mo_readDamper.2.1 102 = .ok (.invokevirtual 251, 3) := by decide +kernel
theorem d_mo_readDamper_105 : decode q_mo_readDamper.2.1 105 = .ok (.ifCond .ne 5, 3) := by decide +kernel
theorem d_mo_readDamper_108 : decode q_mo_readDamper.2.1 108 = .ok (.iconst 0, 1) := by decide +kernel
theorem d_mo_readDamper_109 : decode q_mo_readDamper.2.1 109 = .ok (.ireturn, 1) := by decide +kernel
theorem d_mo_readDamper_110 : decode q_mo_readDamper.2.1 110 = .ok (.aload_n 0, 1) := by decide +kernel
theorem d_mo_readDamper_111 : decode q_mo_readDamper.2.1 111 = .ok (.getfield 13, 3) := by decide +kernel
theorem d_mo_readDamper_114 : decode q_mo_readDamper.2.1 114 = .ok (.iload_n 1, 1) := by decide +kernel
theorem d_mo_readDamper_115 : decode q_mo_readDamper.2.1 115 = .ok (.iconst 3, 1) := by decide +kernel
theorem d_mo_readDamper_116 : decode q_mo_readDamper.2.1 116 = .ok (.iadd, 1) := by decide +kernel
theorem d_mo_readDamper_117 : decode q_mo_readDamper.2.1 117 = .ok (.iconst 1, 1) := by decide +kernel
theorem d_mo_readDamper_118 : decode q_mo_readDamper.2.1 118 = .ok (.iastore, 1) := by decide +kernel
theorem d_mo_readDamper_119 : decode q_mo_readDamper.2.1 119 = .ok (.aload_n 0, 1) := by decide +kernel
theorem d_mo_readDamper_120 : decode q_mo_readDamper.2.1 120 = .ok (.getfield 13, 3) := by decide +kernel
theorem d_mo_readDamper_123 : decode q_mo_readDamper.2.1 123 = .ok (.iconst 1, 1) := by decide +kernel
theorem d_mo_readDamper_124 : decode q_mo_readDamper.2.1 124 = .ok (.aload_n 0, 1) := by decide +kernel
theorem d_mo_readDamper_125 : decode q_mo_readDamper.2.1 125 = .ok (.getfield 13, 3) := by decide +kernel
theorem d_mo_readDamper_128 : decode q_mo_readDamper.2.1 128 = .ok (.iconst 1, 1) := by decide +kernel
theorem d_mo_readDamper_129 : decode q_mo_readDamper.2.1 129 = .ok (.iaload, 1) := by decide +kernel
theorem d_mo_readDamper_130 : decode q_mo_readDamper.2.1 130 = .ok (.iconst 1, 1) := by decide +kernel
theorem d_mo_readDamper_131 : decode q_mo_readDamper.2.1 131 = .ok (.iadd, 1) := by decide +kernel
theorem d_mo_readDamper_132 : decode q_mo_readDamper.2.1 132 = .ok (.iastore, 1) := by decide +kernel
theorem d_mo_readDamper_133 : decode q_mo_readDamper.2.1 133 = .ok (.iconst 1, 1) := by decide +kernel
theorem d_mo_readDamper_134 : decode q_mo_readDamper.2.1 134 = .ok (.ireturn, 1) := by decide +kernel
theorem w_mo_readDamper_L119 (l : Launch) (lo hi d : Nat) {h' : sm_H} {r0 : Int32} (a0 : Nat) (h : sm_H) (e0 : sm_at lo hi (0, 10, 0) a0) (hf : f_mo_readDamper_L119 a0 h = some (r0, h')) : sm_W l lo hi (d + 4) q_mo_readDamper 119 [(0, .ref a0)] [] h (some (.int r0)) h' := by
  unfold f_mo_readDamper_L119 at hf
  refine sm_aload_n 0 rfl d_mo_readDamper_119 ?_
  refine sm_getR (n := 2) fl_mo_13 e0 rfl d_mo_readDamper_120 ?_
  refine sm_iconst (v := 1) (by decide) d_mo_readDamper_123 ?_
  refine sm_aload_n 0 rfl d_mo_readDamper_124 ?_
  refine sm_getR (n := 2) fl_mo_13 e0 rfl d_mo_readDamper_125 ?_
  refine sm_iconst (v := 1) (by decide) d_mo_readDamper_128 ?_
  obtain ⟨c40, hf⟩ := sm_gdE hf
  refine sm_iald (sm_at_arr (sm_inner e0 1 rfl rfl rfl)) c40 d_mo_readDamper_129 ?_
  refine sm_iconst (v := 1) (by decide) d_mo_readDamper_130 ?_
  refine sm_iadd d_mo_readDamper_131 ?_
  obtain ⟨c41, hf⟩ := sm_gdE hf
  refine sm_iast (sm_at_arr (sm_inner e0 1 rfl rfl rfl)) c41 d_mo_readDamper_132 ?_
  refine sm_nmH (fun g42 w43 => ?_)
  have hf := sm_letV w43 hf
  refine sm_iconst (v := 1) (by decide) d_mo_readDamper_133 ?_
  obtain ⟨rfl, rfl⟩ := sm_ret2 hf
  exact sm_bret (by decide) d_mo_readDamper_134 rfl
theorem m_mo_readDamper (l : Launch) (lo hi d : Nat) {a0 : Nat} {r0 : Int32} {h h' : sm_H} (e0 : sm_at lo hi (0, 10, 0) a0) (hf : f_mo_readDamper a0 h = some (r0, h')) : sm_Met l lo hi (d + 4) q_mo_readDamper [.ref a0] h (some (.int r0)) h' := by
  refine sm_Met.of (by decide +kernel) rfl ?_
  show sm_W l lo hi (d + 4) q_mo_readDamper 0 [(0, .ref a0)] [] h (some (.int r0)) h'
  unfold f_mo_readDamper at hf
  refine sm_bipush (v := 10) (by decide) d_mo_readDamper_0 ?_
  refine sm_iconst (v := 4) (by decide) d_mo_readDamper_2 ?_
  refine sm_aload_n 0 rfl d_mo_readDamper_3 ?_
  refine sm_getR (n := 2) fl_mo_13 e0 rfl d_mo_readDamper_4 ?_
  refine sm_iconst (v := 1) (by decide) d_mo_readDamper_7 ?_
  obtain ⟨c1, hf⟩ := sm_gdE hf
  refine sm_iald (sm_at_arr (sm_inner e0 1 rfl rfl rfl)) c1 d_mo_readDamper_8 ?_
  refine sm_imul d_mo_readDamper_9 ?_
  refine sm_iadd d_mo_readDamper_10 ?_
  refine sm_nmI (fun x2 w3 => ?_)
  have hf := sm_letV w3 hf
  refine sm_istore_n (lv' := [(1, .int x2), (0, .ref a0)]) d_mo_readDamper_11 rfl rfl ?_
  refine sm_aload_n 1 rfl d_mo_readDamper_12 ?_
  refine sm_iconst (v := 1) (by decide) d_mo_readDamper_13 ?_
  obtain ⟨r4, g5, c6, hf⟩ := sm_b2E hf
  refine sm_callV (As := [.int 1]) (rv := some (.int r4)) (h1 := g5) (c := 10) cvv_mo_248 rfl rfl e0 (m_mo_readKind l lo hi _ e0 c6) rfl rfl d_mo_readDamper_14 ?_
  refine sm_if_ne 22 d_mo_readDamper_17 rfl (fun c7 => ?_) (fun c7 => ?_)
  · have hf := sm_ifF c7 hf
    refine sm_aload_n 1 rfl d_mo_readDamper_22 ?_
    refine sm_getR (n := 2) fl_mo_13 e0 rfl d_mo_readDamper_23 ?_
    refine sm_iload_n 0 rfl d_mo_readDamper_26 ?_
    refine sm_iconst (v := 0) (by decide) d_mo_readDamper_27 ?_
    refine sm_iadd d_mo_readDamper_28 ?_
    refine sm_aload_n 1 rfl d_mo_readDamper_29 ?_
    refine sm_getI fl_mo_151 e0 rfl d_mo_readDamper_30 ?_
    obtain ⟨c8, hf⟩ := sm_gdE hf
    refine sm_iast (sm_at_arr (sm_inner e0 1 rfl rfl rfl)) c8 d_mo_readDamper_33 ?_
    refine sm_nmH (fun g9 w10 => ?_)
    have hf := sm_letV w10 hf
    refine sm_aload_n 1 rfl d_mo_readDamper_34 ?_
    refine sm_iconst (v := 0) (by decide) d_mo_readDamper_35 ?_
    refine sm_aload_n 1 rfl d_mo_readDamper_36 ?_
    refine sm_getR (n := 2) fl_mo_13 e0 rfl d_mo_readDamper_37 ?_
    refine sm_iconst (v := 0) (by decide) d_mo_readDamper_40 ?_
    obtain ⟨c11, hf⟩ := sm_gdE hf
    refine sm_iald (sm_at_arr (sm_inner e0 1 rfl rfl rfl)) c11 d_mo_readDamper_41 ?_
    refine sm_iconst (v := 1) (by decide) d_mo_readDamper_42 ?_
    refine sm_isub d_mo_readDamper_43 ?_
    obtain ⟨r12, g13, c14, hf⟩ := sm_b2E hf
    refine sm_callV (As := [.int 0, .int ((g9 (a0 + 2) (0 : Int32).toNatClampNeg) - 1)]) (rv := some (.int r12)) (h1 := g13) (c := 10) cvv_mo_178 rfl rfl e0 (m_mo_readNumber l lo hi _ e0 c14) rfl rfl d_mo_readDamper_44 ?_
    refine sm_if_ne 52 d_mo_readDamper_47 rfl (fun c15 => ?_) (fun c15 => ?_)
    · have hf := sm_ifF c15 hf
      refine sm_aload_n 1 rfl d_mo_readDamper_52 ?_
      refine sm_getR (n := 2) fl_mo_13 e0 rfl d_mo_readDamper_53 ?_
      refine sm_iload_n 0 rfl d_mo_readDamper_56 ?_
      refine sm_iconst (v := 1) (by decide) d_mo_readDamper_57 ?_
      refine sm_iadd d_mo_readDamper_58 ?_
      refine sm_aload_n 1 rfl d_mo_readDamper_59 ?_
      refine sm_getI fl_mo_151 e0 rfl d_mo_readDamper_60 ?_
      obtain ⟨c16, hf⟩ := sm_gdE hf
      refine sm_iast (sm_at_arr (sm_inner e0 1 rfl rfl rfl)) c16 d_mo_readDamper_63 ?_
      refine sm_nmH (fun g17 w18 => ?_)
      have hf := sm_letV w18 hf
      refine sm_aload_n 1 rfl d_mo_readDamper_64 ?_
      refine sm_iconst (v := 1) (by decide) d_mo_readDamper_65 ?_
      refine sm_bipush (v := 30) (by decide) d_mo_readDamper_66 ?_
      obtain ⟨r19, g20, c21, hf⟩ := sm_b2E hf
      refine sm_callV (As := [.int 1, .int 30]) (rv := some (.int r19)) (h1 := g20) (c := 10) cvv_mo_178 rfl rfl e0 (m_mo_readNumber l lo hi _ e0 c21) rfl rfl d_mo_readDamper_68 ?_
      refine sm_if_ne 76 d_mo_readDamper_71 rfl (fun c22 => ?_) (fun c22 => ?_)
      · have hf := sm_ifF c22 hf
        refine sm_aload_n 1 rfl d_mo_readDamper_76 ?_
        refine sm_getR (n := 2) fl_mo_13 e0 rfl d_mo_readDamper_77 ?_
        refine sm_iload_n 0 rfl d_mo_readDamper_80 ?_
        refine sm_iconst (v := 2) (by decide) d_mo_readDamper_81 ?_
        refine sm_iadd d_mo_readDamper_82 ?_
        refine sm_aload_n 1 rfl d_mo_readDamper_83 ?_
        refine sm_getI fl_mo_151 e0 rfl d_mo_readDamper_84 ?_
        obtain ⟨c23, hf⟩ := sm_gdE hf
        refine sm_iast (sm_at_arr (sm_inner e0 1 rfl rfl rfl)) c23 d_mo_readDamper_87 ?_
        refine sm_nmH (fun g24 w25 => ?_)
        have hf := sm_letV w25 hf
        refine sm_aload_n 1 rfl d_mo_readDamper_88 ?_
        obtain ⟨r26, g27, c28, hf⟩ := sm_b2E hf
        refine sm_callV (As := []) (rv := some (.int r26)) (h1 := g27) (c := 10) cvv_mo_118 rfl rfl e0 (m_mo_peek l lo hi _ e0 c28) rfl rfl d_mo_readDamper_89 ?_
        obtain ⟨r29, g30, c31, hf⟩ := sm_b2E hf
        refine sm_callS (As := [.int r26]) (rv := some (.int r29)) (h1 := g30) cvs_mo_122 (m_mo_isLetter l lo hi _ c31) rfl rfl d_mo_readDamper_92 ?_
        refine sm_if_eq 119 d_mo_readDamper_95 rfl (fun c32 => ?_) (fun c32 => ?_)
        · have hf := sm_ifT c32 hf
          refine sm_sub [1] rfl ?_
          exact w_mo_readDamper_L119 l lo hi d _ _ e0 hf
        · have hf := sm_ifF c32 hf
          refine sm_aload_n 1 rfl d_mo_readDamper_98 ?_
          refine sm_ldc2 (v := 508078) (sm_mq6 153 (by decide +kernel) rfl) d_mo_readDamper_99 ?_
          obtain ⟨r33, g34, c35, hf⟩ := sm_b2E hf
          refine sm_callV (As := [.long 508078]) (rv := some (.int r33)) (h1 := g34) (c := 10) cvv_mo_251 rfl rfl e0 (m_mo_readKeyword l lo hi _ e0 c35) rfl rfl d_mo_readDamper_102 ?_
          refine sm_if_ne 110 d_mo_readDamper_105 rfl (fun c36 => ?_) (fun c36 => ?_)
          · have hf := sm_ifF c36 hf
            refine sm_aload_n 1 rfl d_mo_readDamper_110 ?_
            refine sm_getR (n := 2) fl_mo_13 e0 rfl d_mo_readDamper_111 ?_
            refine sm_iload_n 0 rfl d_mo_readDamper_114 ?_
            refine sm_iconst (v := 3) (by decide) d_mo_readDamper_115 ?_
            refine sm_iadd d_mo_readDamper_116 ?_
            refine sm_iconst (v := 1) (by decide) d_mo_readDamper_117 ?_
            obtain ⟨c37, hf⟩ := sm_gdE hf
            refine sm_iast (sm_at_arr (sm_inner e0 1 rfl rfl rfl)) c37 d_mo_readDamper_118 ?_
            refine sm_nmH (fun g38 w39 => ?_)
            have hf := sm_letV w39 hf
            refine sm_sub [1] rfl ?_
            exact w_mo_readDamper_L119 l lo hi d _ _ e0 hf
          · have hf := sm_ifT c36 hf
            refine sm_iconst (v := 0) (by decide) d_mo_readDamper_108 ?_
            obtain ⟨rfl, rfl⟩ := sm_ret2 hf
            exact sm_bret (by decide) d_mo_readDamper_109 rfl
      · have hf := sm_ifT c22 hf
        refine sm_iconst (v := 0) (by decide) d_mo_readDamper_74 ?_
        obtain ⟨rfl, rfl⟩ := sm_ret2 hf
        exact sm_bret (by decide) d_mo_readDamper_75 rfl
    · have hf := sm_ifT c15 hf
      refine sm_iconst (v := 0) (by decide) d_mo_readDamper_50 ?_
      obtain ⟨rfl, rfl⟩ := sm_ret2 hf
      exact sm_bret (by decide) d_mo_readDamper_51 rfl
  · have hf := sm_ifT c7 hf
    refine sm_iconst (v := 0) (by decide) d_mo_readDamper_20 ?_
    obtain ⟨rfl, rfl⟩ := sm_ret2 hf
    exact sm_bret (by decide) d_mo_readDamper_21 rfl
theorem d_mo_readFan_0 : decode q_mo_readFan.2.1 0 = .ok (.bipush 74, 2) := by decide +kernel
theorem d_mo_readFan_2 : decode q_mo_readFan.2.1 2 = .ok (.iconst 4, 1) := by decide +kernel
theorem d_mo_readFan_3 : decode q_mo_readFan.2.1 3 = .ok (.aload_n 0, 1) := by decide +kernel
theorem d_mo_readFan_4 : decode q_mo_readFan.2.1 4 = .ok (.getfield 13, 3) := by decide +kernel
theorem d_mo_readFan_7 : decode q_mo_readFan.2.1 7 = .ok (.iconst 2, 1) := by decide +kernel
theorem d_mo_readFan_8 : decode q_mo_readFan.2.1 8 = .ok (.iaload, 1) := by decide +kernel
theorem d_mo_readFan_9 : decode q_mo_readFan.2.1 9 = .ok (.imul, 1) := by decide +kernel
theorem d_mo_readFan_10 : decode q_mo_readFan.2.1 10 = .ok (.iadd, 1) := by decide +kernel
theorem d_mo_readFan_11 : decode q_mo_readFan.2.1 11 = .ok (.istore_n 1, 1) := by decide +kernel
theorem d_mo_readFan_12 : decode q_mo_readFan.2.1 12 = .ok (.aload_n 0, 1) := by decide +kernel
theorem d_mo_readFan_13 : decode q_mo_readFan.2.1 13 = .ok (.iconst 2, 1) := by decide +kernel
theorem d_mo_readFan_14 : decode q_mo_readFan.2.1 14 = .ok (.invokevirtual 248, 3) := by decide +kernel
theorem d_mo_readFan_17 : decode q_mo_readFan.2.1 17 = .ok (.ifCond .ne 5, 3) := by decide +kernel
theorem d_mo_readFan_20 : decode q_mo_readFan.2.1 20 = .ok (.iconst 0, 1) := by decide +kernel
theorem d_mo_readFan_21 : decode q_mo_readFan.2.1 21 = .ok (.ireturn, 1) := by decide +kernel
theorem d_mo_readFan_22 : decode q_mo_readFan.2.1 22 = .ok (.aload_n 0, 1) := by decide +kernel
theorem d_mo_readFan_23 : decode q_mo_readFan.2.1 23 = .ok (.getfield 151, 3) := by decide +kernel
theorem d_mo_readFan_26 : decode q_mo_readFan.2.1 26 = .ok (.istore_n 2, 1) := by decide +kernel
theorem d_mo_readFan_27 : decode q_mo_readFan.2.1 27 = .ok (.aload_n 0, 1) := by decide +kernel
theorem d_mo_readFan_28 : decode q_mo_readFan.2.1 28 = .ok (.getfield 13, 3) := by decide +kernel
theorem d_mo_readFan_31 : decode q_mo_readFan.2.1 31 = .ok (.iload_n 1, 1) := by decide +kernel
theorem d_mo_readFan_32 : decode q_mo_readFan.2.1 32 = .ok (.iconst 0, 1) := by decide +kernel
theorem d_mo_readFan_33 : decode q_mo_readFan.2.1 33 = .ok (.iadd, 1) := by decide +kernel
theorem d_mo_readFan_34 : decode q_mo_readFan.2.1 34 = .ok (.iload_n 2, 1) := by decide +kernel
theorem d_mo_readFan_35 : decode q_mo_readFan.2.1 35 = .ok (.iastore, 1) := by decide +kernel
theorem d_mo_readFan_36 : decode q_mo_readFan.2.1 36 = .ok (.aload_n 0, 1) := by decide +kernel
theorem d_mo_readFan_37 : decode q_mo_readFan.2.1 37 = .ok (.iconst 1, 1) := by decide +kernel
theorem d_mo_readFan_38 : decode q_mo_readFan.2.1 38 = .ok (.sipush 999, 3) := by decide +kernel
theorem d_mo_readFan_41 : decode q_mo_readFan.2.1 41 = .ok (.invokevirtual 178, 3) := by decide +kernel
theorem d_mo_readFan_44 : decode q_mo_readFan.2.1 44 = .ok (.ifCond .ne 5, 3) := by decide +kernel
theorem d_mo_readFan_47 : decode q_mo_readFan.2.1 47 = .ok (.iconst 0, 1) := by decide +kernel
theorem d_mo_readFan_48 : decode q_mo_readFan.2.1 48 = .ok (.ireturn, 1) := by decide +kernel
theorem d_mo_readFan_49 : decode q_mo_readFan.2.1 49 = .ok (.aload_n 0, 1) := by decide +kernel
theorem d_mo_readFan_50 : decode q_mo_readFan.2.1 50 = .ok (.getfield 13, 3) := by decide +kernel
theorem d_mo_readFan_53 : decode q_mo_readFan.2.1 53 = .ok (.iload_n 1, 1) := by decide +kernel
theorem d_mo_readFan_54 : decode q_mo_readFan.2.1 54 = .ok (.iconst 1, 1) := by decide +kernel
theorem d_mo_readFan_55 : decode q_mo_readFan.2.1 55 = .ok (.iadd, 1) := by decide +kernel
theorem d_mo_readFan_56 : decode q_mo_readFan.2.1 56 = .ok (.aload_n 0, 1) := by decide +kernel
theorem d_mo_readFan_57 : decode q_mo_readFan.2.1 57 = .ok (.getfield 151, 3) := by decide +kernel
theorem d_mo_readFan_60 : decode q_mo_readFan.2.1 60 = .ok (.iastore, 1) := by decide +kernel
theorem d_mo_readFan_61 : decode q_mo_readFan.2.1 61 = .ok (.aload_n 0, 1) := by decide +kernel
theorem d_mo_readFan_62 : decode q_mo_readFan.2.1 62 = .ok (.iconst 1, 1) := by decide +kernel
theorem d_mo_readFan_63 : decode q_mo_readFan.2.1 63 = .ok (.bipush 30, 2) := by decide +kernel
theorem d_mo_readFan_65 : decode q_mo_readFan.2.1 65 = .ok (.invokevirtual 178, 3) := by decide +kernel
theorem d_mo_readFan_68 : decode q_mo_readFan.2.1 68 = .ok (.ifCond .ne 5, 3) := by decide +kernel
theorem d_mo_readFan_71 : decode q_mo_readFan.2.1 71 = .ok (.iconst 0, 1) := by decide +kernel
theorem d_mo_readFan_72 : decode q_mo_readFan.2.1 72 = .ok (.ireturn, 1) := by decide +kernel
theorem d_mo_readFan_73 : decode q_mo_readFan.2.1 73 = .ok (.aload_n 0, 1) := by decide +kernel
theorem d_mo_readFan_74 : decode q_mo_readFan.2.1 74 = .ok (.getfield 13, 3) := by decide +kernel
theorem d_mo_readFan_77 : decode q_mo_readFan.2.1 77 = .ok (.iload_n 1, 1) := by decide +kernel
theorem d_mo_readFan_78 : decode q_mo_readFan.2.1 78 = .ok (.iconst 2, 1) := by decide +kernel
theorem d_mo_readFan_79 : decode q_mo_readFan.2.1 79 = .ok (.iadd, 1) := by decide +kernel
theorem d_mo_readFan_80 : decode q_mo_readFan.2.1 80 = .ok (.aload_n 0, 1) := by decide +kernel
theorem d_mo_readFan_81 : decode q_mo_readFan.2.1 81 = .ok (.getfield 151, 3) := by decide +kernel
theorem d_mo_readFan_84 : decode q_mo_readFan.2.1 84 = .ok (.iastore, 1) := by decide +kernel
theorem d_mo_readFan_85 : decode q_mo_readFan.2.1 85 = .ok (.aload_n 0, 1) := by decide +kernel
theorem d_mo_readFan_86 : decode q_mo_readFan.2.1 86 = .ok (.invokevirtual 118, 3) := by decide +kernel
theorem d_mo_readFan_89 : decode q_mo_readFan.2.1 89 = .ok (.invokestatic 148, 3) := by decide +kernel
theorem d_mo_readFan_92 : decode q_mo_readFan.2.1 92 = .ok (.ifCond .eq 95, 3) := by decide +kernel
theorem d_mo_readFan_95 : decode q_mo_readFan.2.1 95 = .ok (.aload_n 0, 1) := by decide +kernel
theorem d_mo_readFan_96 : decode q_mo_readFan.2.1 96 = .ok (.iconst 0, 1) := by decide +kernel
theorem d_mo_readFan_97 : decode q_mo_readFan.2.1 97 = .ok (.aload_n 0, 1) := by decide +kernel
theorem d_mo_readFan_98 : decode q_mo_readFan.2.1 98 = .ok (.getfield 13, 3) := by decide +kernel
theorem d_mo_readFan_101 : decode q_mo_readFan.2.1 101 = .ok (.iconst 1, 1) := by decide +kernel
theorem d_mo_readFan_102 : decode q_mo_readFan.2.1 102 = .ok (.iaload, 1) := by decide +kernel
theorem d_mo_readFan_103 : decode q_mo_readFan.2.1 103 = .ok (.iconst 1, 1) := by decide +kernel
theorem d_mo_readFan_104 : decode q_mo_readFan.2.1 104 = .ok (.isub, 1) := by decide +kernel
theorem d_mo_readFan_105 : decode q_mo_readFan.2.1 105 = .ok (.invokevirtual 178, 3) := by decide +kernel
theorem d_mo_readFan_108 : decode q_mo_readFan.2.1 108 = .ok (.ifCond .ne 5, 3) := by decide +kernel
theorem d_mo_readFan_111 : decode q_mo_readFan.2.1 111 = .ok (.iconst 0, 1) := by decide +kernel
theorem d_mo_readFan_112 : decode q_mo_readFan.2.1 112 = .ok (.ireturn, 1) := by decide +kernel
theorem d_mo_readFan_113 : decode q_mo_readFan.2.1 113 = .ok (.aload_n 0, 1) := by decide +kernel
theorem d_mo_readFan_114 : decode q_mo_readFan.2.1 114 = .ok (.getfield 13, 3) := by decide +kernel
theorem d_mo_readFan_117 : decode q_mo_readFan.2.1 117 = .ok (.bipush 10, 2) := by decide +kernel
theorem d_mo_readFan_119 : decode q_mo_readFan.2.1 119 = .ok (.iconst 4, 1) := by decide +kernel
theorem d_mo_readFan_120 : decode q_mo_readFan.2.1 120 = .ok (.aload_n 0, 1) := by decide +kernel
theorem d_mo_readFan_121 : decode q_mo_readFan.2.1 121 = .ok (.getfield 151, 3) := by decide +kernel
theorem d_mo_readFan_124 : decode q_mo_readFan.2.1 124 = .ok (.imul, 1) := by decide +kernel
theorem d_mo_readFan_125 : decode q_mo_readFan.2.1 125 = .ok (.iadd, 1) := by decide +kernel
theorem d_mo_readFan_126 : decode q_mo_readFan.2.1 126 = .ok (.iconst 0, 1) := by decide +kernel
theorem d_mo_readFan_127 : decode q_mo_readFan.2.1 127 = .ok (.iadd, 1) := by decide +kernel
theorem d_mo_readFan_128 : decode q_mo_readFan.2.1 128 = .ok (.iaload, 1) := by decide +kernel
theorem d_mo_readFan_129 : decode q_mo_readFan.2.1 129 = .ok (.iload_n 2, 1) := by decide +kernel
theorem d_mo_readFan_130 : decode q_mo_readFan.2.1 130 = .ok (.if_icmp .ne 21, 3) := by decide +kernel
theorem d_mo_readFan_133 : decode q_mo_readFan.2.1 133 = .ok (.aload_n 0, 1) := by decide +kernel
theorem d_mo_readFan_134 : decode q_mo_readFan.2.1 134 = .ok (.getfield 13, 3) := by decide +kernel
theorem d_mo_readFan_137 : decode q_mo_readFan.2.1 137 = .ok (.iload_n 1, 1) := by decide +kernel
theorem d_mo_readFan_138 : decode q_mo_readFan.2.1 138 = .ok (.iconst 3, 1) := by decide +kernel
theorem d_mo_readFan_139 : decode q_mo_readFan.2.1 139 = .ok (.iadd, 1) := by decide +kernel
theorem d_mo_readFan_140 : decode q_mo_readFan.2.1 140 = .ok (.iaload, 1) := by decide +kernel
theorem d_mo_readFan_141 : decode q_mo_readFan.2.1 141 = .ok (.aload_n 0, 1) := by decide +kernel
theorem d_mo_readFan_142 : decode q_mo_readFan.2.1 142 = .ok (.getfield 151, 3) := by decide +kernel
theorem d_mo_readFan_145 : decode q_mo_readFan.2.1 145 = .ok (.invokestatic 255, 3) := by decide +kernel
theorem d_mo_readFan_148 : decode q_mo_readFan.2.1 148 = .ok (.ifCond .eq 13, 3) := by decide +kernel
theorem d_mo_readFan_151 : decode q_mo_readFan.2.1 151 = .ok (.aload_n 0, 1) := by decide +kernel
theorem d_mo_readFan_152 : decode q_mo_readFan.2.1 152 = .ok (.iconst 2, 1) := by decide +kernel
theorem d_mo_readFan_153 : decode q_mo_readFan.2.1 153 = .ok (.aload_n 0, 1) := by decide +kernel
theorem d_mo_readFan_154 : decode q_mo_readFan.2.1 154 = .ok (.getfield 115, 3) := by decide +kernel
theorem d_mo_readFan_157 : decode q_mo_readFan.2.1 157 = .ok (.invokevirtual 129, 3) := by decide +kernel
theorem d_mo_readFan_160 : decode q_mo_readFan.2.1 160 = .ok (.ireturn, 1) := by decide +kernel
theorem d_mo_readFan_161 : decode q_mo_readFan.2.1 161 = .ok (.aload_n 0, 1) := by decide +kernel
theorem d_mo_readFan_162 : decode q_mo_readFan.2.1 162 = .ok (.getfield 13, 3) := by decide +kernel
theorem d_mo_readFan_165 : decode q_mo_readFan.2.1 165 = .ok (.iload_n 1, 1) := by decide +kernel
theorem d_mo_readFan_166 : decode q_mo_readFan.2.1 166 = .ok (.iconst 3, 1) := by decide +kernel
theorem d_mo_readFan_167 : decode q_mo_readFan.2.1 167 = .ok (.iadd, 1) := by decide +kernel
theorem d_mo_readFan_168 : decode q_mo_readFan.2.1 168 = .ok (.aload_n 0, 1) := by decide +kernel
theorem d_mo_readFan_169 : decode q_mo_readFan.2.1 169 = .ok (.getfield 13, 3) := by decide +kernel
theorem d_mo_readFan_172 : decode q_mo_readFan.2.1 172 = .ok (.iload_n 1, 1) := by decide +kernel
theorem d_mo_readFan_173 : decode q_mo_readFan.2.1 173 = .ok (.iconst 3, 1) := by decide +kernel
theorem d_mo_readFan_174 : decode q_mo_readFan.2.1 174 = .ok (.iadd, 1) := by decide +kernel
theorem d_mo_readFan_175 : decode q_mo_readFan.2.1 175 = .ok (.iaload, 1) := by decide +kernel
theorem d_mo_readFan_176 : decode q_mo_readFan.2.1 176 = .ok (.iconst 1, 1) := by decide +kernel
theorem d_mo_readFan_177 : decode q_mo_readFan.2.1 177 = .ok (.aload_n 0, 1) := by decide +kernel
theorem d_mo_readFan_178 : decode q_mo_readFan.2.1 178 = .ok (.getfield 151, 3) := by decide +kernel
theorem d_mo_readFan_181 : decode q_mo_readFan.2.1 181 = .ok (.ishl, 1) := by decide +kernel
theorem d_mo_readFan_182 : decode q_mo_readFan.2.1 182 = .ok (.ior, 1) := by decide +kernel
theorem d_mo_readFan_183 : decode q_mo_readFan.2.1 183 = .ok (.iastore, 1) := by decide +kernel
theorem d_mo_readFan_184 : decode q_mo_readFan.2.1 184 = .ok (.goto (-99), 3) := by decide +kernel
theorem d_mo_readFan_187 : decode q_mo_readFan.2.1 187 = .ok (.aload_n 0, 1) := by decide +kernel
theorem d_mo_readFan_188 : decode q_mo_readFan.2.1 188 = .ok (.getfield 13, 3) := by decide +kernel
theorem d_mo_readFan_191 : decode q_mo_readFan.2.1 191 = .ok (.iconst 2, 1) := by decide +kernel
theorem d_mo_readFan_192 : decode q_mo_readFan.2.1 192 = .ok (.aload_n 0, 1) := by decide +kernel
theorem d_mo_readFan_193 : decode q_mo_readFan.2.1 193 = .ok (.getfield 13, 3) := by decide +kernel
theorem d_mo_readFan_196 : decode q_mo_readFan.2.1 196 = .ok (.iconst 2, 1) := by decide +kernel
theorem d_mo_readFan_197 : decode q_mo_readFan.2.1 197 = .ok (.iaload, 1) := by decide +kernel
theorem d_mo_readFan_198 : decode q_mo_readFan.2.1 198 = .ok (.iconst 1, 1) := by decide +kernel
theorem d_mo_readFan_199 : decode q_mo_readFan.2.1 199 = .ok (.iadd, 1) := by decide +kernel
theorem d_mo_readFan_200 : decode q_mo_readFan.2.1 200 = .ok (.iastore, 1) := by decide +kernel
theorem d_mo_readFan_201 : decode q_mo_readFan.2.1 201 = .ok (.iconst 1, 1) := by decide +kernel
theorem d_mo_readFan_202 : decode q_mo_readFan.2.1 202 = .ok (.ireturn, 1) := by decide +kernel
theorem w_mo_readFan_L187 (l : Launch) (lo hi d : Nat) {h' : sm_H} {r0 : Int32} (a0 : Nat) (h : sm_H) (e0 : sm_at lo hi (0, 10, 0) a0) (hf : f_mo_readFan_L187 a0 h = some (r0, h')) : sm_W l lo hi (d + 4) q_mo_readFan 187 [(0, .ref a0)] [] h (some (.int r0)) h' := by
  unfold f_mo_readFan_L187 at hf
  refine sm_aload_n 0 rfl d_mo_readFan_187 ?_
  refine sm_getR (n := 2) fl_mo_13 e0 rfl d_mo_readFan_188 ?_
  refine sm_iconst (v := 2) (by decide) d_mo_readFan_191 ?_
  refine sm_aload_n 0 rfl d_mo_readFan_192 ?_
  refine sm_getR (n := 2) fl_mo_13 e0 rfl d_mo_readFan_193 ?_
  refine sm_iconst (v := 2) (by decide) d_mo_readFan_196 ?_
  obtain ⟨c54, hf⟩ := sm_gdE hf
  refine sm_iald (sm_at_arr (sm_inner e0 1 rfl rfl rfl)) c54 d_mo_readFan_197 ?_
  refine sm_iconst (v := 1) (by decide) d_mo_readFan_198 ?_
  refine sm_iadd d_mo_readFan_199 ?_
  obtain ⟨c55, hf⟩ := sm_gdE hf
  refine sm_iast (sm_at_arr (sm_inner e0 1 rfl rfl rfl)) c55 d_mo_readFan_200 ?_
  refine sm_nmH (fun g56 w57 => ?_)
  have hf := sm_letV w57 hf
  refine sm_iconst (v := 1) (by decide) d_mo_readFan_201 ?_
  obtain ⟨rfl, rfl⟩ := sm_ret2 hf
  exact sm_bret (by decide) d_mo_readFan_202 rfl
theorem w_mo_readFan_L151 (l : Launch) (lo hi d : Nat) {h' : sm_H} {r0 : Int32} (a0 : Nat) (h : sm_H) (e0 : sm_at lo hi (0, 10, 0) a0) (hf : f_mo_readFan_L151 a0 h = some (r0, h')) : sm_W l lo hi (d + 4) q_mo_readFan 151 [(0, .ref a0)] [] h (some (.int r0)) h' := by
  unfold f_mo_readFan_L151 at hf
  refine sm_aload_n 0 rfl d_mo_readFan_151 ?_
  refine sm_iconst (v := 2) (by decide) d_mo_readFan_152 ?_
  refine sm_aload_n 0 rfl d_mo_readFan_153 ?_
  refine sm_getI fl_mo_115 e0 rfl d_mo_readFan_154 ?_
  obtain ⟨r50, g51, c52, hf⟩ := sm_b2E hf
  refine sm_callV (As := [.int 2, .int (h a0 13)]) (rv := some (.int r50)) (h1 := g51) (c := 10) cvv_mo_129 rfl rfl e0 (m_mo_fails l lo hi _ e0 c52) rfl rfl d_mo_readFan_157 ?_
  obtain ⟨c53, hf⟩ := sm_gdE hf
  obtain ⟨rfl, rfl⟩ := sm_ret2 hf
  exact sm_bret c53 d_mo_readFan_160 rfl
theorem w_mo_readFan_L85 (l : Launch) (lo hi d : Nat) {h' : sm_H} {r0 : Int32} : ∀ (n : Nat) (a0 : Nat) (a1 : Int32) (a2 : Int32) (h : sm_H) (e0 : sm_at lo hi (0, 10, 0) a0) (hf : f_mo_readFan_L85 n a0 a1 a2 h = some (r0, h')), sm_W l lo hi (d + 4) q_mo_readFan 85 [(0, .ref a0), (1, .int a1), (2, .int a2)] [] h (some (.int r0)) h' := by
  intro n
  induction n with
  | zero =>
    intro a0 a1 a2 h e0 hf
    have z : (none : Option (Int32 × sm_H)) = some _ := hf
    cases z
  | succ n ih =>
    intro a0 a1 a2 h e0 hf
    unfold f_mo_readFan_L85 at hf
    refine sm_aload_n 0 rfl d_mo_readFan_85 ?_
    obtain ⟨r27, g28, c29, hf⟩ := sm_b2E hf
    refine sm_callV (As := []) (rv := some (.int r27)) (h1 := g28) (c := 10) cvv_mo_118 rfl rfl e0 (m_mo_peek l lo hi _ e0 c29) rfl rfl d_mo_readFan_86 ?_
    obtain ⟨r30, g31, c32, hf⟩ := sm_b2E hf
    refine sm_callS (As := [.int r27]) (rv := some (.int r30)) (h1 := g31) cvs_mo_148 (m_mo_isDigit l lo hi _ c32) rfl rfl d_mo_readFan_89 ?_
    refine sm_if_eq 187 d_mo_readFan_92 rfl (fun c33 => ?_) (fun c33 => ?_)
    · have hf := sm_ifT c33 hf
      refine sm_sub [0] rfl ?_
      exact w_mo_readFan_L187 l lo hi d _ _ e0 hf
    · have hf := sm_ifF c33 hf
      refine sm_aload_n 0 rfl d_mo_readFan_95 ?_
      refine sm_iconst (v := 0) (by decide) d_mo_readFan_96 ?_
      refine sm_aload_n 0 rfl d_mo_readFan_97 ?_
      refine sm_getR (n := 2) fl_mo_13 e0 rfl d_mo_readFan_98 ?_
      refine sm_iconst (v := 1) (by decide) d_mo_readFan_101 ?_
      obtain ⟨c34, hf⟩ := sm_gdE hf
      refine sm_iald (sm_at_arr (sm_inner e0 1 rfl rfl rfl)) c34 d_mo_readFan_102 ?_
      refine sm_iconst (v := 1) (by decide) d_mo_readFan_103 ?_
      refine sm_isub d_mo_readFan_104 ?_
      obtain ⟨r35, g36, c37, hf⟩ := sm_b2E hf
      refine sm_callV (As := [.int 0, .int ((g31 (a0 + 2) (1 : Int32).toNatClampNeg) - 1)]) (rv := some (.int r35)) (h1 := g36) (c := 10) cvv_mo_178 rfl rfl e0 (m_mo_readNumber l lo hi _ e0 c37) rfl rfl d_mo_readFan_105 ?_
      refine sm_if_ne 113 d_mo_readFan_108 rfl (fun c38 => ?_) (fun c38 => ?_)
      · have hf := sm_ifF c38 hf
        refine sm_aload_n 0 rfl d_mo_readFan_113 ?_
        refine sm_getR (n := 2) fl_mo_13 e0 rfl d_mo_readFan_114 ?_
        refine sm_bipush (v := 10) (by decide) d_mo_readFan_117 ?_
        refine sm_iconst (v := 4) (by decide) d_mo_readFan_119 ?_
        refine sm_aload_n 0 rfl d_mo_readFan_120 ?_
        refine sm_getI fl_mo_151 e0 rfl d_mo_readFan_121 ?_
        refine sm_imul d_mo_readFan_124 ?_
        refine sm_iadd d_mo_readFan_125 ?_
        refine sm_iconst (v := 0) (by decide) d_mo_readFan_126 ?_
        refine sm_iadd d_mo_readFan_127 ?_
        obtain ⟨c39, hf⟩ := sm_gdE hf
        refine sm_iald (sm_at_arr (sm_inner e0 1 rfl rfl rfl)) c39 d_mo_readFan_128 ?_
        refine sm_iload_n 2 rfl d_mo_readFan_129 ?_
        refine sm_icmp_ne 151 d_mo_readFan_130 rfl (fun c40 => ?_) (fun c40 => ?_)
        · have hf := sm_ifF c40 hf
          refine sm_sub [0] rfl ?_
          exact w_mo_readFan_L151 l lo hi d _ _ e0 hf
        · have hf := sm_ifT c40 hf
          refine sm_aload_n 0 rfl d_mo_readFan_133 ?_
          refine sm_getR (n := 2) fl_mo_13 e0 rfl d_mo_readFan_134 ?_
          refine sm_iload_n 1 rfl d_mo_readFan_137 ?_
          refine sm_iconst (v := 3) (by decide) d_mo_readFan_138 ?_
          refine sm_iadd d_mo_readFan_139 ?_
          obtain ⟨c41, hf⟩ := sm_gdE hf
          refine sm_iald (sm_at_arr (sm_inner e0 1 rfl rfl rfl)) c41 d_mo_readFan_140 ?_
          refine sm_aload_n 0 rfl d_mo_readFan_141 ?_
          refine sm_getI fl_mo_151 e0 rfl d_mo_readFan_142 ?_
          obtain ⟨r42, g43, c44, hf⟩ := sm_b2E hf
          refine sm_callS (As := [.int (g36 (a0 + 2) (a1 + 3 : Int32).toNatClampNeg), .int (g36 a0 14)]) (rv := some (.int r42)) (h1 := g43) cvs_mo_255 (m_mo_hasBit l lo hi _ c44) rfl rfl d_mo_readFan_145 ?_
          refine sm_if_eq 161 d_mo_readFan_148 rfl (fun c45 => ?_) (fun c45 => ?_)
          · have hf := sm_ifT c45 hf
            refine sm_aload_n 0 rfl d_mo_readFan_161 ?_
            refine sm_getR (n := 2) fl_mo_13 e0 rfl d_mo_readFan_162 ?_
            refine sm_iload_n 1 rfl d_mo_readFan_165 ?_
            refine sm_iconst (v := 3) (by decide) d_mo_readFan_166 ?_
            refine sm_iadd d_mo_readFan_167 ?_
            refine sm_aload_n 0 rfl d_mo_readFan_168 ?_
            refine sm_getR (n := 2) fl_mo_13 e0 rfl d_mo_readFan_169 ?_
            refine sm_iload_n 1 rfl d_mo_readFan_172 ?_
            refine sm_iconst (v := 3) (by decide) d_mo_readFan_173 ?_
            refine sm_iadd d_mo_readFan_174 ?_
            obtain ⟨c46, hf⟩ := sm_gdE hf
            refine sm_iald (sm_at_arr (sm_inner e0 1 rfl rfl rfl)) c46 d_mo_readFan_175 ?_
            refine sm_iconst (v := 1) (by decide) d_mo_readFan_176 ?_
            refine sm_aload_n 0 rfl d_mo_readFan_177 ?_
            refine sm_getI fl_mo_151 e0 rfl d_mo_readFan_178 ?_
            refine sm_ishl d_mo_readFan_181 ?_
            refine sm_ior d_mo_readFan_182 ?_
            obtain ⟨c47, hf⟩ := sm_gdE hf
            refine sm_iast (sm_at_arr (sm_inner e0 1 rfl rfl rfl)) c47 d_mo_readFan_183 ?_
            refine sm_nmH (fun g48 w49 => ?_)
            have hf := sm_letV w49 hf
            refine sm_goto 85 d_mo_readFan_184 rfl ?_
            exact ih _ _ _ _ e0 hf
          · have hf := sm_ifF c45 hf
            refine sm_sub [0] rfl ?_
            exact w_mo_readFan_L151 l lo hi d _ _ e0 hf
      · have hf := sm_ifT c38 hf
        refine sm_iconst (v := 0) (by decide) d_mo_readFan_111 ?_
        obtain ⟨rfl, rfl⟩ := sm_ret2 hf
        exact sm_bret (by decide) d_mo_readFan_112 rfl
theorem m_mo_readFan (l : Launch) (lo hi d : Nat) {a0 : Nat} {r0 : Int32} {h h' : sm_H} (e0 : sm_at lo hi (0, 10, 0) a0) (hf : f_mo_readFan a0 h = some (r0, h')) : sm_Met l lo hi (d + 4) q_mo_readFan [.ref a0] h (some (.int r0)) h' := by
  refine sm_Met.of (by decide +kernel) rfl ?_
  show sm_W l lo hi (d + 4) q_mo_readFan 0 [(0, .ref a0)] [] h (some (.int r0)) h'
  unfold f_mo_readFan at hf
  refine sm_bipush (v := 74) (by decide) d_mo_readFan_0 ?_
  refine sm_iconst (v := 4) (by decide) d_mo_readFan_2 ?_
  refine sm_aload_n 0 rfl d_mo_readFan_3 ?_
  refine sm_getR (n := 2) fl_mo_13 e0 rfl d_mo_readFan_4 ?_
  refine sm_iconst (v := 2) (by decide) d_mo_readFan_7 ?_
  obtain ⟨c1, hf⟩ := sm_gdE hf
  refine sm_iald (sm_at_arr (sm_inner e0 1 rfl rfl rfl)) c1 d_mo_readFan_8 ?_
  refine sm_imul d_mo_readFan_9 ?_
  refine sm_iadd d_mo_readFan_10 ?_
  refine sm_nmI (fun x2 w3 => ?_)
  have hf := sm_letV w3 hf
  refine sm_istore_n (lv' := [(1, .int x2), (0, .ref a0)]) d_mo_readFan_11 rfl rfl ?_
  refine sm_aload_n 1 rfl d_mo_readFan_12 ?_
  refine sm_iconst (v := 2) (by decide) d_mo_readFan_13 ?_
  obtain ⟨r4, g5, c6, hf⟩ := sm_b2E hf
  refine sm_callV (As := [.int 2]) (rv := some (.int r4)) (h1 := g5) (c := 10) cvv_mo_248 rfl rfl e0 (m_mo_readKind l lo hi _ e0 c6) rfl rfl d_mo_readFan_14 ?_
  refine sm_if_ne 22 d_mo_readFan_17 rfl (fun c7 => ?_) (fun c7 => ?_)
  · have hf := sm_ifF c7 hf
    refine sm_aload_n 1 rfl d_mo_readFan_22 ?_
    refine sm_getI fl_mo_151 e0 rfl d_mo_readFan_23 ?_
    refine sm_nmI (fun x8 w9 => ?_)
    have hf := sm_letV w9 hf
    refine sm_istore_n (lv' := [(2, .int x8), (1, .int x2), (0, .ref a0)]) d_mo_readFan_26 rfl rfl ?_
    refine sm_aload_n 2 rfl d_mo_readFan_27 ?_
    refine sm_getR (n := 2) fl_mo_13 e0 rfl d_mo_readFan_28 ?_
    refine sm_iload_n 1 rfl d_mo_readFan_31 ?_
    refine sm_iconst (v := 0) (by decide) d_mo_readFan_32 ?_
    refine sm_iadd d_mo_readFan_33 ?_
    refine sm_iload_n 0 rfl d_mo_readFan_34 ?_
    obtain ⟨c10, hf⟩ := sm_gdE hf
    refine sm_iast (sm_at_arr (sm_inner e0 1 rfl rfl rfl)) c10 d_mo_readFan_35 ?_
    refine sm_nmH (fun g11 w12 => ?_)
    have hf := sm_letV w12 hf
    refine sm_aload_n 2 rfl d_mo_readFan_36 ?_
    refine sm_iconst (v := 1) (by decide) d_mo_readFan_37 ?_
    refine sm_sipush (v := 999) (by decide) d_mo_readFan_38 ?_
    obtain ⟨r13, g14, c15, hf⟩ := sm_b2E hf
    refine sm_callV (As := [.int 1, .int 999]) (rv := some (.int r13)) (h1 := g14) (c := 10) cvv_mo_178 rfl rfl e0 (m_mo_readNumber l lo hi _ e0 c15) rfl rfl d_mo_readFan_41 ?_
    refine sm_if_ne 49 d_mo_readFan_44 rfl (fun c16 => ?_) (fun c16 => ?_)
    · have hf := sm_ifF c16 hf
      refine sm_aload_n 2 rfl d_mo_readFan_49 ?_
      refine sm_getR (n := 2) fl_mo_13 e0 rfl d_mo_readFan_50 ?_
      refine sm_iload_n 1 rfl d_mo_readFan_53 ?_
      refine sm_iconst (v := 1) (by decide) d_mo_readFan_54 ?_
      refine sm_iadd d_mo_readFan_55 ?_
      refine sm_aload_n 2 rfl d_mo_readFan_56 ?_
      refine sm_getI fl_mo_151 e0 rfl d_mo_readFan_57 ?_
      obtain ⟨c17, hf⟩ := sm_gdE hf
      refine sm_iast (sm_at_arr (sm_inner e0 1 rfl rfl rfl)) c17 d_mo_readFan_60 ?_
      refine sm_nmH (fun g18 w19 => ?_)
      have hf := sm_letV w19 hf
      refine sm_aload_n 2 rfl d_mo_readFan_61 ?_
      refine sm_iconst (v := 1) (by decide) d_mo_readFan_62 ?_
      refine sm_bipush (v := 30) (by decide) d_mo_readFan_63 ?_
      obtain ⟨r20, g21, c22, hf⟩ := sm_b2E hf
      refine sm_callV (As := [.int 1, .int 30]) (rv := some (.int r20)) (h1 := g21) (c := 10) cvv_mo_178 rfl rfl e0 (m_mo_readNumber l lo hi _ e0 c22) rfl rfl d_mo_readFan_65 ?_
      refine sm_if_ne 73 d_mo_readFan_68 rfl (fun c23 => ?_) (fun c23 => ?_)
      · have hf := sm_ifF c23 hf
        refine sm_aload_n 2 rfl d_mo_readFan_73 ?_
        refine sm_getR (n := 2) fl_mo_13 e0 rfl d_mo_readFan_74 ?_
        refine sm_iload_n 1 rfl d_mo_readFan_77 ?_
        refine sm_iconst (v := 2) (by decide) d_mo_readFan_78 ?_
        refine sm_iadd d_mo_readFan_79 ?_
        refine sm_aload_n 2 rfl d_mo_readFan_80 ?_
        refine sm_getI fl_mo_151 e0 rfl d_mo_readFan_81 ?_
        obtain ⟨c24, hf⟩ := sm_gdE hf
        refine sm_iast (sm_at_arr (sm_inner e0 1 rfl rfl rfl)) c24 d_mo_readFan_84 ?_
        refine sm_nmH (fun g25 w26 => ?_)
        have hf := sm_letV w26 hf
        refine sm_sub [2, 1, 0] rfl ?_
        exact w_mo_readFan_L85 l lo hi d sm_N _ _ _ _ e0 hf
      · have hf := sm_ifT c23 hf
        refine sm_iconst (v := 0) (by decide) d_mo_readFan_71 ?_
        obtain ⟨rfl, rfl⟩ := sm_ret2 hf
        exact sm_bret (by decide) d_mo_readFan_72 rfl
    · have hf := sm_ifT c16 hf
      refine sm_iconst (v := 0) (by decide) d_mo_readFan_47 ?_
      obtain ⟨rfl, rfl⟩ := sm_ret2 hf
      exact sm_bret (by decide) d_mo_readFan_48 rfl
  · have hf := sm_ifT c7 hf
    refine sm_iconst (v := 0) (by decide) d_mo_readFan_20 ?_
    obtain ⟨rfl, rfl⟩ := sm_ret2 hf
    exact sm_bret (by decide) d_mo_readFan_21 rfl
theorem d_mo_readDoor_0 : decode q_mo_readDoor.2.1 0 = .ok (.bipush 98, 2) := by decide +kernel
theorem d_mo_readDoor_2 : decode q_mo_readDoor.2.1 2 = .ok (.iconst 3, 1) := by decide +kernel
theorem d_mo_readDoor_3 : decode q_mo_readDoor.2.1 3 = .ok (.aload_n 0, 1) := by decide +kernel
theorem d_mo_readDoor_4 : decode q_mo_readDoor.2.1 4 = .ok (.getfield 13, 3) := by decide +kernel
theorem d_mo_readDoor_7 : decode q_mo_readDoor.2.1 7 = .ok (.iconst 3, 1) := by decide +kernel
theorem d_mo_readDoor_8 : decode q_mo_readDoor.2.1 8 = .ok (.iaload, 1) := by decide +kernel
theorem d_mo_readDoor_9 : decode q_mo_readDoor.2.1 9 = .ok (.imul, 1) := by decide +kernel
theorem d_mo_readDoor_10 : decode q_mo_readDoor.2.1 10 = .ok (.iadd, 1) := by decide +kernel
theorem d_mo_readDoor_11 : decode q_mo_readDoor.2.1 11 = .ok (.istore_n 1, 1) := by decide +kernel
theorem d_mo_readDoor_12 : decode q_mo_readDoor.2.1 12 = .ok (.aload_n 0, 1) := by decide +kernel
theorem d_mo_readDoor_13 : decode q_mo_readDoor.2.1 13 = .ok (.iconst 0, 1) := by decide +kernel
theorem d_mo_readDoor_14 : decode q_mo_readDoor.2.1 14 = .ok (.aload_n 0, 1) := by decide +kernel
theorem d_mo_readDoor_15 : decode q_mo_readDoor.2.1 15 = .ok (.getfield 13, 3) := by decide +kernel
theorem d_mo_readDoor_18 : decode q_mo_readDoor.2.1 18 = .ok (.iconst 0, 1) := by decide +kernel
theorem d_mo_readDoor_19 : decode q_mo_readDoor.2.1 19 = .ok (.iaload, 1) := by decide +kernel
theorem d_mo_readDoor_20 : decode q_mo_readDoor.2.1 20 = .ok (.iconst 1, 1) := by decide +kernel
theorem d_mo_readDoor_21 : decode q_mo_readDoor.2.1 21 = .ok (.isub, 1) := by decide +kernel
theorem d_mo_readDoor_22 : decode q_mo_readDoor.2.1 22 = .ok (.invokevirtual 178, 3) := by decide +kernel
theorem d_mo_readDoor_25 : decode q_mo_readDoor.2.1 25 = .ok (.ifCond .ne 5, 3) := by decide +kernel
theorem d_mo_readDoor_28 : decode q_mo_readDoor.2.1 28 = .ok (.iconst 0, 1) := by decide +kernel
theorem d_mo_readDoor_29 : decode q_mo_readDoor.2.1 29 = .ok (.ireturn, 1) := by decide +kernel
theorem d_mo_readDoor_30 : decode q_mo_readDoor.2.1 30 = .ok (.aload_n 0, 1) := by decide +kernel
theorem d_mo_readDoor_31 : decode q_mo_readDoor.2.1 31 = .ok (.getfield 13, 3) := by decide +kernel
theorem d_mo_readDoor_34 : decode q_mo_readDoor.2.1 34 = .ok (.iload_n 1, 1) := by decide +kernel
theorem d_mo_readDoor_35 : decode q_mo_readDoor.2.1 35 = .ok (.aload_n 0, 1) := by decide +kernel
theorem d_mo_readDoor_36 : decode q_mo_readDoor.2.1 36 = .ok (.getfield 151, 3) := by decide +kernel
theorem d_mo_readDoor_39 : decode q_mo_readDoor.2.1 39 = .ok (.iastore, 1) := by decide +kernel
theorem d_mo_readDoor_40 : decode q_mo_readDoor.2.1 40 = .ok (.aload_n 0, 1) := by decide +kernel
theorem d_mo_readDoor_41 : decode q_mo_readDoor.2.1 41 = .ok (.iconst 1, 1) := by decide +kernel
theorem d_mo_readDoor_42 : decode q_mo_readDoor.2.1 42 = .ok (.bipush 50, 2) := by decide +kernel
theorem d_mo_readDoor_44 : decode q_mo_readDoor.2.1 44 = .ok (.invokevirtual 178, 3) := by decide +kernel
theorem d_mo_readDoor_47 : decode q_mo_readDoor.2.1 47 = .ok (.ifCond .ne 5, 3) := by decide +kernel
theorem d_mo_readDoor_50 : decode q_mo_readDoor.2.1 50 = .ok (.iconst 0, 1) := by decide +kernel
theorem d_mo_readDoor_51 : decode q_mo_readDoor.2.1 51 = .ok (.ireturn, 1) := by decide +kernel
theorem d_mo_readDoor_52 : decode q_mo_readDoor.2.1 52 = .ok (.aload_n 0, 1) := by decide +kernel
theorem d_mo_readDoor_53 : decode q_mo_readDoor.2.1 53 = .ok (.getfield 13, 3) := by decide +kernel
theorem d_mo_readDoor_56 : decode q_mo_readDoor.2.1 56 = .ok (.iload_n 1, 1) := by decide +kernel
theorem d_mo_readDoor_57 : decode q_mo_readDoor.2.1 57 = .ok (.iconst 1, 1) := by decide +kernel
theorem d_mo_readDoor_58 : decode q_mo_readDoor.2.1 58 = .ok (.iadd, 1) := by decide +kernel
theorem d_mo_readDoor_59 : decode q_mo_readDoor.2.1 59 = .ok (.aload_n 0, 1) := by decide +kernel
theorem d_mo_readDoor_60 : decode q_mo_readDoor.2.1 60 = .ok (.getfield 151, 3) := by decide +kernel
theorem d_mo_readDoor_63 : decode q_mo_readDoor.2.1 63 = .ok (.iastore, 1) := by decide +kernel
theorem d_mo_readDoor_64 : decode q_mo_readDoor.2.1 64 = .ok (.aload_n 0, 1) := by decide +kernel
theorem d_mo_readDoor_65 : decode q_mo_readDoor.2.1 65 = .ok (.bipush 51, 2) := by decide +kernel
theorem d_mo_readDoor_67 : decode q_mo_readDoor.2.1 67 = .ok (.sipush 500, 3) := by decide +kernel
theorem d_mo_readDoor_70 : decode q_mo_readDoor.2.1 70 = .ok (.invokevirtual 178, 3) := by decide +kernel
theorem d_mo_readDoor_73 : decode q_mo_readDoor.2.1 73 = .ok (.ifCond .ne 5, 3) := by decide +kernel
theorem d_mo_readDoor_76 : decode q_mo_readDoor.2.1 76 = .ok (.iconst 0, 1) := by decide +kernel
theorem d_mo_readDoor_77 : decode q_mo_readDoor.2.1 77 = .ok (.ireturn, 1) := by decide +kernel
theorem d_mo_readDoor_78 : decode q_mo_readDoor.2.1 78 = .ok (.aload_n 0, 1) := by decide +kernel
theorem d_mo_readDoor_79 : decode q_mo_readDoor.2.1 79 = .ok (.getfield 13, 3) := by decide +kernel
theorem d_mo_readDoor_82 : decode q_mo_readDoor.2.1 82 = .ok (.iload_n 1, 1) := by decide +kernel
theorem d_mo_readDoor_83 : decode q_mo_readDoor.2.1 83 = .ok (.iconst 2, 1) := by decide +kernel
theorem d_mo_readDoor_84 : decode q_mo_readDoor.2.1 84 = .ok (.iadd, 1) := by decide +kernel
theorem d_mo_readDoor_85 : decode q_mo_readDoor.2.1 85 = .ok (.aload_n 0, 1) := by decide +kernel
theorem d_mo_readDoor_86 : decode q_mo_readDoor.2.1 86 = .ok (.getfield 151, 3) := by decide +kernel
theorem d_mo_readDoor_89 : decode q_mo_readDoor.2.1 89 = .ok (.iastore, 1) := by decide +kernel
theorem d_mo_readDoor_90 : decode q_mo_readDoor.2.1 90 = .ok (.aload_n 0, 1) := by decide +kernel
theorem d_mo_readDoor_91 : decode q_mo_readDoor.2.1 91 = .ok (.getfield 13, 3) := by decide +kernel
theorem d_mo_readDoor_94 : decode q_mo_readDoor.2.1 94 = .ok (.iconst 3, 1) := by decide +kernel
theorem d_mo_readDoor_95 : decode q_mo_readDoor.2.1 95 = .ok (.aload_n 0, 1) := by decide +kernel
theorem d_mo_readDoor_96 : decode q_mo_readDoor.2.1 96 = .ok (.getfield 13, 3) := by decide +kernel
theorem d_mo_readDoor_99 : decode q_mo_readDoor.2.1 99 = .ok (.iconst 3, 1) := by decide +kernel
theorem d_mo_readDoor_100 : decode q_mo_readDoor.2.1 100 = .ok (.iaload, 1) := by decide +kernel
theorem d_mo_readDoor_101 : decode q_mo_readDoor.2.1 101 = .ok (.iconst 1, 1) := by decide +kernel
theorem d_mo_readDoor_102 : decode q_mo_readDoor.2.1 102 = .ok (.iadd, 1) := by decide +kernel
theorem d_mo_readDoor_103 : decode q_mo_readDoor.2.1 103 = .ok (.iastore, 1) := by decide +kernel
theorem d_mo_readDoor_104 : decode q_mo_readDoor.2.1 104 = .ok (.iconst 1, 1) := by decide +kernel
theorem d_mo_readDoor_105 : decode q_mo_readDoor.2.1 105 = .ok (.ireturn, 1) := by decide +kernel
theorem m_mo_readDoor (l : Launch) (lo hi d : Nat) {a0 : Nat} {r0 : Int32} {h h' : sm_H} (e0 : sm_at lo hi (0, 10, 0) a0) (hf : f_mo_readDoor a0 h = some (r0, h')) : sm_Met l lo hi (d + 3) q_mo_readDoor [.ref a0] h (some (.int r0)) h' := by
  refine sm_Met.of (by decide +kernel) rfl ?_
  show sm_W l lo hi (d + 3) q_mo_readDoor 0 [(0, .ref a0)] [] h (some (.int r0)) h'
  unfold f_mo_readDoor at hf
  refine sm_bipush (v := 98) (by decide) d_mo_readDoor_0 ?_
  refine sm_iconst (v := 3) (by decide) d_mo_readDoor_2 ?_
  refine sm_aload_n 0 rfl d_mo_readDoor_3 ?_
  refine sm_getR (n := 2) fl_mo_13 e0 rfl d_mo_readDoor_4 ?_
  refine sm_iconst (v := 3) (by decide) d_mo_readDoor_7 ?_
  obtain ⟨c1, hf⟩ := sm_gdE hf
  refine sm_iald (sm_at_arr (sm_inner e0 1 rfl rfl rfl)) c1 d_mo_readDoor_8 ?_
  refine sm_imul d_mo_readDoor_9 ?_
  refine sm_iadd d_mo_readDoor_10 ?_
  refine sm_nmI (fun x2 w3 => ?_)
  have hf := sm_letV w3 hf
  refine sm_istore_n (lv' := [(1, .int x2), (0, .ref a0)]) d_mo_readDoor_11 rfl rfl ?_
  refine sm_aload_n 1 rfl d_mo_readDoor_12 ?_
  refine sm_iconst (v := 0) (by decide) d_mo_readDoor_13 ?_
  refine sm_aload_n 1 rfl d_mo_readDoor_14 ?_
  refine sm_getR (n := 2) fl_mo_13 e0 rfl d_mo_readDoor_15 ?_
  refine sm_iconst (v := 0) (by decide) d_mo_readDoor_18 ?_
  obtain ⟨c4, hf⟩ := sm_gdE hf
  refine sm_iald (sm_at_arr (sm_inner e0 1 rfl rfl rfl)) c4 d_mo_readDoor_19 ?_
  refine sm_iconst (v := 1) (by decide) d_mo_readDoor_20 ?_
  refine sm_isub d_mo_readDoor_21 ?_
  obtain ⟨r5, g6, c7, hf⟩ := sm_b2E hf
  refine sm_callV (As := [.int 0, .int ((h (a0 + 2) (0 : Int32).toNatClampNeg) - 1)]) (rv := some (.int r5)) (h1 := g6) (c := 10) cvv_mo_178 rfl rfl e0 (m_mo_readNumber l lo hi _ e0 c7) rfl rfl d_mo_readDoor_22 ?_
  refine sm_if_ne 30 d_mo_readDoor_25 rfl (fun c8 => ?_) (fun c8 => ?_)
  · have hf := sm_ifF c8 hf
    refine sm_aload_n 1 rfl d_mo_readDoor_30 ?_
    refine sm_getR (n := 2) fl_mo_13 e0 rfl d_mo_readDoor_31 ?_
    refine sm_iload_n 0 rfl d_mo_readDoor_34 ?_
    refine sm_aload_n 1 rfl d_mo_readDoor_35 ?_
    refine sm_getI fl_mo_151 e0 rfl d_mo_readDoor_36 ?_
    obtain ⟨c9, hf⟩ := sm_gdE hf
    refine sm_iast (sm_at_arr (sm_inner e0 1 rfl rfl rfl)) c9 d_mo_readDoor_39 ?_
    refine sm_nmH (fun g10 w11 => ?_)
    have hf := sm_letV w11 hf
    refine sm_aload_n 1 rfl d_mo_readDoor_40 ?_
    refine sm_iconst (v := 1) (by decide) d_mo_readDoor_41 ?_
    refine sm_bipush (v := 50) (by decide) d_mo_readDoor_42 ?_
    obtain ⟨r12, g13, c14, hf⟩ := sm_b2E hf
    refine sm_callV (As := [.int 1, .int 50]) (rv := some (.int r12)) (h1 := g13) (c := 10) cvv_mo_178 rfl rfl e0 (m_mo_readNumber l lo hi _ e0 c14) rfl rfl d_mo_readDoor_44 ?_
    refine sm_if_ne 52 d_mo_readDoor_47 rfl (fun c15 => ?_) (fun c15 => ?_)
    · have hf := sm_ifF c15 hf
      refine sm_aload_n 1 rfl d_mo_readDoor_52 ?_
      refine sm_getR (n := 2) fl_mo_13 e0 rfl d_mo_readDoor_53 ?_
      refine sm_iload_n 0 rfl d_mo_readDoor_56 ?_
      refine sm_iconst (v := 1) (by decide) d_mo_readDoor_57 ?_
      refine sm_iadd d_mo_readDoor_58 ?_
      refine sm_aload_n 1 rfl d_mo_readDoor_59 ?_
      refine sm_getI fl_mo_151 e0 rfl d_mo_readDoor_60 ?_
      obtain ⟨c16, hf⟩ := sm_gdE hf
      refine sm_iast (sm_at_arr (sm_inner e0 1 rfl rfl rfl)) c16 d_mo_readDoor_63 ?_
      refine sm_nmH (fun g17 w18 => ?_)
      have hf := sm_letV w18 hf
      refine sm_aload_n 1 rfl d_mo_readDoor_64 ?_
      refine sm_bipush (v := 51) (by decide) d_mo_readDoor_65 ?_
      refine sm_sipush (v := 500) (by decide) d_mo_readDoor_67 ?_
      obtain ⟨r19, g20, c21, hf⟩ := sm_b2E hf
      refine sm_callV (As := [.int 51, .int 500]) (rv := some (.int r19)) (h1 := g20) (c := 10) cvv_mo_178 rfl rfl e0 (m_mo_readNumber l lo hi _ e0 c21) rfl rfl d_mo_readDoor_70 ?_
      refine sm_if_ne 78 d_mo_readDoor_73 rfl (fun c22 => ?_) (fun c22 => ?_)
      · have hf := sm_ifF c22 hf
        refine sm_aload_n 1 rfl d_mo_readDoor_78 ?_
        refine sm_getR (n := 2) fl_mo_13 e0 rfl d_mo_readDoor_79 ?_
        refine sm_iload_n 0 rfl d_mo_readDoor_82 ?_
        refine sm_iconst (v := 2) (by decide) d_mo_readDoor_83 ?_
        refine sm_iadd d_mo_readDoor_84 ?_
        refine sm_aload_n 1 rfl d_mo_readDoor_85 ?_
        refine sm_getI fl_mo_151 e0 rfl d_mo_readDoor_86 ?_
        obtain ⟨c23, hf⟩ := sm_gdE hf
        refine sm_iast (sm_at_arr (sm_inner e0 1 rfl rfl rfl)) c23 d_mo_readDoor_89 ?_
        refine sm_nmH (fun g24 w25 => ?_)
        have hf := sm_letV w25 hf
        refine sm_aload_n 1 rfl d_mo_readDoor_90 ?_
        refine sm_getR (n := 2) fl_mo_13 e0 rfl d_mo_readDoor_91 ?_
        refine sm_iconst (v := 3) (by decide) d_mo_readDoor_94 ?_
        refine sm_aload_n 1 rfl d_mo_readDoor_95 ?_
        refine sm_getR (n := 2) fl_mo_13 e0 rfl d_mo_readDoor_96 ?_
        refine sm_iconst (v := 3) (by decide) d_mo_readDoor_99 ?_
        obtain ⟨c26, hf⟩ := sm_gdE hf
        refine sm_iald (sm_at_arr (sm_inner e0 1 rfl rfl rfl)) c26 d_mo_readDoor_100 ?_
        refine sm_iconst (v := 1) (by decide) d_mo_readDoor_101 ?_
        refine sm_iadd d_mo_readDoor_102 ?_
        obtain ⟨c27, hf⟩ := sm_gdE hf
        refine sm_iast (sm_at_arr (sm_inner e0 1 rfl rfl rfl)) c27 d_mo_readDoor_103 ?_
        refine sm_nmH (fun g28 w29 => ?_)
        have hf := sm_letV w29 hf
        refine sm_iconst (v := 1) (by decide) d_mo_readDoor_104 ?_
        obtain ⟨rfl, rfl⟩ := sm_ret2 hf
        exact sm_bret (by decide) d_mo_readDoor_105 rfl
      · have hf := sm_ifT c22 hf
        refine sm_iconst (v := 0) (by decide) d_mo_readDoor_76 ?_
        obtain ⟨rfl, rfl⟩ := sm_ret2 hf
        exact sm_bret (by decide) d_mo_readDoor_77 rfl
    · have hf := sm_ifT c15 hf
      refine sm_iconst (v := 0) (by decide) d_mo_readDoor_50 ?_
      obtain ⟨rfl, rfl⟩ := sm_ret2 hf
      exact sm_bret (by decide) d_mo_readDoor_51 rfl
  · have hf := sm_ifT c8 hf
    refine sm_iconst (v := 0) (by decide) d_mo_readDoor_28 ?_
    obtain ⟨rfl, rfl⟩ := sm_ret2 hf
    exact sm_bret (by decide) d_mo_readDoor_29 rfl
theorem d_mo_readSetting_0 : decode q_mo_readSetting.2.1 0 = .ok (.aload_n 0, 1) := by decide +kernel
theorem d_mo_readSetting_1 : decode q_mo_readSetting.2.1 1 = .ok (.iload_n 2, 1) := by decide +kernel
theorem d_mo_readSetting_2 : decode q_mo_readSetting.2.1 2 = .ok (.iload_n 3, 1) := by decide +kernel
theorem d_mo_readSetting_3 : decode q_mo_readSetting.2.1 3 = .ok (.invokevirtual 178, 3) := by decide +kernel
theorem d_mo_readSetting_6 : decode q_mo_readSetting.2.1 6 = .ok (.ifCond .ne 5, 3) := by decide +kernel
theorem d_mo_readSetting_9 : decode q_mo_readSetting.2.1 9 = .ok (.iconst 0, 1) := by decide +kernel
theorem d_mo_readSetting_10 : decode q_mo_readSetting.2.1 10 = .ok (.ireturn, 1) := by decide +kernel
theorem d_mo_readSetting_11 : decode q_mo_readSetting.2.1 11 = .ok (.aload_n 0, 1) := by decide +kernel
theorem d_mo_readSetting_12 : decode q_mo_readSetting.2.1 12 = .ok (.getfield 13, 3) := by decide +kernel
theorem d_mo_readSetting_15 : decode q_mo_readSetting.2.1 15 = .ok (.iload_n 1, 1) := by decide +kernel
theorem d_mo_readSetting_16 : decode q_mo_readSetting.2.1 16 = .ok (.aload_n 0, 1) := by decide +kernel
theorem d_mo_readSetting_17 : decode q_mo_readSetting.2.1 17 = .ok (.getfield 151, 3) := by decide +kernel
theorem d_mo_readSetting_20 : decode q_mo_readSetting.2.1 20 = .ok (.iastore, 1) := by decide +kernel
theorem d_mo_readSetting_21 : decode q_mo_readSetting.2.1 21 = .ok (.iconst 1, 1) := by decide +kernel
theorem d_mo_readSetting_22 : decode q_mo_readSetting.2.1 22 = .ok (.ireturn, 1) := by decide +kernel
theorem m_mo_readSetting (l : Launch) (lo hi d : Nat) {a0 : Nat} {a1 : Int32} {a2 : Int32} {a3 : Int32} {r0 : Int32} {h h' : sm_H} (e0 : sm_at lo hi (0, 10, 0) a0) (hf : f_mo_readSetting a0 a1 a2 a3 h = some (r0, h')) : sm_Met l lo hi (d + 3) q_mo_readSetting [.ref a0, .int a1, .int a2, .int a3] h (some (.int r0)) h' := by
  refine sm_Met.of (by decide +kernel) rfl ?_
  show sm_W l lo hi (d + 3) q_mo_readSetting 0 [(0, .ref a0), (1, .int a1), (2, .int a2), (3, .int a3)] [] h (some (.int r0)) h'
  unfold f_mo_readSetting at hf
  refine sm_aload_n 0 rfl d_mo_readSetting_0 ?_
  refine sm_iload_n 2 rfl d_mo_readSetting_1 ?_
  refine sm_iload_n 3 rfl d_mo_readSetting_2 ?_
  obtain ⟨r1, g2, c3, hf⟩ := sm_b2E hf
  refine sm_callV (As := [.int a2, .int a3]) (rv := some (.int r1)) (h1 := g2) (c := 10) cvv_mo_178 rfl rfl e0 (m_mo_readNumber l lo hi _ e0 c3) rfl rfl d_mo_readSetting_3 ?_
  refine sm_if_ne 11 d_mo_readSetting_6 rfl (fun c4 => ?_) (fun c4 => ?_)
  · have hf := sm_ifF c4 hf
    refine sm_aload_n 0 rfl d_mo_readSetting_11 ?_
    refine sm_getR (n := 2) fl_mo_13 e0 rfl d_mo_readSetting_12 ?_
    refine sm_iload_n 1 rfl d_mo_readSetting_15 ?_
    refine sm_aload_n 0 rfl d_mo_readSetting_16 ?_
    refine sm_getI fl_mo_151 e0 rfl d_mo_readSetting_17 ?_
    obtain ⟨c5, hf⟩ := sm_gdE hf
    refine sm_iast (sm_at_arr (sm_inner e0 1 rfl rfl rfl)) c5 d_mo_readSetting_20 ?_
    refine sm_nmH (fun g6 w7 => ?_)
    have hf := sm_letV w7 hf
    refine sm_iconst (v := 1) (by decide) d_mo_readSetting_21 ?_
    obtain ⟨rfl, rfl⟩ := sm_ret2 hf
    exact sm_bret (by decide) d_mo_readSetting_22 rfl
  · have hf := sm_ifT c4 hf
    refine sm_iconst (v := 0) (by decide) d_mo_readSetting_9 ?_
    obtain ⟨rfl, rfl⟩ := sm_ret2 hf
    exact sm_bret (by decide) d_mo_readSetting_10 rfl
theorem d_mo_readItem_0 : decode q_mo_readItem.2.1 0 = .ok (.aload_n 0, 1) := by decide +kernel
theorem d_mo_readItem_1 : decode q_mo_readItem.2.1 1 = .ok (.invokevirtual 258, 3) := by decide +kernel
theorem d_mo_readItem_4 : decode q_mo_readItem.2.1 4 = .ok (.ifCond .ne 5, 3) := by decide +kernel
theorem d_mo_readItem_7 : decode q_mo_readItem.2.1 7 = .ok (.iconst 0, 1) := by decide +kernel
theorem d_mo_readItem_8 : decode q_mo_readItem.2.1 8 = .ok (.ireturn, 1) := by decide +kernel
theorem d_mo_readItem_9 : decode q_mo_readItem.2.1 9 = .ok (.aload_n 0, 1) := by decide +kernel
theorem d_mo_readItem_10 : decode q_mo_readItem.2.1 10 = .ok (.getfield 115, 3) := by decide +kernel
theorem d_mo_readItem_13 : decode q_mo_readItem.2.1 13 = .ok (.istore_n 1, 1) := by decide +kernel
theorem d_mo_readItem_14 : decode q_mo_readItem.2.1 14 = .ok (.aload_n 0, 1) := by decide +kernel
theorem d_mo_readItem_15 : decode q_mo_readItem.2.1 15 = .ok (.getfield 133, 3) := by decide +kernel
theorem d_mo_readItem_18 : decode q_mo_readItem.2.1 18 = .ok (.ldc2_w 261, 3) := by decide +kernel
theorem d_mo_readItem_21 : decode q_mo_readItem.2.1 21 = .ok (.lcmp, 1) := by decide +kernel
theorem d_mo_readItem_22 : decode q_mo_readItem.2.1 22 = .ok (.ifCond .ne 28, 3) := by decide +kernel
theorem d_mo_readItem_25 : decode q_mo_readItem.2.1 25 = .ok (.aload_n 0, 1) := by decide +kernel
theorem d_mo_readItem_26 : decode q_mo_readItem.2.1 26 = .ok (.getfield 263, 3) := by decide +kernel
theorem d_mo_readItem_29 : decode q_mo_readItem.2.1 29 = .ok (.ifCond .ne 14, 3) := by decide +kernel
theorem d_mo_readItem_32 : decode q_mo_readItem.2.1 32 = .ok (.aload_n 0, 1) := by decide +kernel
theorem d_mo_readItem_33 : decode q_mo_readItem.2.1 33 = .ok (.iconst 0, 1) := by decide +kernel
theorem d_mo_readItem_34 : decode q_mo_readItem.2.1 34 = .ok (.iconst 1, 1) := by decide +kernel
theorem d_mo_readItem_35 : decode q_mo_readItem.2.1 35 = .ok (.bipush 8, 2) := by decide +kernel
theorem d_mo_readItem_37 : decode q_mo_readItem.2.1 37 = .ok (.invokevirtual 266, 3) := by decide +kernel
theorem d_mo_readItem_40 : decode q_mo_readItem.2.1 40 = .ok (.goto 9, 3) := by decide +kernel
theorem d_mo_readItem_43 : decode q_mo_readItem.2.1 43 = .ok (.aload_n 0, 1) := by decide +kernel
theorem d_mo_readItem_44 : decode q_mo_readItem.2.1 44 = .ok (.iconst 1, 1) := by decide +kernel
theorem d_mo_readItem_45 : decode q_mo_readItem.2.1 45 = .ok (.iload_n 1, 1) := by decide +kernel
theorem d_mo_readItem_46 : decode q_mo_readItem.2.1 46 = .ok (.invokevirtual 129, 3) := by decide +kernel
theorem d_mo_readItem_49 : decode q_mo_readItem.2.1 49 = .ok (.ireturn, 1) := by decide +kernel
theorem d_mo_readItem_50 : decode q_mo_readItem.2.1 50 = .ok (.aload_n 0, 1) := by decide +kernel
theorem d_mo_readItem_51 : decode q_mo_readItem.2.1 51 = .ok (.getfield 133, 3) := by decide +kernel
theorem d_mo_readItem_54 : decode q_mo_readItem.2.1 54 = .ok (.ldc2_w 269, 3) := by decide +kernel
theorem d_mo_readItem_57 : decode q_mo_readItem.2.1 57 = .ok (.lcmp, 1) := by decide +kernel
theorem d_mo_readItem_58 : decode q_mo_readItem.2.1 58 = .ok (.ifCond .ne 36, 3) := by decide +kernel
theorem d_mo_readItem_61 : decode q_mo_readItem.2.1 61 = .ok (.aload_n 0, 1) := by decide +kernel
theorem d_mo_readItem_62 : decode q_mo_readItem.2.1 62 = .ok (.getfield 271, 3) := by decide +kernel
theorem d_mo_readItem_65 : decode q_mo_readItem.2.1 65 = .ok (.istore_n 2, 1) := by decide +kernel
theorem d_mo_readItem_66 : decode q_mo_readItem.2.1 66 = .ok (.aload_n 0, 1) := by decide +kernel
theorem d_mo_readItem_67 : decode q_mo_readItem.2.1 67 = .ok (.iconst 1, 1) := by decide +kernel
theorem d_mo_readItem_68 : decode q_mo_readItem.2.1 68 = .ok (.putfield 271, 3) := by decide +kernel
theorem d_mo_readItem_71 : decode q_mo_readItem.2.1 71 = .ok (.iload_n 2, 1) := by decide +kernel
theorem d_mo_readItem_72 : decode q_mo_readItem.2.1 72 = .ok (.ifCond .eq 12, 3) := by decide +kernel
theorem d_mo_readItem_75 : decode q_mo_readItem.2.1 75 = .ok (.aload_n 0, 1) := by decide +kernel
theorem d_mo_readItem_76 : decode q_mo_readItem.2.1 76 = .ok (.iconst 1, 1) := by decide +kernel
theorem d_mo_readItem_77 : decode q_mo_readItem.2.1 77 = .ok (.iload_n 1, 1) := by decide +kernel
theorem d_mo_readItem_78 : decode q_mo_readItem.2.1 78 = .ok (.invokevirtual 129, 3) := by decide +kernel
theorem d_mo_readItem_81 : decode q_mo_readItem.2.1 81 = .ok (.goto 12, 3) := by decide +kernel
theorem d_mo_readItem_84 : decode q_mo_readItem.2.1 84 = .ok (.aload_n 0, 1) := by decide +kernel
theorem d_mo_readItem_85 : decode q_mo_readItem.2.1 85 = .ok (.iconst 5, 1) := by decide +kernel
theorem d_mo_readItem_86 : decode q_mo_readItem.2.1 86 = .ok (.iconst 1, 1) := by decide +kernel
theorem d_mo_readItem_87 : decode q_mo_readItem.2.1 87 = .ok (.sipush 200, 3) := by decide +kernel
theorem d_mo_readItem_90 : decode q_mo_readItem.2.1 90 = .ok (.invokevirtual 266, 3) := by decide +kernel
theorem d_mo_readItem_93 : decode q_mo_readItem.2.1 93 = .ok (.ireturn, 1) := by decide +kernel
theorem d_mo_readItem_94 : decode q_mo_readItem.2.1 94 = .ok (.aload_n 0, 1) := by decide +kernel
theorem d_mo_readItem_95 : decode q_mo_readItem.2.1 95 = .ok (.getfield 133, 3) := by decide +kernel
theorem d_mo_readItem_98 : decode q_mo_readItem.2.1 98 = .ok (.ldc2_w 274, 3) := by decide +kernel
theorem d_mo_readItem_101 : decode q_mo_readItem.2.1 101 = .ok (.lcmp, 1) := by decide +kernel
theorem d_mo_readItem_102 : decode q_mo_readItem.2.1 102 = .ok (.ifCond .ne 37, 3) := by decide +kernel
theorem d_mo_readItem_105 : decode q_mo_readItem.2.1 105 = .ok (.aload_n 0, 1) := by decide +kernel
theorem d_mo_readItem_106 : decode q_mo_readItem.2.1 106 = .ok (.getfield 276, 3) := by decide +kernel
theorem d_mo_readItem_109 : decode q_mo_readItem.2.1 109 = .ok (.istore_n 2, 1) := by decide +kernel
theorem d_mo_readItem_110 : decode q_mo_readItem.2.1 110 = .ok (.aload_n 0, 1) := by decide +kernel
theorem d_mo_readItem_111 : decode q_mo_readItem.2.1 111 = .ok (.iconst 1, 1) := by decide +kernel
theorem d_mo_readItem_112 : decode q_mo_readItem.2.1 112 = .ok (.putfield 276, 3) := by decide +kernel
theorem d_mo_readItem_115 : decode q_mo_readItem.2.1 115 = .ok (.iload_n 2, 1) := by decide +kernel
theorem d_mo_readItem_116 : decode q_mo_readItem.2.1 116 = .ok (.ifCond .eq 12, 3) := by decide +kernel
theorem d_mo_readItem_119 : decode q_mo_readItem.2.1 119 = .ok (.aload_n 0, 1) := by decide +kernel
theorem d_mo_readItem_120 : decode q_mo_readItem.2.1 120 = .ok (.iconst 1, 1) := by decide +kernel
theorem d_mo_readItem_121 : decode q_mo_readItem.2.1 121 = .ok (.iload_n 1, 1) := by decide +kernel
theorem d_mo_readItem_122 : decode q_mo_readItem.2.1 122 = .ok (.invokevirtual 129, 3) := by decide +kernel
theorem d_mo_readItem_125 : decode q_mo_readItem.2.1 125 = .ok (.goto 13, 3) := by decide +kernel
theorem d_mo_readItem_128 : decode q_mo_readItem.2.1 128 = .ok (.aload_n 0, 1) := by decide +kernel
theorem d_mo_readItem_129 : decode q_mo_readItem.2.1 129 = .ok (.bipush 6, 2) := by decide +kernel
theorem d_mo_readItem_131 : decode q_mo_readItem.2.1 131 = .ok (.iconst 0, 1) := by decide +kernel
theorem d_mo_readItem_132 : decode q_mo_readItem.2.1 132 = .ok (.sipush 999, 3) := by decide +kernel
theorem d_mo_readItem_135 : decode q_mo_readItem.2.1 135 = .ok (.invokevirtual 266, 3) := by decide +kernel
theorem d_mo_readItem_138 : decode q_mo_readItem.2.1 138 = .ok (.ireturn, 1) := by decide +kernel
theorem d_mo_readItem_139 : decode q_mo_readItem.2.1 139 = .ok (.aload_n 0, 1) := by decide +kernel
theorem d_mo_readItem_140 : decode q_mo_readItem.2.1 140 = .ok (.getfield 133, 3) := by decide +kernel
theorem d_mo_readItem_143 : decode q_mo_readItem.2.1 143 = .ok (.ldc2_w 279, 3) := by decide +kernel
theorem d_mo_readItem_146 : decode q_mo_readItem.2.1 146 = .ok (.lcmp, 1) := by decide +kernel
theorem d_mo_readItem_147 : decode q_mo_readItem.2.1 147 = .ok (.ifCond .ne 28, 3) := by decide +kernel
theorem d_mo_readItem_150 : decode q_mo_readItem.2.1 150 = .ok (.aload_n 0, 1) := by decide +kernel
theorem d_mo_readItem_151 : decode q_mo_readItem.2.1 151 = .ok (.getfield 13, 3) := by decide +kernel
theorem d_mo_readItem_154 : decode q_mo_readItem.2.1 154 = .ok (.iconst 1, 1) := by decide +kernel
theorem d_mo_readItem_155 : decode q_mo_readItem.2.1 155 = .ok (.iaload, 1) := by decide +kernel
theorem d_mo_readItem_156 : decode q_mo_readItem.2.1 156 = .ok (.bipush 16, 2) := by decide +kernel
theorem d_mo_readItem_158 : decode q_mo_readItem.2.1 158 = .ok (.if_icmp .ne 12, 3) := by decide +kernel
theorem d_mo_readItem_161 : decode q_mo_readItem.2.1 161 = .ok (.aload_n 0, 1) := by decide +kernel
theorem d_mo_readItem_162 : decode q_mo_readItem.2.1 162 = .ok (.iconst 3, 1) := by decide +kernel
theorem d_mo_readItem_163 : decode q_mo_readItem.2.1 163 = .ok (.iload_n 1, 1) := by decide +kernel
theorem d_mo_readItem_164 : decode q_mo_readItem.2.1 164 = .ok (.invokevirtual 129, 3) := by decide +kernel
theorem d_mo_readItem_167 : decode q_mo_readItem.2.1 167 = .ok (.goto 7, 3) := by decide +kernel
theorem d_mo_readItem_170 : decode q_mo_readItem.2.1 170 = .ok (.aload_n 0, 1) := by decide +kernel
theorem d_mo_readItem_171 : decode q_mo_readItem.2.1 171 = .ok (.invokevirtual 281, 3) := by decide +kernel
theorem d_mo_readItem_174 : decode q_mo_readItem.2.1 174 = .ok (.ireturn, 1) := by decide +kernel
theorem d_mo_readItem_175 : decode q_mo_readItem.2.1 175 = .ok (.aload_n 0, 1) := by decide +kernel
theorem d_mo_readItem_176 : decode q_mo_readItem.2.1 176 = .ok (.getfield 133, 3) := by decide +kernel
theorem d_mo_readItem_179 : decode q_mo_readItem.2.1 179 = .ok (.ldc2_w 284, 3) := by decide +kernel
theorem d_mo_readItem_182 : decode q_mo_readItem.2.1 182 = .ok (.lcmp, 1) := by decide +kernel
theorem d_mo_readItem_183 : decode q_mo_readItem.2.1 183 = .ok (.ifCond .ne 28, 3) := by decide +kernel
theorem d_mo_readItem_186 : decode q_mo_readItem.2.1 186 = .ok (.aload_n 0, 1) := by decide +kernel
theorem d_mo_readItem_187 : decode q_mo_readItem.2.1 187 = .ok (.getfield 13, 3) := by decide +kernel
theorem d_mo_readItem_190 : decode q_mo_readItem.2.1 190 = .ok (.iconst 2, 1) := by decide +kernel
theorem d_mo_readItem_191 : decode q_mo_readItem.2.1 191 = .ok (.iaload, 1) := by decide +kernel
theorem d_mo_readItem_192 : decode q_mo_readItem.2.1 192 = .ok (.bipush 6, 2) := by decide +kernel
theorem d_mo_readItem_194 : decode q_mo_readItem.2.1 194 = .ok (.if_icmp .ne 12, 3) := by decide +kernel
theorem d_mo_readItem_197 : decode q_mo_readItem.2.1 197 = .ok (.aload_n 0, 1) := by decide +kernel
theorem d_mo_readItem_198 : decode q_mo_readItem.2.1 198 = .ok (.iconst 3, 1) := by decide +kernel
theorem d_mo_readItem_199 : decode q_mo_readItem.2.1 199 = .ok (.iload_n 1, 1) := by decide +kernel
theorem d_mo_readItem_200 : decode q_mo_readItem.2.1 200 = .ok (.invokevirtual 129, 3) := by decide +kernel
theorem d_mo_readItem_203 : decode q_mo_readItem.2.1 203 = .ok (.goto 7, 3) := by decide +kernel
theorem d_mo_readItem_206 : decode q_mo_readItem.2.1 206 = .ok (.aload_n 0, 1) := by decide +kernel
theorem d_mo_readItem_207 : decode q_mo_readItem.2.1 207 = .ok (.invokevirtual 286, 3) := by decide +kernel
theorem d_mo_readItem_210 : decode q_mo_readItem.2.1 210 = .ok (.ireturn, 1) := by decide +kernel
theorem d_mo_readItem_211 : decode q_mo_readItem.2.1 211 = .ok (.aload_n 0, 1) := by decide +kernel
theorem d_mo_readItem_212 : decode q_mo_readItem.2.1 212 = .ok (.getfield 133, 3) := by decide +kernel
theorem d_mo_readItem_215 : decode q_mo_readItem.2.1 215 = .ok (.ldc2_w 289, 3) := by decide +kernel
theorem d_mo_readItem_218 : decode q_mo_readItem.2.1 218 = .ok (.lcmp, 1) := by decide +kernel
theorem d_mo_readItem_219 : decode q_mo_readItem.2.1 219 = .ok (.ifCond .ne 28, 3) := by decide +kernel
theorem d_mo_readItem_222 : decode q_mo_readItem.2.1 222 = .ok (.aload_n 0, 1) := by decide +kernel
theorem d_mo_readItem_223 : decode q_mo_readItem.2.1 223 = .ok (.getfield 13, 3) := by decide +kernel
theorem d_mo_readItem_226 : decode q_mo_readItem.2.1 226 = .ok (.iconst 3, 1) := by decide +kernel
theorem d_mo_readItem_227 : decode q_mo_readItem.2.1 227 = .ok (.iaload, 1) := by decide +kernel
theorem d_mo_readItem_228 : decode q_mo_readItem.2.1 228 = .ok (.bipush 10, 2) := by decide +kernel
theorem d_mo_readItem_230 : decode q_mo_readItem.2.1 230 = .ok (.if_icmp .ne 12, 3) := by decide +kernel
theorem d_mo_readItem_233 : decode q_mo_readItem.2.1 233 = .ok (.aload_n 0, 1) := by decide +kernel
theorem d_mo_readItem_234 : decode q_mo_readItem.2.1 234 = .ok (.iconst 3, 1) := by decide +kernel
theorem d_mo_readItem_235 : decode q_mo_readItem.2.1 235 = .ok (.iload_n 1, 1) := by decide +kernel
theorem d_mo_readItem_236 : decode q_mo_readItem.2.1 236 = .ok (.invokevirtual 129, 3) := by decide +kernel
theorem d_mo_readItem_239 : decode q_mo_readItem.2.1 239 = .ok (.goto 7, 3) := by decide +kernel
theorem d_mo_readItem_242 : decode q_mo_readItem.2.1 242 = .ok (.aload_n 0, 1) := by decide +kernel
theorem d_mo_readItem_243 : decode q_mo_readItem.2.1 243 = .ok (.invokevirtual 291, 3) := by decide +kernel
theorem d_mo_readItem_246 : decode q_mo_readItem.2.1 246 = .ok (.ireturn, 1) := by decide +kernel
theorem d_mo_readItem_247 : decode q_mo_readItem.2.1 247 = .ok (.aload_n 0, 1) := by decide +kernel
theorem d_mo_readItem_248 : decode q_mo_readItem.2.1 248 = .ok (.getfield 133, 3) := by decide +kernel
theorem d_mo_readItem_251 : decode q_mo_readItem.2.1 251 = .ok (.ldc2_w 294, 3) := by decide +kernel
theorem d_mo_readItem_254 : decode q_mo_readItem.2.1 254 = .ok (.lcmp, 1) := by decide +kernel
theorem d_mo_readItem_255 : decode q_mo_readItem.2.1 255 = .ok (.ifCond .ne 28, 3) := by decide +kernel
theorem d_mo_readItem_258 : decode q_mo_readItem.2.1 258 = .ok (.aload_n 0, 1) := by decide +kernel
theorem d_mo_readItem_259 : decode q_mo_readItem.2.1 259 = .ok (.getfield 13, 3) := by decide +kernel
theorem d_mo_readItem_262 : decode q_mo_readItem.2.1 262 = .ok (.iconst 4, 1) := by decide +kernel
theorem d_mo_readItem_263 : decode q_mo_readItem.2.1 263 = .ok (.iaload, 1) := by decide +kernel
theorem d_mo_readItem_264 : decode q_mo_readItem.2.1 264 = .ok (.bipush 12, 2) := by decide +kernel
theorem d_mo_readItem_266 : decode q_mo_readItem.2.1 266 = .ok (.if_icmp .ne 12, 3) := by decide +kernel
theorem d_mo_readItem_269 : decode q_mo_readItem.2.1 269 = .ok (.aload_n 0, 1) := by decide +kernel
theorem d_mo_readItem_270 : decode q_mo_readItem.2.1 270 = .ok (.iconst 3, 1) := by decide +kernel
theorem d_mo_readItem_271 : decode q_mo_readItem.2.1 271 = .ok (.iload_n 1, 1) := by decide +kernel
theorem d_mo_readItem_272 : decode q_mo_readItem.2.1 272 = .ok (.invokevirtual 129, 3) := by decide +kernel
theorem d_mo_readItem_275 : decode q_mo_readItem.2.1 275 = .ok (.goto 7, 3) := by decide +kernel
theorem d_mo_readItem_278 : decode q_mo_readItem.2.1 278 = .ok (.aload_n 0, 1) := by decide +kernel
theorem d_mo_readItem_279 : decode q_mo_readItem.2.1 279 = .ok (.invokevirtual 296, 3) := by decide +kernel
theorem d_mo_readItem_282 : decode q_mo_readItem.2.1 282 = .ok (.ireturn, 1) := by decide +kernel
theorem d_mo_readItem_283 : decode q_mo_readItem.2.1 283 = .ok (.aload_n 0, 1) := by decide +kernel
theorem d_mo_readItem_284 : decode q_mo_readItem.2.1 284 = .ok (.iconst 1, 1) := by decide +kernel
theorem d_mo_readItem_285 : decode q_mo_readItem.2.1 285 = .ok (.iload_n 1, 1) := by decide +kernel
theorem d_mo_readItem_286 : decode q_mo_readItem.2.1 286 = .ok (.invokevirtual 129, 3) := by decide +kernel
theorem d_mo_readItem_289 : decode q_mo_readItem.2.1 289 = .ok (.ireturn, 1) := by decide +kernel
theorem w_mo_readItem_L282 (l : Launch) (lo hi d : Nat) {h' : sm_H} {r0 : Int32} (s0 : Int32) (h : sm_H) (hf : f_mo_readItem_L282 s0 h = some (r0, h')) : sm_W l lo hi (d + 7) q_mo_readItem 282 [] [.int s0] h (some (.int r0)) h' := by
  unfold f_mo_readItem_L282 at hf
  obtain ⟨c85, hf⟩ := sm_gdE hf
  obtain ⟨rfl, rfl⟩ := sm_ret2 hf
  exact sm_bret c85 d_mo_readItem_282 rfl
theorem w_mo_readItem_L246 (l : Launch) (lo hi d : Nat) {h' : sm_H} {r0 : Int32} (s0 : Int32) (h : sm_H) (hf : f_mo_readItem_L246 s0 h = some (r0, h')) : sm_W l lo hi (d + 7) q_mo_readItem 246 [] [.int s0] h (some (.int r0)) h' := by
  unfold f_mo_readItem_L246 at hf
  obtain ⟨c84, hf⟩ := sm_gdE hf
  obtain ⟨rfl, rfl⟩ := sm_ret2 hf
  exact sm_bret c84 d_mo_readItem_246 rfl
theorem w_mo_readItem_L210 (l : Launch) (lo hi d : Nat) {h' : sm_H} {r0 : Int32} (s0 : Int32) (h : sm_H) (hf : f_mo_readItem_L210 s0 h = some (r0, h')) : sm_W l lo hi (d + 7) q_mo_readItem 210 [] [.int s0] h (some (.int r0)) h' := by
  unfold f_mo_readItem_L210 at hf
  obtain ⟨c83, hf⟩ := sm_gdE hf
  obtain ⟨rfl, rfl⟩ := sm_ret2 hf
  exact sm_bret c83 d_mo_readItem_210 rfl
theorem w_mo_readItem_L174 (l : Launch) (lo hi d : Nat) {h' : sm_H} {r0 : Int32} (s0 : Int32) (h : sm_H) (hf : f_mo_readItem_L174 s0 h = some (r0, h')) : sm_W l lo hi (d + 7) q_mo_readItem 174 [] [.int s0] h (some (.int r0)) h' := by
  unfold f_mo_readItem_L174 at hf
  obtain ⟨c82, hf⟩ := sm_gdE hf
  obtain ⟨rfl, rfl⟩ := sm_ret2 hf
  exact sm_bret c82 d_mo_readItem_174 rfl
theorem w_mo_readItem_L138 (l : Launch) (lo hi d : Nat) {h' : sm_H} {r0 : Int32} (s0 : Int32) (h : sm_H) (hf : f_mo_readItem_L138 s0 h = some (r0, h')) : sm_W l lo hi (d + 7) q_mo_readItem 138 [] [.int s0] h (some (.int r0)) h' := by
  unfold f_mo_readItem_L138 at hf
  obtain ⟨c81, hf⟩ := sm_gdE hf
  obtain ⟨rfl, rfl⟩ := sm_ret2 hf
  exact sm_bret c81 d_mo_readItem_138 rfl
theorem w_mo_readItem_L93 (l : Launch) (lo hi d : Nat) {h' : sm_H} {r0 : Int32} (s0 : Int32) (h : sm_H) (hf : f_mo_readItem_L93 s0 h = some (r0, h')) : sm_W l lo hi (d + 7) q_mo_readItem 93 [] [.int s0] h (some (.int r0)) h' := by
  unfold f_mo_readItem_L93 at hf
  obtain ⟨c80, hf⟩ := sm_gdE hf
  obtain ⟨rfl, rfl⟩ := sm_ret2 hf
  exact sm_bret c80 d_mo_readItem_93 rfl
theorem w_mo_readItem_L49 (l : Launch) (lo hi d : Nat) {h' : sm_H} {r0 : Int32} (s0 : Int32) (h : sm_H) (hf : f_mo_readItem_L49 s0 h = some (r0, h')) : sm_W l lo hi (d + 7) q_mo_readItem 49 [] [.int s0] h (some (.int r0)) h' := by
  unfold f_mo_readItem_L49 at hf
  obtain ⟨c79, hf⟩ := sm_gdE hf
  obtain ⟨rfl, rfl⟩ := sm_ret2 hf
  exact sm_bret c79 d_mo_readItem_49 rfl
theorem m_mo_readItem (l : Launch) (lo hi d : Nat) {a0 : Nat} {r0 : Int32} {h h' : sm_H} (e0 : sm_at lo hi (0, 10, 0) a0) (hf : f_mo_readItem a0 h = some (r0, h')) : sm_Met l lo hi (d + 7) q_mo_readItem [.ref a0] h (some (.int r0)) h' := by
  refine sm_Met.of (by decide +kernel) rfl ?_
  show sm_W l lo hi (d + 7) q_mo_readItem 0 [(0, .ref a0)] [] h (some (.int r0)) h'
  unfold f_mo_readItem at hf
  refine sm_aload_n 0 rfl d_mo_readItem_0 ?_
  obtain ⟨r1, g2, c3, hf⟩ := sm_b2E hf
  refine sm_callV (As := []) (rv := some (.int r1)) (h1 := g2) (c := 10) cvv_mo_258 rfl rfl e0 (m_mo_readWord l lo hi _ e0 c3) rfl rfl d_mo_readItem_1 ?_
  refine sm_if_ne 9 d_mo_readItem_4 rfl (fun c4 => ?_) (fun c4 => ?_)
  · have hf := sm_ifF c4 hf
    refine sm_aload_n 0 rfl d_mo_readItem_9 ?_
    refine sm_getI fl_mo_115 e0 rfl d_mo_readItem_10 ?_
    refine sm_nmI (fun x5 w6 => ?_)
    have hf := sm_letV w6 hf
    refine sm_istore_n (lv' := [(1, .int x5), (0, .ref a0)]) d_mo_readItem_13 rfl rfl ?_
    refine sm_aload_n 1 rfl d_mo_readItem_14 ?_
    refine sm_getL fl_mo_133 e0 rfl d_mo_readItem_15 ?_
    refine sm_ldc2 (v := 27769011) (sm_mq6 127 (by decide +kernel) rfl) d_mo_readItem_18 ?_
    refine sm_lcmp d_mo_readItem_21 ?_
    refine sm_if_ne 50 d_mo_readItem_22 rfl (fun c7 => ?_) (fun c7 => ?_)
    · have hf := sm_ifF c7 hf
      refine sm_aload_n 1 rfl d_mo_readItem_50 ?_
      refine sm_getL fl_mo_133 e0 rfl d_mo_readItem_51 ?_
      refine sm_ldc2 (v := 672734388) (sm_mq6 139 (by decide +kernel) rfl) d_mo_readItem_54 ?_
      refine sm_lcmp d_mo_readItem_57 ?_
      refine sm_if_ne 94 d_mo_readItem_58 rfl (fun c8 => ?_) (fun c8 => ?_)
      · have hf := sm_ifF c8 hf
        refine sm_aload_n 1 rfl d_mo_readItem_94 ?_
        refine sm_getL fl_mo_133 e0 rfl d_mo_readItem_95 ?_
        refine sm_ldc2 (v := 17382886) (sm_mq6 140 (by decide +kernel) rfl) d_mo_readItem_98 ?_
        refine sm_lcmp d_mo_readItem_101 ?_
        refine sm_if_ne 139 d_mo_readItem_102 rfl (fun c9 => ?_) (fun c9 => ?_)
        · have hf := sm_ifF c9 hf
          refine sm_aload_n 1 rfl d_mo_readItem_139 ?_
          refine sm_getL fl_mo_133 e0 rfl d_mo_readItem_140 ?_
          refine sm_ldc2 (v := 135708850) (sm_mq6 141 (by decide +kernel) rfl) d_mo_readItem_143 ?_
          refine sm_lcmp d_mo_readItem_146 ?_
          refine sm_if_ne 175 d_mo_readItem_147 rfl (fun c10 => ?_) (fun c10 => ?_)
          · have hf := sm_ifF c10 hf
            refine sm_aload_n 1 rfl d_mo_readItem_175 ?_
            refine sm_getL fl_mo_133 e0 rfl d_mo_readItem_176 ?_
            refine sm_ldc2 (v := 6190) (sm_mq6 158 (by decide +kernel) rfl) d_mo_readItem_179 ?_
            refine sm_lcmp d_mo_readItem_182 ?_
            refine sm_if_ne 211 d_mo_readItem_183 rfl (fun c11 => ?_) (fun c11 => ?_)
            · have hf := sm_ifF c11 hf
              refine sm_aload_n 1 rfl d_mo_readItem_211 ?_
              refine sm_getL fl_mo_133 e0 rfl d_mo_readItem_212 ?_
              refine sm_ldc2 (v := 146930) (sm_mq6 166 (by decide +kernel) rfl) d_mo_readItem_215 ?_
              refine sm_lcmp d_mo_readItem_218 ?_
              refine sm_if_ne 247 d_mo_readItem_219 rfl (fun c12 => ?_) (fun c12 => ?_)
              · have hf := sm_ifF c12 hf
                refine sm_aload_n 1 rfl d_mo_readItem_247 ?_
                refine sm_getL fl_mo_133 e0 rfl d_mo_readItem_248 ?_
                refine sm_ldc2 (v := 611717) (sm_mq6 171 (by decide +kernel) rfl) d_mo_readItem_251 ?_
                refine sm_lcmp d_mo_readItem_254 ?_
                refine sm_if_ne 283 d_mo_readItem_255 rfl (fun c13 => ?_) (fun c13 => ?_)
                · have hf := sm_ifF c13 hf
                  refine sm_aload_n 1 rfl d_mo_readItem_283 ?_
                  refine sm_iconst (v := 1) (by decide) d_mo_readItem_284 ?_
                  refine sm_iload_n 0 rfl d_mo_readItem_285 ?_
                  obtain ⟨r14, g15, c16, hf⟩ := sm_b2E hf
                  refine sm_callV (As := [.int 1, .int x5]) (rv := some (.int r14)) (h1 := g15) (c := 10) cvv_mo_129 rfl rfl e0 (m_mo_fails l lo hi _ e0 c16) rfl rfl d_mo_readItem_286 ?_
                  obtain ⟨c17, hf⟩ := sm_gdE hf
                  obtain ⟨rfl, rfl⟩ := sm_ret2 hf
                  exact sm_bret c17 d_mo_readItem_289 rfl
                · have hf := sm_ifT c13 hf
                  refine sm_aload_n 1 rfl d_mo_readItem_258 ?_
                  refine sm_getR (n := 2) fl_mo_13 e0 rfl d_mo_readItem_259 ?_
                  refine sm_iconst (v := 4) (by decide) d_mo_readItem_262 ?_
                  obtain ⟨c18, hf⟩ := sm_gdE hf
                  refine sm_iald (sm_at_arr (sm_inner e0 1 rfl rfl rfl)) c18 d_mo_readItem_263 ?_
                  refine sm_bipush (v := 12) (by decide) d_mo_readItem_264 ?_
                  refine sm_icmp_ne 278 d_mo_readItem_266 rfl (fun c19 => ?_) (fun c19 => ?_)
                  · have hf := sm_ifF c19 hf
                    refine sm_aload_n 1 rfl d_mo_readItem_278 ?_
                    obtain ⟨r20, g21, c22, hf⟩ := sm_b2E hf
                    refine sm_callV (As := []) (rv := some (.int r20)) (h1 := g21) (c := 10) cvv_mo_296 rfl rfl e0 (m_mo_readRule l lo hi _ e0 c22) rfl rfl d_mo_readItem_279 ?_
                    refine sm_sub [] rfl ?_
                    exact w_mo_readItem_L282 l lo hi d _ _ hf
                  · have hf := sm_ifT c19 hf
                    refine sm_aload_n 1 rfl d_mo_readItem_269 ?_
                    refine sm_iconst (v := 3) (by decide) d_mo_readItem_270 ?_
                    refine sm_iload_n 0 rfl d_mo_readItem_271 ?_
                    obtain ⟨r23, g24, c25, hf⟩ := sm_b2E hf
                    refine sm_callV (As := [.int 3, .int x5]) (rv := some (.int r23)) (h1 := g24) (c := 10) cvv_mo_129 rfl rfl e0 (m_mo_fails l lo hi _ e0 c25) rfl rfl d_mo_readItem_272 ?_
                    refine sm_goto 282 d_mo_readItem_275 rfl ?_
                    refine sm_sub [] rfl ?_
                    exact w_mo_readItem_L282 l lo hi d _ _ hf
              · have hf := sm_ifT c12 hf
                refine sm_aload_n 1 rfl d_mo_readItem_222 ?_
                refine sm_getR (n := 2) fl_mo_13 e0 rfl d_mo_readItem_223 ?_
                refine sm_iconst (v := 3) (by decide) d_mo_readItem_226 ?_
                obtain ⟨c26, hf⟩ := sm_gdE hf
                refine sm_iald (sm_at_arr (sm_inner e0 1 rfl rfl rfl)) c26 d_mo_readItem_227 ?_
                refine sm_bipush (v := 10) (by decide) d_mo_readItem_228 ?_
                refine sm_icmp_ne 242 d_mo_readItem_230 rfl (fun c27 => ?_) (fun c27 => ?_)
                · have hf := sm_ifF c27 hf
                  refine sm_aload_n 1 rfl d_mo_readItem_242 ?_
                  obtain ⟨r28, g29, c30, hf⟩ := sm_b2E hf
                  refine sm_callV (As := []) (rv := some (.int r28)) (h1 := g29) (c := 10) cvv_mo_291 rfl rfl e0 (m_mo_readDoor l lo hi _ e0 c30) rfl rfl d_mo_readItem_243 ?_
                  refine sm_sub [] rfl ?_
                  exact w_mo_readItem_L246 l lo hi d _ _ hf
                · have hf := sm_ifT c27 hf
                  refine sm_aload_n 1 rfl d_mo_readItem_233 ?_
                  refine sm_iconst (v := 3) (by decide) d_mo_readItem_234 ?_
                  refine sm_iload_n 0 rfl d_mo_readItem_235 ?_
                  obtain ⟨r31, g32, c33, hf⟩ := sm_b2E hf
                  refine sm_callV (As := [.int 3, .int x5]) (rv := some (.int r31)) (h1 := g32) (c := 10) cvv_mo_129 rfl rfl e0 (m_mo_fails l lo hi _ e0 c33) rfl rfl d_mo_readItem_236 ?_
                  refine sm_goto 246 d_mo_readItem_239 rfl ?_
                  refine sm_sub [] rfl ?_
                  exact w_mo_readItem_L246 l lo hi d _ _ hf
            · have hf := sm_ifT c11 hf
              refine sm_aload_n 1 rfl d_mo_readItem_186 ?_
              refine sm_getR (n := 2) fl_mo_13 e0 rfl d_mo_readItem_187 ?_
              refine sm_iconst (v := 2) (by decide) d_mo_readItem_190 ?_
              obtain ⟨c34, hf⟩ := sm_gdE hf
              refine sm_iald (sm_at_arr (sm_inner e0 1 rfl rfl rfl)) c34 d_mo_readItem_191 ?_
              refine sm_bipush (v := 6) (by decide) d_mo_readItem_192 ?_
              refine sm_icmp_ne 206 d_mo_readItem_194 rfl (fun c35 => ?_) (fun c35 => ?_)
              · have hf := sm_ifF c35 hf
                refine sm_aload_n 1 rfl d_mo_readItem_206 ?_
                obtain ⟨r36, g37, c38, hf⟩ := sm_b2E hf
                refine sm_callV (As := []) (rv := some (.int r36)) (h1 := g37) (c := 10) cvv_mo_286 rfl rfl e0 (m_mo_readFan l lo hi _ e0 c38) rfl rfl d_mo_readItem_207 ?_
                refine sm_sub [] rfl ?_
                exact w_mo_readItem_L210 l lo hi d _ _ hf
              · have hf := sm_ifT c35 hf
                refine sm_aload_n 1 rfl d_mo_readItem_197 ?_
                refine sm_iconst (v := 3) (by decide) d_mo_readItem_198 ?_
                refine sm_iload_n 0 rfl d_mo_readItem_199 ?_
                obtain ⟨r39, g40, c41, hf⟩ := sm_b2E hf
                refine sm_callV (As := [.int 3, .int x5]) (rv := some (.int r39)) (h1 := g40) (c := 10) cvv_mo_129 rfl rfl e0 (m_mo_fails l lo hi _ e0 c41) rfl rfl d_mo_readItem_200 ?_
                refine sm_goto 210 d_mo_readItem_203 rfl ?_
                refine sm_sub [] rfl ?_
                exact w_mo_readItem_L210 l lo hi d _ _ hf
          · have hf := sm_ifT c10 hf
            refine sm_aload_n 1 rfl d_mo_readItem_150 ?_
            refine sm_getR (n := 2) fl_mo_13 e0 rfl d_mo_readItem_151 ?_
            refine sm_iconst (v := 1) (by decide) d_mo_readItem_154 ?_
            obtain ⟨c42, hf⟩ := sm_gdE hf
            refine sm_iald (sm_at_arr (sm_inner e0 1 rfl rfl rfl)) c42 d_mo_readItem_155 ?_
            refine sm_bipush (v := 16) (by decide) d_mo_readItem_156 ?_
            refine sm_icmp_ne 170 d_mo_readItem_158 rfl (fun c43 => ?_) (fun c43 => ?_)
            · have hf := sm_ifF c43 hf
              refine sm_aload_n 1 rfl d_mo_readItem_170 ?_
              obtain ⟨r44, g45, c46, hf⟩ := sm_b2E hf
              refine sm_callV (As := []) (rv := some (.int r44)) (h1 := g45) (c := 10) cvv_mo_281 rfl rfl e0 (m_mo_readDamper l lo hi _ e0 c46) rfl rfl d_mo_readItem_171 ?_
              refine sm_sub [] rfl ?_
              exact w_mo_readItem_L174 l lo hi d _ _ hf
            · have hf := sm_ifT c43 hf
              refine sm_aload_n 1 rfl d_mo_readItem_161 ?_
              refine sm_iconst (v := 3) (by decide) d_mo_readItem_162 ?_
              refine sm_iload_n 0 rfl d_mo_readItem_163 ?_
              obtain ⟨r47, g48, c49, hf⟩ := sm_b2E hf
              refine sm_callV (As := [.int 3, .int x5]) (rv := some (.int r47)) (h1 := g48) (c := 10) cvv_mo_129 rfl rfl e0 (m_mo_fails l lo hi _ e0 c49) rfl rfl d_mo_readItem_164 ?_
              refine sm_goto 174 d_mo_readItem_167 rfl ?_
              refine sm_sub [] rfl ?_
              exact w_mo_readItem_L174 l lo hi d _ _ hf
        · have hf := sm_ifT c9 hf
          refine sm_aload_n 1 rfl d_mo_readItem_105 ?_
          refine sm_getI fl_mo_276 e0 rfl d_mo_readItem_106 ?_
          refine sm_nmI (fun x50 w51 => ?_)
          have hf := sm_letV w51 hf
          refine sm_istore_n (lv' := [(2, .int x50), (1, .int x5), (0, .ref a0)]) d_mo_readItem_109 rfl rfl ?_
          refine sm_aload_n 2 rfl d_mo_readItem_110 ?_
          refine sm_iconst (v := 1) (by decide) d_mo_readItem_111 ?_
          refine sm_putZ fp_mo_276 e0 rfl rfl (by decide) d_mo_readItem_112 ?_
          refine sm_nmH (fun g52 w53 => ?_)
          have hf := sm_letV w53 hf
          refine sm_iload_n 0 rfl d_mo_readItem_115 ?_
          refine sm_if_eq 128 d_mo_readItem_116 rfl (fun c54 => ?_) (fun c54 => ?_)
          · have hf := sm_ifT c54 hf
            refine sm_aload_n 2 rfl d_mo_readItem_128 ?_
            refine sm_bipush (v := 6) (by decide) d_mo_readItem_129 ?_
            refine sm_iconst (v := 0) (by decide) d_mo_readItem_131 ?_
            refine sm_sipush (v := 999) (by decide) d_mo_readItem_132 ?_
            obtain ⟨r55, g56, c57, hf⟩ := sm_b2E hf
            refine sm_callV (As := [.int 6, .int 0, .int 999]) (rv := some (.int r55)) (h1 := g56) (c := 10) cvv_mo_266 rfl rfl e0 (m_mo_readSetting l lo hi _ e0 c57) rfl rfl d_mo_readItem_135 ?_
            refine sm_sub [] rfl ?_
            exact w_mo_readItem_L138 l lo hi d _ _ hf
          · have hf := sm_ifF c54 hf
            refine sm_aload_n 2 rfl d_mo_readItem_119 ?_
            refine sm_iconst (v := 1) (by decide) d_mo_readItem_120 ?_
            refine sm_iload_n 1 rfl d_mo_readItem_121 ?_
            obtain ⟨r58, g59, c60, hf⟩ := sm_b2E hf
            refine sm_callV (As := [.int 1, .int x5]) (rv := some (.int r58)) (h1 := g59) (c := 10) cvv_mo_129 rfl rfl e0 (m_mo_fails l lo hi _ e0 c60) rfl rfl d_mo_readItem_122 ?_
            refine sm_goto 138 d_mo_readItem_125 rfl ?_
            refine sm_sub [] rfl ?_
            exact w_mo_readItem_L138 l lo hi d _ _ hf
      · have hf := sm_ifT c8 hf
        refine sm_aload_n 1 rfl d_mo_readItem_61 ?_
        refine sm_getI fl_mo_271 e0 rfl d_mo_readItem_62 ?_
        refine sm_nmI (fun x61 w62 => ?_)
        have hf := sm_letV w62 hf
        refine sm_istore_n (lv' := [(2, .int x61), (1, .int x5), (0, .ref a0)]) d_mo_readItem_65 rfl rfl ?_
        refine sm_aload_n 2 rfl d_mo_readItem_66 ?_
        refine sm_iconst (v := 1) (by decide) d_mo_readItem_67 ?_
        refine sm_putZ fp_mo_271 e0 rfl rfl (by decide) d_mo_readItem_68 ?_
        refine sm_nmH (fun g63 w64 => ?_)
        have hf := sm_letV w64 hf
        refine sm_iload_n 0 rfl d_mo_readItem_71 ?_
        refine sm_if_eq 84 d_mo_readItem_72 rfl (fun c65 => ?_) (fun c65 => ?_)
        · have hf := sm_ifT c65 hf
          refine sm_aload_n 2 rfl d_mo_readItem_84 ?_
          refine sm_iconst (v := 5) (by decide) d_mo_readItem_85 ?_
          refine sm_iconst (v := 1) (by decide) d_mo_readItem_86 ?_
          refine sm_sipush (v := 200) (by decide) d_mo_readItem_87 ?_
          obtain ⟨r66, g67, c68, hf⟩ := sm_b2E hf
          refine sm_callV (As := [.int 5, .int 1, .int 200]) (rv := some (.int r66)) (h1 := g67) (c := 10) cvv_mo_266 rfl rfl e0 (m_mo_readSetting l lo hi _ e0 c68) rfl rfl d_mo_readItem_90 ?_
          refine sm_sub [] rfl ?_
          exact w_mo_readItem_L93 l lo hi d _ _ hf
        · have hf := sm_ifF c65 hf
          refine sm_aload_n 2 rfl d_mo_readItem_75 ?_
          refine sm_iconst (v := 1) (by decide) d_mo_readItem_76 ?_
          refine sm_iload_n 1 rfl d_mo_readItem_77 ?_
          obtain ⟨r69, g70, c71, hf⟩ := sm_b2E hf
          refine sm_callV (As := [.int 1, .int x5]) (rv := some (.int r69)) (h1 := g70) (c := 10) cvv_mo_129 rfl rfl e0 (m_mo_fails l lo hi _ e0 c71) rfl rfl d_mo_readItem_78 ?_
          refine sm_goto 93 d_mo_readItem_81 rfl ?_
          refine sm_sub [] rfl ?_
          exact w_mo_readItem_L93 l lo hi d _ _ hf
    · have hf := sm_ifT c7 hf
      refine sm_aload_n 1 rfl d_mo_readItem_25 ?_
      refine sm_getI fl_mo_263 e0 rfl d_mo_readItem_26 ?_
      refine sm_if_ne 43 d_mo_readItem_29 rfl (fun c72 => ?_) (fun c72 => ?_)
      · have hf := sm_ifF c72 hf
        refine sm_aload_n 1 rfl d_mo_readItem_43 ?_
        refine sm_iconst (v := 1) (by decide) d_mo_readItem_44 ?_
        refine sm_iload_n 0 rfl d_mo_readItem_45 ?_
        obtain ⟨r73, g74, c75, hf⟩ := sm_b2E hf
        refine sm_callV (As := [.int 1, .int x5]) (rv := some (.int r73)) (h1 := g74) (c := 10) cvv_mo_129 rfl rfl e0 (m_mo_fails l lo hi _ e0 c75) rfl rfl d_mo_readItem_46 ?_
        refine sm_sub [] rfl ?_
        exact w_mo_readItem_L49 l lo hi d _ _ hf
      · have hf := sm_ifT c72 hf
        refine sm_aload_n 1 rfl d_mo_readItem_32 ?_
        refine sm_iconst (v := 0) (by decide) d_mo_readItem_33 ?_
        refine sm_iconst (v := 1) (by decide) d_mo_readItem_34 ?_
        refine sm_bipush (v := 8) (by decide) d_mo_readItem_35 ?_
        obtain ⟨r76, g77, c78, hf⟩ := sm_b2E hf
        refine sm_callV (As := [.int 0, .int 1, .int 8]) (rv := some (.int r76)) (h1 := g77) (c := 10) cvv_mo_266 rfl rfl e0 (m_mo_readSetting l lo hi _ e0 c78) rfl rfl d_mo_readItem_37 ?_
        refine sm_goto 49 d_mo_readItem_40 rfl ?_
        refine sm_sub [] rfl ?_
        exact w_mo_readItem_L49 l lo hi d _ _ hf
  · have hf := sm_ifT c4 hf
    refine sm_iconst (v := 0) (by decide) d_mo_readItem_7 ?_
    obtain ⟨rfl, rfl⟩ := sm_ret2 hf
    exact sm_bret (by decide) d_mo_readItem_8 rfl
theorem d_mo_readPlant_0 : decode q_mo_readPlant.2.1 0 = .ok (.aload_n 0, 1) := by decide +kernel
theorem d_mo_readPlant_1 : decode q_mo_readPlant.2.1 1 = .ok (.iconst 0, 1) := by decide +kernel
theorem d_mo_readPlant_2 : decode q_mo_readPlant.2.1 2 = .ok (.putfield 108, 3) := by decide +kernel
theorem d_mo_readPlant_5 : decode q_mo_readPlant.2.1 5 = .ok (.aload_n 0, 1) := by decide +kernel
theorem d_mo_readPlant_6 : decode q_mo_readPlant.2.1 6 = .ok (.iconst (-1), 1) := by decide +kernel
theorem d_mo_readPlant_7 : decode q_mo_readPlant.2.1 7 = .ok (.putfield 126, 3) := by decide +kernel
theorem d_mo_readPlant_10 : decode q_mo_readPlant.2.1 10 = .ok (.aload_n 0, 1) := by decide +kernel
theorem d_mo_readPlant_11 : decode q_mo_readPlant.2.1 11 = .ok (.iconst 0, 1) := by decide +kernel
theorem d_mo_readPlant_12 : decode q_mo_readPlant.2.1 12 = .ok (.putfield 263, 3) := by decide +kernel
theorem d_mo_readPlant_15 : decode q_mo_readPlant.2.1 15 = .ok (.aload_n 0, 1) := by decide +kernel
theorem d_mo_readPlant_16 : decode q_mo_readPlant.2.1 16 = .ok (.iconst 0, 1) := by decide +kernel
theorem d_mo_readPlant_17 : decode q_mo_readPlant.2.1 17 = .ok (.putfield 271, 3) := by decide +kernel
theorem d_mo_readPlant_20 : decode q_mo_readPlant.2.1 20 = .ok (.aload_n 0, 1) := by decide +kernel
theorem d_mo_readPlant_21 : decode q_mo_readPlant.2.1 21 = .ok (.iconst 0, 1) := by decide +kernel
theorem d_mo_readPlant_22 : decode q_mo_readPlant.2.1 22 = .ok (.putfield 276, 3) := by decide +kernel
theorem d_mo_readPlant_25 : decode q_mo_readPlant.2.1 25 = .ok (.aload_n 0, 1) := by decide +kernel
theorem d_mo_readPlant_26 : decode q_mo_readPlant.2.1 26 = .ok (.getfield 13, 3) := by decide +kernel
theorem d_mo_readPlant_29 : decode q_mo_readPlant.2.1 29 = .ok (.invokestatic 66, 3) := by decide +kernel
theorem d_mo_readPlant_32 : decode q_mo_readPlant.2.1 32 = .ok (.aload_n 0, 1) := by decide +kernel
theorem d_mo_readPlant_33 : decode q_mo_readPlant.2.1 33 = .ok (.invokevirtual 118, 3) := by decide +kernel
theorem d_mo_readPlant_36 : decode q_mo_readPlant.2.1 36 = .ok (.iconst (-1), 1) := by decide +kernel
theorem d_mo_readPlant_37 : decode q_mo_readPlant.2.1 37 = .ok (.if_icmp .eq 34, 3) := by decide +kernel
theorem d_mo_readPlant_40 : decode q_mo_readPlant.2.1 40 = .ok (.aload_n 0, 1) := by decide +kernel
theorem d_mo_readPlant_41 : decode q_mo_readPlant.2.1 41 = .ok (.invokevirtual 299, 3) := by decide +kernel
theorem d_mo_readPlant_44 : decode q_mo_readPlant.2.1 44 = .ok (.ifCond .eq 12, 3) := by decide +kernel
theorem d_mo_readPlant_47 : decode q_mo_readPlant.2.1 47 = .ok (.aload_n 0, 1) := by decide +kernel
theorem d_mo_readPlant_48 : decode q_mo_readPlant.2.1 48 = .ok (.bipush 59, 2) := by decide +kernel
theorem d_mo_readPlant_50 : decode q_mo_readPlant.2.1 50 = .ok (.invokevirtual 302, 3) := by decide +kernel
theorem d_mo_readPlant_53 : decode q_mo_readPlant.2.1 53 = .ok (.ifCond .ne 5, 3) := by decide +kernel
theorem d_mo_readPlant_56 : decode q_mo_readPlant.2.1 56 = .ok (.iconst 0, 1) := by decide +kernel
theorem d_mo_readPlant_57 : decode q_mo_readPlant.2.1 57 = .ok (.ireturn, 1) := by decide +kernel
theorem d_mo_readPlant_58 : decode q_mo_readPlant.2.1 58 = .ok (.aload_n 0, 1) := by decide +kernel
theorem d_mo_readPlant_59 : decode q_mo_readPlant.2.1 59 = .ok (.aload_n 0, 1) := by decide +kernel
theorem d_mo_readPlant_60 : decode q_mo_readPlant.2.1 60 = .ok (.getfield 263, 3) := by decide +kernel
theorem d_mo_readPlant_63 : decode q_mo_readPlant.2.1 63 = .ok (.iconst 1, 1) := by decide +kernel
theorem d_mo_readPlant_64 : decode q_mo_readPlant.2.1 64 = .ok (.iadd, 1) := by decide +kernel
theorem d_mo_readPlant_65 : decode q_mo_readPlant.2.1 65 = .ok (.putfield 263, 3) := by decide +kernel
theorem d_mo_readPlant_68 : decode q_mo_readPlant.2.1 68 = .ok (.goto (-36), 3) := by decide +kernel
theorem d_mo_readPlant_71 : decode q_mo_readPlant.2.1 71 = .ok (.iconst 1, 1) := by decide +kernel
theorem d_mo_readPlant_72 : decode q_mo_readPlant.2.1 72 = .ok (.ireturn, 1) := by decide +kernel
theorem w_mo_readPlant_L32 (l : Launch) (lo hi d : Nat) {h' : sm_H} {r0 : Int32} : ∀ (n : Nat) (a0 : Nat) (h : sm_H) (e0 : sm_at lo hi (0, 10, 0) a0) (hf : f_mo_readPlant_L32 n a0 h = some (r0, h')), sm_W l lo hi (d + 8) q_mo_readPlant 32 [(0, .ref a0)] [] h (some (.int r0)) h' := by
  intro n
  induction n with
  | zero =>
    intro a0 h e0 hf
    have z : (none : Option (Int32 × sm_H)) = some _ := hf
    cases z
  | succ n ih =>
    intro a0 h e0 hf
    unfold f_mo_readPlant_L32 at hf
    refine sm_aload_n 0 rfl d_mo_readPlant_32 ?_
    obtain ⟨r13, g14, c15, hf⟩ := sm_b2E hf
    refine sm_callV (As := []) (rv := some (.int r13)) (h1 := g14) (c := 10) cvv_mo_118 rfl rfl e0 (m_mo_peek l lo hi _ e0 c15) rfl rfl d_mo_readPlant_33 ?_
    refine sm_iconst (v := (-1)) (by decide) d_mo_readPlant_36 ?_
    refine sm_icmp_eq 71 d_mo_readPlant_37 rfl (fun c16 => ?_) (fun c16 => ?_)
    · have hf := sm_ifT c16 hf
      refine sm_iconst (v := 1) (by decide) d_mo_readPlant_71 ?_
      obtain ⟨rfl, rfl⟩ := sm_ret2 hf
      exact sm_bret (by decide) d_mo_readPlant_72 rfl
    · have hf := sm_ifF c16 hf
      refine sm_aload_n 0 rfl d_mo_readPlant_40 ?_
      obtain ⟨r17, g18, c19, hf⟩ := sm_b2E hf
      refine sm_callV (As := []) (rv := some (.int r17)) (h1 := g18) (c := 10) cvv_mo_299 rfl rfl e0 (m_mo_readItem l lo hi _ e0 c19) rfl rfl d_mo_readPlant_41 ?_
      refine sm_if_eq 56 d_mo_readPlant_44 rfl (fun c20 => ?_) (fun c20 => ?_)
      · have hf := sm_ifT c20 hf
        refine sm_iconst (v := 0) (by decide) d_mo_readPlant_56 ?_
        obtain ⟨rfl, rfl⟩ := sm_ret2 hf
        exact sm_bret (by decide) d_mo_readPlant_57 rfl
      · have hf := sm_ifF c20 hf
        refine sm_aload_n 0 rfl d_mo_readPlant_47 ?_
        refine sm_bipush (v := 59) (by decide) d_mo_readPlant_48 ?_
        obtain ⟨r21, g22, c23, hf⟩ := sm_b2E hf
        refine sm_callV (As := [.int 59]) (rv := some (.int r21)) (h1 := g22) (c := 10) cvv_mo_302 rfl rfl e0 (m_mo_readSign l lo hi _ e0 c23) rfl rfl d_mo_readPlant_50 ?_
        refine sm_if_ne 58 d_mo_readPlant_53 rfl (fun c24 => ?_) (fun c24 => ?_)
        · have hf := sm_ifF c24 hf
          refine sm_aload_n 0 rfl d_mo_readPlant_58 ?_
          refine sm_aload_n 0 rfl d_mo_readPlant_59 ?_
          refine sm_getI fl_mo_263 e0 rfl d_mo_readPlant_60 ?_
          refine sm_iconst (v := 1) (by decide) d_mo_readPlant_63 ?_
          refine sm_iadd d_mo_readPlant_64 ?_
          refine sm_putI fp_mo_263 e0 rfl rfl d_mo_readPlant_65 ?_
          refine sm_nmH (fun g25 w26 => ?_)
          have hf := sm_letV w26 hf
          refine sm_goto 32 d_mo_readPlant_68 rfl ?_
          exact ih _ _ e0 hf
        · have hf := sm_ifT c24 hf
          refine sm_iconst (v := 0) (by decide) d_mo_readPlant_56 ?_
          obtain ⟨rfl, rfl⟩ := sm_ret2 hf
          exact sm_bret (by decide) d_mo_readPlant_57 rfl
theorem m_mo_readPlant (l : Launch) (lo hi d : Nat) {a0 : Nat} {r0 : Int32} {h h' : sm_H} (e0 : sm_at lo hi (0, 10, 0) a0) (hf : f_mo_readPlant a0 h = some (r0, h')) : sm_Met l lo hi (d + 8) q_mo_readPlant [.ref a0] h (some (.int r0)) h' := by
  refine sm_Met.of (by decide +kernel) rfl ?_
  show sm_W l lo hi (d + 8) q_mo_readPlant 0 [(0, .ref a0)] [] h (some (.int r0)) h'
  unfold f_mo_readPlant at hf
  refine sm_aload_n 0 rfl d_mo_readPlant_0 ?_
  refine sm_iconst (v := 0) (by decide) d_mo_readPlant_1 ?_
  refine sm_putI fp_mo_108 e0 rfl rfl d_mo_readPlant_2 ?_
  refine sm_nmH (fun g1 w2 => ?_)
  have hf := sm_letV w2 hf
  refine sm_aload_n 0 rfl d_mo_readPlant_5 ?_
  refine sm_iconst (v := (-1)) (by decide) d_mo_readPlant_6 ?_
  refine sm_putI fp_mo_126 e0 rfl rfl d_mo_readPlant_7 ?_
  refine sm_nmH (fun g3 w4 => ?_)
  have hf := sm_letV w4 hf
  refine sm_aload_n 0 rfl d_mo_readPlant_10 ?_
  refine sm_iconst (v := 0) (by decide) d_mo_readPlant_11 ?_
  refine sm_putI fp_mo_263 e0 rfl rfl d_mo_readPlant_12 ?_
  refine sm_nmH (fun g5 w6 => ?_)
  have hf := sm_letV w6 hf
  refine sm_aload_n 0 rfl d_mo_readPlant_15 ?_
  refine sm_iconst (v := 0) (by decide) d_mo_readPlant_16 ?_
  refine sm_putZ fp_mo_271 e0 rfl rfl (by decide) d_mo_readPlant_17 ?_
  refine sm_nmH (fun g7 w8 => ?_)
  have hf := sm_letV w8 hf
  refine sm_aload_n 0 rfl d_mo_readPlant_20 ?_
  refine sm_iconst (v := 0) (by decide) d_mo_readPlant_21 ?_
  refine sm_putZ fp_mo_276 e0 rfl rfl (by decide) d_mo_readPlant_22 ?_
  refine sm_nmH (fun g9 w10 => ?_)
  have hf := sm_letV w10 hf
  refine sm_aload_n 0 rfl d_mo_readPlant_25 ?_
  refine sm_getR (n := 2) fl_mo_13 e0 rfl d_mo_readPlant_26 ?_
  obtain ⟨g11, c12, hf⟩ := sm_bindE hf
  refine sm_callS (As := [.ref (a0 + 2)]) (rv := none) (h1 := g11) cvs_mo_66 (m_mo_clearPlan l lo hi _ (sm_arr_self (sm_at_arr (sm_inner e0 1 rfl rfl rfl))) c12) rfl rfl d_mo_readPlant_29 ?_
  exact w_mo_readPlant_L32 l lo hi d sm_N _ _ e0 hf
