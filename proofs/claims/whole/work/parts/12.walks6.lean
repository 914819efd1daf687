theorem d_mo_raiseAlarms_0 : decode q_mo_raiseAlarms.2.1 0 = .ok (.iconst (-1), 1) := by decide +kernel
theorem d_mo_raiseAlarms_1 : decode q_mo_raiseAlarms.2.1 1 = .ok (.istore_n 1, 1) := by decide +kernel
theorem d_mo_raiseAlarms_2 : decode q_mo_raiseAlarms.2.1 2 = .ok (.iconst 0, 1) := by decide +kernel
theorem d_mo_raiseAlarms_3 : decode q_mo_raiseAlarms.2.1 3 = .ok (.istore_n 2, 1) := by decide +kernel
theorem d_mo_raiseAlarms_4 : decode q_mo_raiseAlarms.2.1 4 = .ok (.iload_n 2, 1) := by decide +kernel
theorem d_mo_raiseAlarms_5 : decode q_mo_raiseAlarms.2.1 5 = .ok (.aload_n 0, 1) := by decide +kernel
theorem d_mo_raiseAlarms_6 : decode q_mo_raiseAlarms.2.1 6 = .ok (.getfield 7, 3) := by decide +kernel
theorem d_mo_raiseAlarms_9 : decode q_mo_raiseAlarms.2.1 9 = .ok (.iconst 0, 1) := by decide +kernel
theorem d_mo_raiseAlarms_10 : decode q_mo_raiseAlarms.2.1 10 = .ok (.iaload, 1) := by decide +kernel
theorem d_mo_raiseAlarms_11 : decode q_mo_raiseAlarms.2.1 11 = .ok (.if_icmp .ge 67, 3) := by decide +kernel
theorem d_mo_raiseAlarms_14 : decode q_mo_raiseAlarms.2.1 14 = .ok (.aload_n 0, 1) := by decide +kernel
theorem d_mo_raiseAlarms_15 : decode q_mo_raiseAlarms.2.1 15 = .ok (.iload_n 2, 1) := by decide +kernel
theorem d_mo_raiseAlarms_16 : decode q_mo_raiseAlarms.2.1 16 = .ok (.iconst 0, 1) := by decide +kernel
theorem d_mo_raiseAlarms_17 : decode q_mo_raiseAlarms.2.1 17 = .ok (.invokevirtual 314, 3) := by decide +kernel
theorem d_mo_raiseAlarms_20 : decode q_mo_raiseAlarms.2.1 20 = .ok (.bipush 100, 2) := by decide +kernel
theorem d_mo_raiseAlarms_22 : decode q_mo_raiseAlarms.2.1 22 = .ok (.if_icmp .lt 50, 3) := by decide +kernel
theorem d_mo_raiseAlarms_25 : decode q_mo_raiseAlarms.2.1 25 = .ok (.aload_n 0, 1) := by decide +kernel
theorem d_mo_raiseAlarms_26 : decode q_mo_raiseAlarms.2.1 26 = .ok (.iload_n 2, 1) := by decide +kernel
theorem d_mo_raiseAlarms_27 : decode q_mo_raiseAlarms.2.1 27 = .ok (.iconst 2, 1) := by decide +kernel
theorem d_mo_raiseAlarms_28 : decode q_mo_raiseAlarms.2.1 28 = .ok (.invokevirtual 314, 3) := by decide +kernel
theorem d_mo_raiseAlarms_31 : decode q_mo_raiseAlarms.2.1 31 = .ok (.iconst 1, 1) := by decide +kernel
theorem d_mo_raiseAlarms_32 : decode q_mo_raiseAlarms.2.1 32 = .ok (.if_icmp .eq 40, 3) := by decide +kernel
theorem d_mo_raiseAlarms_35 : decode q_mo_raiseAlarms.2.1 35 = .ok (.aload_n 0, 1) := by decide +kernel
theorem d_mo_raiseAlarms_36 : decode q_mo_raiseAlarms.2.1 36 = .ok (.iload_n 2, 1) := by decide +kernel
theorem d_mo_raiseAlarms_37 : decode q_mo_raiseAlarms.2.1 37 = .ok (.iconst 3, 1) := by decide +kernel
theorem d_mo_raiseAlarms_38 : decode q_mo_raiseAlarms.2.1 38 = .ok (.invokevirtual 314, 3) := by decide +kernel
theorem d_mo_raiseAlarms_41 : decode q_mo_raiseAlarms.2.1 41 = .ok (.iconst 1, 1) := by decide +kernel
theorem d_mo_raiseAlarms_42 : decode q_mo_raiseAlarms.2.1 42 = .ok (.if_icmp .ne 6, 3) := by decide +kernel
theorem d_mo_raiseAlarms_45 : decode q_mo_raiseAlarms.2.1 45 = .ok (.goto 27, 3) := by decide +kernel
theorem d_mo_raiseAlarms_48 : decode q_mo_raiseAlarms.2.1 48 = .ok (.aload_n 0, 1) := by decide +kernel
theorem d_mo_raiseAlarms_49 : decode q_mo_raiseAlarms.2.1 49 = .ok (.iload_n 2, 1) := by decide +kernel
theorem d_mo_raiseAlarms_50 : decode q_mo_raiseAlarms.2.1 50 = .ok (.iconst 2, 1) := by decide +kernel
theorem d_mo_raiseAlarms_51 : decode q_mo_raiseAlarms.2.1 51 = .ok (.iconst 1, 1) := by decide +kernel
theorem d_mo_raiseAlarms_52 : decode q_mo_raiseAlarms.2.1 52 = .ok (.invokevirtual 400, 3) := by decide +kernel
theorem d_mo_raiseAlarms_55 : decode q_mo_raiseAlarms.2.1 55 = .ok (.aload_n 0, 1) := by decide +kernel
theorem d_mo_raiseAlarms_56 : decode q_mo_raiseAlarms.2.1 56 = .ok (.iconst 0, 1) := by decide +kernel
theorem d_mo_raiseAlarms_57 : decode q_mo_raiseAlarms.2.1 57 = .ok (.iload_n 2, 1) := by decide +kernel
theorem d_mo_raiseAlarms_58 : decode q_mo_raiseAlarms.2.1 58 = .ok (.invokevirtual 364, 3) := by decide +kernel
theorem d_mo_raiseAlarms_61 : decode q_mo_raiseAlarms.2.1 61 = .ok (.iload_n 1, 1) := by decide +kernel
theorem d_mo_raiseAlarms_62 : decode q_mo_raiseAlarms.2.1 62 = .ok (.iconst (-1), 1) := by decide +kernel
theorem d_mo_raiseAlarms_63 : decode q_mo_raiseAlarms.2.1 63 = .ok (.if_icmp .ne 7, 3) := by decide +kernel
theorem d_mo_raiseAlarms_66 : decode q_mo_raiseAlarms.2.1 66 = .ok (.iload_n 2, 1) := by decide +kernel
theorem d_mo_raiseAlarms_67 : decode q_mo_raiseAlarms.2.1 67 = .ok (.goto 4, 3) := by decide +kernel
theorem d_mo_raiseAlarms_70 : decode q_mo_raiseAlarms.2.1 70 = .ok (.iload_n 1, 1) := by decide +kernel
theorem d_mo_raiseAlarms_71 : decode q_mo_raiseAlarms.2.1 71 = .ok (.istore_n 1, 1) := by decide +kernel
theorem d_mo_raiseAlarms_72 : decode q_mo_raiseAlarms.2.1 72 = .ok (.iinc 2 1, 3) := by decide +kernel
theorem d_mo_raiseAlarms_75 : decode q_mo_raiseAlarms.2.1 75 = .ok (.goto (-71), 3) := by decide +kernel
theorem d_mo_raiseAlarms_78 : decode q_mo_raiseAlarms.2.1 78 = .ok (.iload_n 1, 1) := by decide +kernel
theorem d_mo_raiseAlarms_79 : decode q_mo_raiseAlarms.2.1 79 = .ok (.iconst (-1), 1) := by decide +kernel
theorem d_mo_raiseAlarms_80 : decode q_mo_raiseAlarms.2.1 80 = .ok (.if_icmp .eq 35, 3) := by decide +kernel
theorem d_mo_raiseAlarms_83 : decode q_mo_raiseAlarms.2.1 83 = .ok (.aload_n 0, 1) := by decide +kernel
theorem d_mo_raiseAlarms_84 : decode q_mo_raiseAlarms.2.1 84 = .ok (.getfield 16, 3) := by decide +kernel
theorem d_mo_raiseAlarms_87 : decode q_mo_raiseAlarms.2.1 87 = .ok (.bipush 7, 2) := by decide +kernel
theorem d_mo_raiseAlarms_89 : decode q_mo_raiseAlarms.2.1 89 = .ok (.iaload, 1) := by decide +kernel
theorem d_mo_raiseAlarms_90 : decode q_mo_raiseAlarms.2.1 90 = .ok (.iconst (-1), 1) := by decide +kernel
theorem d_mo_raiseAlarms_91 : decode q_mo_raiseAlarms.2.1 91 = .ok (.if_icmp .ne 24, 3) := by decide +kernel
theorem d_mo_raiseAlarms_94 : decode q_mo_raiseAlarms.2.1 94 = .ok (.aload_n 0, 1) := by decide +kernel
theorem d_mo_raiseAlarms_95 : decode q_mo_raiseAlarms.2.1 95 = .ok (.getfield 16, 3) := by decide +kernel
theorem d_mo_raiseAlarms_98 : decode q_mo_raiseAlarms.2.1 98 = .ok (.bipush 7, 2) := by decide +kernel
theorem d_mo_raiseAlarms_100 : decode q_mo_raiseAlarms.2.1 100 = .ok (.iload_n 1, 1) := by decide +kernel
theorem d_mo_raiseAlarms_101 : decode q_mo_raiseAlarms.2.1 101 = .ok (.iastore, 1) := by decide +kernel
theorem d_mo_raiseAlarms_102 : decode q_mo_raiseAlarms.2.1 102 = .ok (.aload_n 0, 1) := by decide +kernel
theorem d_mo_raiseAlarms_103 : decode q_mo_raiseAlarms.2.1 103 = .ok (.getfield 16, 3) := by decide +kernel
theorem d_mo_raiseAlarms_106 : decode q_mo_raiseAlarms.2.1 106 = .ok (.bipush 8, 2) := by decide +kernel
theorem d_mo_raiseAlarms_108 : decode q_mo_raiseAlarms.2.1 108 = .ok (.aload_n 0, 1) := by decide +kernel
theorem d_mo_raiseAlarms_109 : decode q_mo_raiseAlarms.2.1 109 = .ok (.getfield 16, 3) := by decide +kernel
theorem d_mo_raiseAlarms_112 : decode q_mo_raiseAlarms.2.1 112 = .ok (.iconst 0, 1) := by decide +kernel
theorem d_mo_raiseAlarms_113 : decode q_mo_raiseAlarms.2.1 113 = .ok (.iaload, 1) := by decide +kernel
theorem d_mo_raiseAlarms_114 : decode q_mo_raiseAlarms.2.1 114 = .ok (.iastore, 1) := by decide +kernel
theorem d_mo_raiseAlarms_115 : decode q_mo_raiseAlarms.2.1 115 = .ok (.return_, 1) := by decide +kernel
theorem w_mo_raiseAlarms_L78 (l : Launch) (lo hi d : Nat) {h' : sm_H} (a0 : Nat) (a1 : Int32) (h : sm_H) (e0 : sm_at lo hi (0, 10, 0) a0) (hf : f_mo_raiseAlarms_L78 a0 a1 h = some h') : sm_W l lo hi (d + 1) q_mo_raiseAlarms 78 [(0, .ref a0), (1, .int a1)] [] h none h' := by
  unfold f_mo_raiseAlarms_L78 at hf
  refine sm_iload_n 1 rfl d_mo_raiseAlarms_78 ?_
  refine sm_iconst (v := (-1)) (by decide) d_mo_raiseAlarms_79 ?_
  refine sm_icmp_eq 115 d_mo_raiseAlarms_80 rfl (fun c22 => ?_) (fun c22 => ?_)
  · have hf := sm_ifT c22 hf
    obtain rfl := sm_ret1 hf
    exact sm_vret d_mo_raiseAlarms_115 rfl
  · have hf := sm_ifF c22 hf
    refine sm_aload_n 0 rfl d_mo_raiseAlarms_83 ?_
    refine sm_getR (n := 3) fl_mo_16 e0 rfl d_mo_raiseAlarms_84 ?_
    refine sm_bipush (v := 7) (by decide) d_mo_raiseAlarms_87 ?_
    obtain ⟨c23, hf⟩ := sm_gdE hf
    refine sm_iald (sm_at_arr (sm_inner e0 2 rfl rfl rfl)) c23 d_mo_raiseAlarms_89 ?_
    refine sm_iconst (v := (-1)) (by decide) d_mo_raiseAlarms_90 ?_
    refine sm_icmp_ne 115 d_mo_raiseAlarms_91 rfl (fun c24 => ?_) (fun c24 => ?_)
    · have hf := sm_ifF c24 hf
      obtain rfl := sm_ret1 hf
      exact sm_vret d_mo_raiseAlarms_115 rfl
    · have hf := sm_ifT c24 hf
      refine sm_aload_n 0 rfl d_mo_raiseAlarms_94 ?_
      refine sm_getR (n := 3) fl_mo_16 e0 rfl d_mo_raiseAlarms_95 ?_
      refine sm_bipush (v := 7) (by decide) d_mo_raiseAlarms_98 ?_
      refine sm_iload_n 1 rfl d_mo_raiseAlarms_100 ?_
      obtain ⟨c25, hf⟩ := sm_gdE hf
      refine sm_iast (sm_at_arr (sm_inner e0 2 rfl rfl rfl)) c25 d_mo_raiseAlarms_101 ?_
      refine sm_nmH (fun g26 w27 => ?_)
      have hf := sm_letV w27 hf
      refine sm_aload_n 0 rfl d_mo_raiseAlarms_102 ?_
      refine sm_getR (n := 3) fl_mo_16 e0 rfl d_mo_raiseAlarms_103 ?_
      refine sm_bipush (v := 8) (by decide) d_mo_raiseAlarms_106 ?_
      refine sm_aload_n 0 rfl d_mo_raiseAlarms_108 ?_
      refine sm_getR (n := 3) fl_mo_16 e0 rfl d_mo_raiseAlarms_109 ?_
      refine sm_iconst (v := 0) (by decide) d_mo_raiseAlarms_112 ?_
      obtain ⟨c28, hf⟩ := sm_gdE hf
      refine sm_iald (sm_at_arr (sm_inner e0 2 rfl rfl rfl)) c28 d_mo_raiseAlarms_113 ?_
      obtain ⟨c29, hf⟩ := sm_gdE hf
      refine sm_iast (sm_at_arr (sm_inner e0 2 rfl rfl rfl)) c29 d_mo_raiseAlarms_114 ?_
      refine sm_nmH (fun g30 w31 => ?_)
      have hf := sm_letV w31 hf
      obtain rfl := sm_ret1 hf
      exact sm_vret d_mo_raiseAlarms_115 rfl
theorem w_mo_raiseAlarms_L72 (l : Launch) (lo hi d : Nat) {k4 : Nat → Int32 → Int32 → sm_H → Option sm_H} {h' : sm_H} (hk4 : ∀ (a0 : Nat) (a1 : Int32) (a2 : Int32) (h : sm_H) (_ : sm_at lo hi (0, 10, 0) a0) , k4 a0 a1 a2 h = some h' → sm_W l lo hi (d + 1) q_mo_raiseAlarms 4 [(0, .ref a0), (1, .int a1), (2, .int a2)] [] h none h') (a0 : Nat) (a1 : Int32) (a2 : Int32) (h : sm_H) (e0 : sm_at lo hi (0, 10, 0) a0) (hf : f_mo_raiseAlarms_L72 k4 a0 a1 a2 h = some h') : sm_W l lo hi (d + 1) q_mo_raiseAlarms 72 [(0, .ref a0), (1, .int a1), (2, .int a2)] [] h none h' := by
  unfold f_mo_raiseAlarms_L72 at hf
  obtain ⟨x20, w21⟩ : ∃ v : Int32, v = a2 + 1 := ⟨_, rfl⟩
  have hf := sm_letV w21 hf
  refine sm_iinc (v := x20) (lv' := [(2, .int x20), (0, .ref a0), (1, .int a1)]) 2 rfl (by rw [w21]; rfl) d_mo_raiseAlarms_72 rfl rfl ?_
  refine sm_goto 4 d_mo_raiseAlarms_75 rfl ?_
  refine sm_sub [1, 2, 0] rfl ?_
  exact hk4 _ _ _ _ e0 hf
theorem w_mo_raiseAlarms_L71 (l : Launch) (lo hi d : Nat) {k4 : Nat → Int32 → Int32 → sm_H → Option sm_H} {h' : sm_H} (hk4 : ∀ (a0 : Nat) (a1 : Int32) (a2 : Int32) (h : sm_H) (_ : sm_at lo hi (0, 10, 0) a0) , k4 a0 a1 a2 h = some h' → sm_W l lo hi (d + 1) q_mo_raiseAlarms 4 [(0, .ref a0), (1, .int a1), (2, .int a2)] [] h none h') (a0 : Nat) (a2 : Int32) (s0 : Int32) (h : sm_H) (e0 : sm_at lo hi (0, 10, 0) a0) (hf : f_mo_raiseAlarms_L71 k4 a0 a2 s0 h = some h') : sm_W l lo hi (d + 1) q_mo_raiseAlarms 71 [(0, .ref a0), (2, .int a2)] [.int s0] h none h' := by
  unfold f_mo_raiseAlarms_L71 at hf
  refine sm_istore_n (lv' := [(1, .int s0), (0, .ref a0), (2, .int a2)]) d_mo_raiseAlarms_71 rfl rfl ?_
  refine sm_sub [1, 0, 2] rfl ?_
  exact w_mo_raiseAlarms_L72 l lo hi d hk4 _ _ _ _ e0 hf
theorem w_mo_raiseAlarms_L4 (l : Launch) (lo hi d : Nat) {h' : sm_H} : ∀ (n : Nat) (a0 : Nat) (a1 : Int32) (a2 : Int32) (h : sm_H) (e0 : sm_at lo hi (0, 10, 0) a0) (hf : f_mo_raiseAlarms_L4 n a0 a1 a2 h = some h'), sm_W l lo hi (d + 1) q_mo_raiseAlarms 4 [(0, .ref a0), (1, .int a1), (2, .int a2)] [] h none h' := by
  intro n
  induction n with
  | zero =>
    intro a0 a1 a2 h e0 hf
    have z : (none : Option sm_H) = some _ := hf
    cases z
  | succ n ih =>
    intro a0 a1 a2 h e0 hf
    unfold f_mo_raiseAlarms_L4 at hf
    refine sm_iload_n 2 rfl d_mo_raiseAlarms_4 ?_
    refine sm_aload_n 0 rfl d_mo_raiseAlarms_5 ?_
    refine sm_getR (n := 1) fl_mo_7 e0 rfl d_mo_raiseAlarms_6 ?_
    refine sm_iconst (v := 0) (by decide) d_mo_raiseAlarms_9 ?_
    obtain ⟨c1, hf⟩ := sm_gdE hf
    refine sm_iald (sm_at_arr (sm_inner e0 0 rfl rfl rfl)) c1 d_mo_raiseAlarms_10 ?_
    refine sm_icmp_ge 78 d_mo_raiseAlarms_11 rfl (fun c2 => ?_) (fun c2 => ?_)
    · have hf := sm_ifT c2 hf
      refine sm_sub [0, 1] rfl ?_
      exact w_mo_raiseAlarms_L78 l lo hi d _ _ _ e0 hf
    · have hf := sm_ifF c2 hf
      refine sm_aload_n 0 rfl d_mo_raiseAlarms_14 ?_
      refine sm_iload_n 2 rfl d_mo_raiseAlarms_15 ?_
      refine sm_iconst (v := 0) (by decide) d_mo_raiseAlarms_16 ?_
      obtain ⟨r3, g4, c5, hf⟩ := sm_b2E hf
      refine sm_callV (As := [.int a2, .int 0]) (rv := some (.int r3)) (h1 := g4) (c := 10) cvv_mo_314 rfl rfl e0 (m_mo_zoneIs l lo hi _ e0 c5) rfl rfl d_mo_raiseAlarms_17 ?_
      refine sm_bipush (v := 100) (by decide) d_mo_raiseAlarms_20 ?_
      refine sm_icmp_lt 72 d_mo_raiseAlarms_22 rfl (fun c6 => ?_) (fun c6 => ?_)
      · have hf := sm_ifT c6 hf
        exact w_mo_raiseAlarms_L72 l lo hi d ih _ _ _ _ e0 hf
      · have hf := sm_ifF c6 hf
        refine sm_aload_n 0 rfl d_mo_raiseAlarms_25 ?_
        refine sm_iload_n 2 rfl d_mo_raiseAlarms_26 ?_
        refine sm_iconst (v := 2) (by decide) d_mo_raiseAlarms_27 ?_
        obtain ⟨r7, g8, c9, hf⟩ := sm_b2E hf
        refine sm_callV (As := [.int a2, .int 2]) (rv := some (.int r7)) (h1 := g8) (c := 10) cvv_mo_314 rfl rfl e0 (m_mo_zoneIs l lo hi _ e0 c9) rfl rfl d_mo_raiseAlarms_28 ?_
        refine sm_iconst (v := 1) (by decide) d_mo_raiseAlarms_31 ?_
        refine sm_icmp_eq 72 d_mo_raiseAlarms_32 rfl (fun c10 => ?_) (fun c10 => ?_)
        · have hf := sm_ifT c10 hf
          exact w_mo_raiseAlarms_L72 l lo hi d ih _ _ _ _ e0 hf
        · have hf := sm_ifF c10 hf
          refine sm_aload_n 0 rfl d_mo_raiseAlarms_35 ?_
          refine sm_iload_n 2 rfl d_mo_raiseAlarms_36 ?_
          refine sm_iconst (v := 3) (by decide) d_mo_raiseAlarms_37 ?_
          obtain ⟨r11, g12, c13, hf⟩ := sm_b2E hf
          refine sm_callV (As := [.int a2, .int 3]) (rv := some (.int r11)) (h1 := g12) (c := 10) cvv_mo_314 rfl rfl e0 (m_mo_zoneIs l lo hi _ e0 c13) rfl rfl d_mo_raiseAlarms_38 ?_
          refine sm_iconst (v := 1) (by decide) d_mo_raiseAlarms_41 ?_
          refine sm_icmp_ne 48 d_mo_raiseAlarms_42 rfl (fun c14 => ?_) (fun c14 => ?_)
          · have hf := sm_ifF c14 hf
            refine sm_aload_n 0 rfl d_mo_raiseAlarms_48 ?_
            refine sm_iload_n 2 rfl d_mo_raiseAlarms_49 ?_
            refine sm_iconst (v := 2) (by decide) d_mo_raiseAlarms_50 ?_
            refine sm_iconst (v := 1) (by decide) d_mo_raiseAlarms_51 ?_
            obtain ⟨g15, c16, hf⟩ := sm_bindE hf
            refine sm_callV (As := [.int a2, .int 2, .int 1]) (rv := none) (h1 := g15) (c := 10) cvv_mo_400 rfl rfl e0 (m_mo_putZone l lo hi _ e0 c16) rfl rfl d_mo_raiseAlarms_52 ?_
            refine sm_aload_n 0 rfl d_mo_raiseAlarms_55 ?_
            refine sm_iconst (v := 0) (by decide) d_mo_raiseAlarms_56 ?_
            refine sm_iload_n 2 rfl d_mo_raiseAlarms_57 ?_
            obtain ⟨g17, c18, hf⟩ := sm_bindE hf
            refine sm_callV (As := [.int 0, .int a2]) (rv := none) (h1 := g17) (c := 10) cvv_mo_364 rfl rfl e0 (m_mo_record l lo hi _ e0 c18) rfl rfl d_mo_raiseAlarms_58 ?_
            refine sm_iload_n 1 rfl d_mo_raiseAlarms_61 ?_
            refine sm_iconst (v := (-1)) (by decide) d_mo_raiseAlarms_62 ?_
            refine sm_icmp_ne 70 d_mo_raiseAlarms_63 rfl (fun c19 => ?_) (fun c19 => ?_)
            · have hf := sm_ifF c19 hf
              refine sm_iload_n 1 rfl d_mo_raiseAlarms_70 ?_
              refine sm_sub [0, 2] rfl ?_
              exact w_mo_raiseAlarms_L71 l lo hi d ih _ _ _ _ e0 hf
            · have hf := sm_ifT c19 hf
              refine sm_iload_n 2 rfl d_mo_raiseAlarms_66 ?_
              refine sm_goto 71 d_mo_raiseAlarms_67 rfl ?_
              refine sm_sub [0, 2] rfl ?_
              exact w_mo_raiseAlarms_L71 l lo hi d ih _ _ _ _ e0 hf
          · have hf := sm_ifT c14 hf
            refine sm_goto 72 d_mo_raiseAlarms_45 rfl ?_
            exact w_mo_raiseAlarms_L72 l lo hi d ih _ _ _ _ e0 hf
theorem m_mo_raiseAlarms (l : Launch) (lo hi d : Nat) {a0 : Nat} {h h' : sm_H} (e0 : sm_at lo hi (0, 10, 0) a0) (hf : f_mo_raiseAlarms a0 h = some h') : sm_Met l lo hi (d + 1) q_mo_raiseAlarms [.ref a0] h none h' := by
  refine sm_Met.of (by decide +kernel) rfl ?_
  show sm_W l lo hi (d + 1) q_mo_raiseAlarms 0 [(0, .ref a0)] [] h none h'
  unfold f_mo_raiseAlarms at hf
  refine sm_iconst (v := (-1)) (by decide) d_mo_raiseAlarms_0 ?_
  refine sm_istore_n (lv' := [(1, .int (-1)), (0, .ref a0)]) d_mo_raiseAlarms_1 rfl rfl ?_
  refine sm_iconst (v := 0) (by decide) d_mo_raiseAlarms_2 ?_
  refine sm_istore_n (lv' := [(2, .int 0), (1, .int (-1)), (0, .ref a0)]) d_mo_raiseAlarms_3 rfl rfl ?_
  refine sm_sub [2, 1, 0] rfl ?_
  exact w_mo_raiseAlarms_L4 l lo hi d sm_N _ _ _ _ e0 hf
theorem d_mo_pass_0 : decode q_mo_pass.2.1 0 = .ok (.aload_n 0, 1) := by decide +kernel
theorem d_mo_pass_1 : decode q_mo_pass.2.1 1 = .ok (.invokevirtual 406, 3) := by decide +kernel
theorem d_mo_pass_4 : decode q_mo_pass.2.1 4 = .ok (.aload_n 0, 1) := by decide +kernel
theorem d_mo_pass_5 : decode q_mo_pass.2.1 5 = .ok (.getfield 16, 3) := by decide +kernel
theorem d_mo_pass_8 : decode q_mo_pass.2.1 8 = .ok (.iconst 0, 1) := by decide +kernel
theorem d_mo_pass_9 : decode q_mo_pass.2.1 9 = .ok (.aload_n 0, 1) := by decide +kernel
theorem d_mo_pass_10 : decode q_mo_pass.2.1 10 = .ok (.getfield 16, 3) := by decide +kernel
theorem d_mo_pass_13 : decode q_mo_pass.2.1 13 = .ok (.iconst 0, 1) := by decide +kernel
theorem d_mo_pass_14 : decode q_mo_pass.2.1 14 = .ok (.iaload, 1) := by decide +kernel
theorem d_mo_pass_15 : decode q_mo_pass.2.1 15 = .ok (.iconst 1, 1) := by decide +kernel
theorem d_mo_pass_16 : decode q_mo_pass.2.1 16 = .ok (.iadd, 1) := by decide +kernel
theorem d_mo_pass_17 : decode q_mo_pass.2.1 17 = .ok (.iastore, 1) := by decide +kernel
theorem d_mo_pass_18 : decode q_mo_pass.2.1 18 = .ok (.iconst 0, 1) := by decide +kernel
theorem d_mo_pass_19 : decode q_mo_pass.2.1 19 = .ok (.istore_n 1, 1) := by decide +kernel
theorem d_mo_pass_20 : decode q_mo_pass.2.1 20 = .ok (.iload_n 1, 1) := by decide +kernel
theorem d_mo_pass_21 : decode q_mo_pass.2.1 21 = .ok (.aload_n 0, 1) := by decide +kernel
theorem d_mo_pass_22 : decode q_mo_pass.2.1 22 = .ok (.getfield 7, 3) := by decide +kernel
theorem d_mo_pass_25 : decode q_mo_pass.2.1 25 = .ok (.iconst 1, 1) := by decide +kernel
theorem d_mo_pass_26 : decode q_mo_pass.2.1 26 = .ok (.iaload, 1) := by decide +kernel
theorem d_mo_pass_27 : decode q_mo_pass.2.1 27 = .ok (.if_icmp .ge 14, 3) := by decide +kernel
theorem d_mo_pass_30 : decode q_mo_pass.2.1 30 = .ok (.aload_n 0, 1) := by decide +kernel
theorem d_mo_pass_31 : decode q_mo_pass.2.1 31 = .ok (.iload_n 1, 1) := by decide +kernel
theorem d_mo_pass_32 : decode q_mo_pass.2.1 32 = .ok (.invokevirtual 409, 3) := by decide +kernel
theorem d_mo_pass_35 : decode q_mo_pass.2.1 35 = .ok (.iinc 1 1, 3) := by decide +kernel
theorem d_mo_pass_38 : decode q_mo_pass.2.1 38 = .ok (.goto (-18), 3) := by decide +kernel
theorem d_mo_pass_41 : decode q_mo_pass.2.1 41 = .ok (.iconst 0, 1) := by decide +kernel
theorem d_mo_pass_42 : decode q_mo_pass.2.1 42 = .ok (.istore_n 1, 1) := by decide +kernel
theorem d_mo_pass_43 : decode q_mo_pass.2.1 43 = .ok (.iload_n 1, 1) := by decide +kernel
theorem d_mo_pass_44 : decode q_mo_pass.2.1 44 = .ok (.aload_n 0, 1) := by decide +kernel
theorem d_mo_pass_45 : decode q_mo_pass.2.1 45 = .ok (.getfield 7, 3) := by decide +kernel
theorem d_mo_pass_48 : decode q_mo_pass.2.1 48 = .ok (.iconst 2, 1) := by decide +kernel
theorem d_mo_pass_49 : decode q_mo_pass.2.1 49 = .ok (.iaload, 1) := by decide +kernel
theorem d_mo_pass_50 : decode q_mo_pass.2.1 50 = .ok (.if_icmp .ge 14, 3) := by decide +kernel
theorem d_mo_pass_53 : decode q_mo_pass.2.1 53 = .ok (.aload_n 0, 1) := by decide +kernel
theorem d_mo_pass_54 : decode q_mo_pass.2.1 54 = .ok (.iload_n 1, 1) := by decide +kernel
theorem d_mo_pass_55 : decode q_mo_pass.2.1 55 = .ok (.invokevirtual 412, 3) := by decide +kernel
theorem d_mo_pass_58 : decode q_mo_pass.2.1 58 = .ok (.iinc 1 1, 3) := by decide +kernel
theorem d_mo_pass_61 : decode q_mo_pass.2.1 61 = .ok (.goto (-18), 3) := by decide +kernel
theorem d_mo_pass_64 : decode q_mo_pass.2.1 64 = .ok (.aload_n 0, 1) := by decide +kernel
theorem d_mo_pass_65 : decode q_mo_pass.2.1 65 = .ok (.invokevirtual 415, 3) := by decide +kernel
theorem d_mo_pass_68 : decode q_mo_pass.2.1 68 = .ok (.aload_n 0, 1) := by decide +kernel
theorem d_mo_pass_69 : decode q_mo_pass.2.1 69 = .ok (.invokevirtual 418, 3) := by decide +kernel
theorem d_mo_pass_72 : decode q_mo_pass.2.1 72 = .ok (.aload_n 0, 1) := by decide +kernel
theorem d_mo_pass_73 : decode q_mo_pass.2.1 73 = .ok (.invokevirtual 421, 3) := by decide +kernel
theorem d_mo_pass_76 : decode q_mo_pass.2.1 76 = .ok (.return_, 1) := by decide +kernel
theorem w_mo_pass_L64 (l : Launch) (lo hi d : Nat) {h' : sm_H} (a0 : Nat) (h : sm_H) (e0 : sm_at lo hi (0, 10, 0) a0) (hf : f_mo_pass_L64 a0 h = some h') : sm_W l lo hi (d + 6) q_mo_pass 64 [(0, .ref a0)] [] h none h' := by
  unfold f_mo_pass_L64 at hf
  refine sm_aload_n 0 rfl d_mo_pass_64 ?_
  obtain ⟨g19, c20, hf⟩ := sm_bindE hf
  refine sm_callV (As := []) (rv := none) (h1 := g19) (c := 10) cvv_mo_415 rfl rfl e0 (m_mo_pressStair l lo hi _ e0 c20) rfl rfl d_mo_pass_65 ?_
  refine sm_aload_n 0 rfl d_mo_pass_68 ?_
  obtain ⟨g21, c22, hf⟩ := sm_bindE hf
  refine sm_callV (As := []) (rv := none) (h1 := g21) (c := 10) cvv_mo_418 rfl rfl e0 (m_mo_spreadSmoke l lo hi _ e0 c22) rfl rfl d_mo_pass_69 ?_
  refine sm_aload_n 0 rfl d_mo_pass_72 ?_
  obtain ⟨g23, c24, hf⟩ := sm_bindE hf
  refine sm_callV (As := []) (rv := none) (h1 := g23) (c := 10) cvv_mo_421 rfl rfl e0 (m_mo_raiseAlarms l lo hi _ e0 c24) rfl rfl d_mo_pass_73 ?_
  obtain rfl := sm_ret1 hf
  exact sm_vret d_mo_pass_76 rfl
theorem w_mo_pass_L43 (l : Launch) (lo hi d : Nat) {h' : sm_H} : ∀ (n : Nat) (a0 : Nat) (a1 : Int32) (h : sm_H) (e0 : sm_at lo hi (0, 10, 0) a0) (hf : f_mo_pass_L43 n a0 a1 h = some h'), sm_W l lo hi (d + 6) q_mo_pass 43 [(0, .ref a0), (1, .int a1)] [] h none h' := by
  intro n
  induction n with
  | zero =>
    intro a0 a1 h e0 hf
    have z : (none : Option sm_H) = some _ := hf
    cases z
  | succ n ih =>
    intro a0 a1 h e0 hf
    unfold f_mo_pass_L43 at hf
    refine sm_iload_n 1 rfl d_mo_pass_43 ?_
    refine sm_aload_n 0 rfl d_mo_pass_44 ?_
    refine sm_getR (n := 1) fl_mo_7 e0 rfl d_mo_pass_45 ?_
    refine sm_iconst (v := 2) (by decide) d_mo_pass_48 ?_
    obtain ⟨c13, hf⟩ := sm_gdE hf
    refine sm_iald (sm_at_arr (sm_inner e0 0 rfl rfl rfl)) c13 d_mo_pass_49 ?_
    refine sm_icmp_ge 64 d_mo_pass_50 rfl (fun c14 => ?_) (fun c14 => ?_)
    · have hf := sm_ifT c14 hf
      refine sm_sub [0] rfl ?_
      exact w_mo_pass_L64 l lo hi d _ _ e0 hf
    · have hf := sm_ifF c14 hf
      refine sm_aload_n 0 rfl d_mo_pass_53 ?_
      refine sm_iload_n 1 rfl d_mo_pass_54 ?_
      obtain ⟨g15, c16, hf⟩ := sm_bindE hf
      refine sm_callV (As := [.int a1]) (rv := none) (h1 := g15) (c := 10) cvv_mo_412 rfl rfl e0 (m_mo_moveFan l lo hi _ e0 c16) rfl rfl d_mo_pass_55 ?_
      obtain ⟨x17, w18⟩ : ∃ v : Int32, v = a1 + 1 := ⟨_, rfl⟩
      have hf := sm_letV w18 hf
      refine sm_iinc (v := x17) (lv' := [(1, .int x17), (0, .ref a0)]) 1 rfl (by rw [w18]; rfl) d_mo_pass_58 rfl rfl ?_
      refine sm_goto 43 d_mo_pass_61 rfl ?_
      refine sm_sub [1, 0] rfl ?_
      exact ih _ _ _ e0 hf
theorem w_mo_pass_L41 (l : Launch) (lo hi d : Nat) {h' : sm_H} (a0 : Nat) (h : sm_H) (e0 : sm_at lo hi (0, 10, 0) a0) (hf : f_mo_pass_L41 a0 h = some h') : sm_W l lo hi (d + 6) q_mo_pass 41 [(0, .ref a0)] [] h none h' := by
  unfold f_mo_pass_L41 at hf
  refine sm_iconst (v := 0) (by decide) d_mo_pass_41 ?_
  refine sm_istore_n (lv' := [(1, .int 0), (0, .ref a0)]) d_mo_pass_42 rfl rfl ?_
  refine sm_sub [1, 0] rfl ?_
  exact w_mo_pass_L43 l lo hi d sm_N _ _ _ e0 hf
theorem w_mo_pass_L20 (l : Launch) (lo hi d : Nat) {h' : sm_H} : ∀ (n : Nat) (a0 : Nat) (a1 : Int32) (h : sm_H) (e0 : sm_at lo hi (0, 10, 0) a0) (hf : f_mo_pass_L20 n a0 a1 h = some h'), sm_W l lo hi (d + 6) q_mo_pass 20 [(0, .ref a0), (1, .int a1)] [] h none h' := by
  intro n
  induction n with
  | zero =>
    intro a0 a1 h e0 hf
    have z : (none : Option sm_H) = some _ := hf
    cases z
  | succ n ih =>
    intro a0 a1 h e0 hf
    unfold f_mo_pass_L20 at hf
    refine sm_iload_n 1 rfl d_mo_pass_20 ?_
    refine sm_aload_n 0 rfl d_mo_pass_21 ?_
    refine sm_getR (n := 1) fl_mo_7 e0 rfl d_mo_pass_22 ?_
    refine sm_iconst (v := 1) (by decide) d_mo_pass_25 ?_
    obtain ⟨c7, hf⟩ := sm_gdE hf
    refine sm_iald (sm_at_arr (sm_inner e0 0 rfl rfl rfl)) c7 d_mo_pass_26 ?_
    refine sm_icmp_ge 41 d_mo_pass_27 rfl (fun c8 => ?_) (fun c8 => ?_)
    · have hf := sm_ifT c8 hf
      refine sm_sub [0] rfl ?_
      exact w_mo_pass_L41 l lo hi d _ _ e0 hf
    · have hf := sm_ifF c8 hf
      refine sm_aload_n 0 rfl d_mo_pass_30 ?_
      refine sm_iload_n 1 rfl d_mo_pass_31 ?_
      obtain ⟨g9, c10, hf⟩ := sm_bindE hf
      refine sm_callV (As := [.int a1]) (rv := none) (h1 := g9) (c := 10) cvv_mo_409 rfl rfl e0 (m_mo_moveDamper l lo hi _ e0 c10) rfl rfl d_mo_pass_32 ?_
      obtain ⟨x11, w12⟩ : ∃ v : Int32, v = a1 + 1 := ⟨_, rfl⟩
      have hf := sm_letV w12 hf
      refine sm_iinc (v := x11) (lv' := [(1, .int x11), (0, .ref a0)]) 1 rfl (by rw [w12]; rfl) d_mo_pass_35 rfl rfl ?_
      refine sm_goto 20 d_mo_pass_38 rfl ?_
      refine sm_sub [1, 0] rfl ?_
      exact ih _ _ _ e0 hf
theorem m_mo_pass (l : Launch) (lo hi d : Nat) {a0 : Nat} {h h' : sm_H} (e0 : sm_at lo hi (0, 10, 0) a0) (hf : f_mo_pass a0 h = some h') : sm_Met l lo hi (d + 6) q_mo_pass [.ref a0] h none h' := by
  refine sm_Met.of (by decide +kernel) rfl ?_
  show sm_W l lo hi (d + 6) q_mo_pass 0 [(0, .ref a0)] [] h none h'
  unfold f_mo_pass at hf
  refine sm_aload_n 0 rfl d_mo_pass_0 ?_
  obtain ⟨g1, c2, hf⟩ := sm_bindE hf
  refine sm_callV (As := []) (rv := none) (h1 := g1) (c := 10) cvv_mo_406 rfl rfl e0 (m_mo_decide l lo hi _ e0 c2) rfl rfl d_mo_pass_1 ?_
  refine sm_aload_n 0 rfl d_mo_pass_4 ?_
  refine sm_getR (n := 3) fl_mo_16 e0 rfl d_mo_pass_5 ?_
  refine sm_iconst (v := 0) (by decide) d_mo_pass_8 ?_
  refine sm_aload_n 0 rfl d_mo_pass_9 ?_
  refine sm_getR (n := 3) fl_mo_16 e0 rfl d_mo_pass_10 ?_
  refine sm_iconst (v := 0) (by decide) d_mo_pass_13 ?_
  obtain ⟨c3, hf⟩ := sm_gdE hf
  refine sm_iald (sm_at_arr (sm_inner e0 2 rfl rfl rfl)) c3 d_mo_pass_14 ?_
  refine sm_iconst (v := 1) (by decide) d_mo_pass_15 ?_
  refine sm_iadd d_mo_pass_16 ?_
  obtain ⟨c4, hf⟩ := sm_gdE hf
  refine sm_iast (sm_at_arr (sm_inner e0 2 rfl rfl rfl)) c4 d_mo_pass_17 ?_
  refine sm_nmH (fun g5 w6 => ?_)
  have hf := sm_letV w6 hf
  refine sm_iconst (v := 0) (by decide) d_mo_pass_18 ?_
  refine sm_istore_n (lv' := [(1, .int 0), (0, .ref a0)]) d_mo_pass_19 rfl rfl ?_
  refine sm_sub [1, 0] rfl ?_
  exact w_mo_pass_L20 l lo hi d sm_N _ _ _ e0 hf
theorem d_mo_passTicks_0 : decode q_mo_passTicks.2.1 0 = .ok (.iconst 0, 1) := by decide +kernel
theorem d_mo_passTicks_1 : decode q_mo_passTicks.2.1 1 = .ok (.istore_n 2, 1) := by decide +kernel
theorem d_mo_passTicks_2 : decode q_mo_passTicks.2.1 2 = .ok (.iload_n 2, 1) := by decide +kernel
theorem d_mo_passTicks_3 : decode q_mo_passTicks.2.1 3 = .ok (.iload_n 1, 1) := by decide +kernel
theorem d_mo_passTicks_4 : decode q_mo_passTicks.2.1 4 = .ok (.if_icmp .ge 26, 3) := by decide +kernel
theorem d_mo_passTicks_7 : decode q_mo_passTicks.2.1 7 = .ok (.aload_n 0, 1) := by decide +kernel
theorem d_mo_passTicks_8 : decode q_mo_passTicks.2.1 8 = .ok (.getfield 16, 3) := by decide +kernel
theorem d_mo_passTicks_11 : decode q_mo_passTicks.2.1 11 = .ok (.iconst 0, 1) := by decide +kernel
theorem d_mo_passTicks_12 : decode q_mo_passTicks.2.1 12 = .ok (.iaload, 1) := by decide +kernel
theorem d_mo_passTicks_13 : decode q_mo_passTicks.2.1 13 = .ok (.sipush 9999, 3) := by decide +kernel
theorem d_mo_passTicks_16 : decode q_mo_passTicks.2.1 16 = .ok (.if_icmp .ge 14, 3) := by decide +kernel
theorem d_mo_passTicks_19 : decode q_mo_passTicks.2.1 19 = .ok (.aload_n 0, 1) := by decide +kernel
theorem d_mo_passTicks_20 : decode q_mo_passTicks.2.1 20 = .ok (.invokevirtual 424, 3) := by decide +kernel
theorem d_mo_passTicks_23 : decode q_mo_passTicks.2.1 23 = .ok (.iload_n 2, 1) := by decide +kernel
theorem d_mo_passTicks_24 : decode q_mo_passTicks.2.1 24 = .ok (.iconst 1, 1) := by decide +kernel
theorem d_mo_passTicks_25 : decode q_mo_passTicks.2.1 25 = .ok (.iadd, 1) := by decide +kernel
theorem d_mo_passTicks_26 : decode q_mo_passTicks.2.1 26 = .ok (.istore_n 2, 1) := by decide +kernel
theorem d_mo_passTicks_27 : decode q_mo_passTicks.2.1 27 = .ok (.goto (-25), 3) := by decide +kernel
theorem d_mo_passTicks_30 : decode q_mo_passTicks.2.1 30 = .ok (.iload_n 2, 1) := by decide +kernel
theorem d_mo_passTicks_31 : decode q_mo_passTicks.2.1 31 = .ok (.ireturn, 1) := by decide +kernel
theorem w_mo_passTicks_L30 (l : Launch) (lo hi d : Nat) {h' : sm_H} {r0 : Int32} (a2 : Int32) (h : sm_H) (hf : f_mo_passTicks_L30 a2 h = some (r0, h')) : sm_W l lo hi (d + 7) q_mo_passTicks 30 [(2, .int a2)] [] h (some (.int r0)) h' := by
  unfold f_mo_passTicks_L30 at hf
  refine sm_iload_n 0 rfl d_mo_passTicks_30 ?_
  obtain ⟨rfl, rfl⟩ := sm_ret2 hf
  exact sm_iret d_mo_passTicks_31 rfl
theorem w_mo_passTicks_L2 (l : Launch) (lo hi d : Nat) {h' : sm_H} {r0 : Int32} : ∀ (n : Nat) (a0 : Nat) (a1 : Int32) (a2 : Int32) (h : sm_H) (e0 : sm_at lo hi (0, 10, 0) a0) (hf : f_mo_passTicks_L2 n a0 a1 a2 h = some (r0, h')), sm_W l lo hi (d + 7) q_mo_passTicks 2 [(0, .ref a0), (1, .int a1), (2, .int a2)] [] h (some (.int r0)) h' := by
  intro n
  induction n with
  | zero =>
    intro a0 a1 a2 h e0 hf
    have z : (none : Option (Int32 × sm_H)) = some _ := hf
    cases z
  | succ n ih =>
    intro a0 a1 a2 h e0 hf
    unfold f_mo_passTicks_L2 at hf
    refine sm_iload_n 2 rfl d_mo_passTicks_2 ?_
    refine sm_iload_n 1 rfl d_mo_passTicks_3 ?_
    refine sm_icmp_ge 30 d_mo_passTicks_4 rfl (fun c1 => ?_) (fun c1 => ?_)
    · have hf := sm_ifT c1 hf
      refine sm_sub [2] rfl ?_
      exact w_mo_passTicks_L30 l lo hi d _ _ hf
    · have hf := sm_ifF c1 hf
      refine sm_aload_n 0 rfl d_mo_passTicks_7 ?_
      refine sm_getR (n := 3) fl_mo_16 e0 rfl d_mo_passTicks_8 ?_
      refine sm_iconst (v := 0) (by decide) d_mo_passTicks_11 ?_
      obtain ⟨c2, hf⟩ := sm_gdE hf
      refine sm_iald (sm_at_arr (sm_inner e0 2 rfl rfl rfl)) c2 d_mo_passTicks_12 ?_
      refine sm_sipush (v := 9999) (by decide) d_mo_passTicks_13 ?_
      refine sm_icmp_ge 30 d_mo_passTicks_16 rfl (fun c3 => ?_) (fun c3 => ?_)
      · have hf := sm_ifT c3 hf
        refine sm_sub [2] rfl ?_
        exact w_mo_passTicks_L30 l lo hi d _ _ hf
      · have hf := sm_ifF c3 hf
        refine sm_aload_n 0 rfl d_mo_passTicks_19 ?_
        obtain ⟨g4, c5, hf⟩ := sm_bindE hf
        refine sm_callV (As := []) (rv := none) (h1 := g4) (c := 10) cvv_mo_424 rfl rfl e0 (m_mo_pass l lo hi _ e0 c5) rfl rfl d_mo_passTicks_20 ?_
        refine sm_iload_n 2 rfl d_mo_passTicks_23 ?_
        refine sm_iconst (v := 1) (by decide) d_mo_passTicks_24 ?_
        refine sm_iadd d_mo_passTicks_25 ?_
        refine sm_nmI (fun x6 w7 => ?_)
        have hf := sm_letV w7 hf
        refine sm_istore_n (lv' := [(2, .int x6), (0, .ref a0), (1, .int a1)]) d_mo_passTicks_26 rfl rfl ?_
        refine sm_goto 2 d_mo_passTicks_27 rfl ?_
        refine sm_sub [1, 2, 0] rfl ?_
        exact ih _ _ _ _ e0 hf
theorem m_mo_passTicks (l : Launch) (lo hi d : Nat) {a0 : Nat} {a1 : Int32} {r0 : Int32} {h h' : sm_H} (e0 : sm_at lo hi (0, 10, 0) a0) (hf : f_mo_passTicks a0 a1 h = some (r0, h')) : sm_Met l lo hi (d + 7) q_mo_passTicks [.ref a0, .int a1] h (some (.int r0)) h' := by
  refine sm_Met.of (by decide +kernel) rfl ?_
  show sm_W l lo hi (d + 7) q_mo_passTicks 0 [(0, .ref a0), (1, .int a1)] [] h (some (.int r0)) h'
  unfold f_mo_passTicks at hf
  refine sm_iconst (v := 0) (by decide) d_mo_passTicks_0 ?_
  refine sm_istore_n (lv' := [(2, .int 0), (0, .ref a0), (1, .int a1)]) d_mo_passTicks_1 rfl rfl ?_
  refine sm_sub [1, 2, 0] rfl ?_
  exact w_mo_passTicks_L2 l lo hi d sm_N _ _ _ _ e0 hf
theorem d_mo_tick_0 : decode q_mo_tick.2.1 0 = .ok (.iload_n 1, 1) := by decide +kernel
theorem d_mo_tick_1 : decode q_mo_tick.2.1 1 = .ok (.iconst 1, 1) := by decide +kernel
theorem d_mo_tick_2 : decode q_mo_tick.2.1 2 = .ok (.sipush 200, 3) := by decide +kernel
theorem d_mo_tick_5 : decode q_mo_tick.2.1 5 = .ok (.invokestatic 91, 3) := by decide +kernel
theorem d_mo_tick_8 : decode q_mo_tick.2.1 8 = .ok (.ifCond .eq 11, 3) := by decide +kernel
theorem d_mo_tick_11 : decode q_mo_tick.2.1 11 = .ok (.aload_n 0, 1) := by decide +kernel
theorem d_mo_tick_12 : decode q_mo_tick.2.1 12 = .ok (.iload_n 1, 1) := by decide +kernel
theorem d_mo_tick_13 : decode q_mo_tick.2.1 13 = .ok (.invokevirtual 427, 3) := by decide +kernel
theorem d_mo_tick_16 : decode q_mo_tick.2.1 16 = .ok (.goto 5, 3) := by decide +kernel
theorem d_mo_tick_19 : decode q_mo_tick.2.1 19 = .ok (.bipush (-2), 2) := by decide +kernel
theorem d_mo_tick_21 : decode q_mo_tick.2.1 21 = .ok (.ireturn, 1) := by decide +kernel
theorem w_mo_tick_L21 (l : Launch) (lo hi d : Nat) {h' : sm_H} {r0 : Int32} (s0 : Int32) (h : sm_H) (hf : f_mo_tick_L21 s0 h = some (r0, h')) : sm_W l lo hi (d + 8) q_mo_tick 21 [] [.int s0] h (some (.int r0)) h' := by
  unfold f_mo_tick_L21 at hf
  obtain ⟨rfl, rfl⟩ := sm_ret2 hf
  exact sm_iret d_mo_tick_21 rfl
theorem m_mo_tick (l : Launch) (lo hi d : Nat) {a0 : Nat} {a1 : Int32} {r0 : Int32} {h h' : sm_H} (e0 : sm_at lo hi (0, 10, 0) a0) (hf : f_mo_tick a0 a1 h = some (r0, h')) : sm_Met l lo hi (d + 8) q_mo_tick [.ref a0, .int a1] h (some (.int r0)) h' := by
  refine sm_Met.of (by decide +kernel) rfl ?_
  show sm_W l lo hi (d + 8) q_mo_tick 0 [(0, .ref a0), (1, .int a1)] [] h (some (.int r0)) h'
  unfold f_mo_tick at hf
  refine sm_iload_n 1 rfl d_mo_tick_0 ?_
  refine sm_iconst (v := 1) (by decide) d_mo_tick_1 ?_
  refine sm_sipush (v := 200) (by decide) d_mo_tick_2 ?_
  obtain ⟨r1, g2, c3, hf⟩ := sm_b2E hf
  refine sm_callS (As := [.int a1, .int 1, .int 200]) (rv := some (.int r1)) (h1 := g2) cvs_mo_91 (m_mo_in l lo hi _ c3) rfl rfl d_mo_tick_5 ?_
  refine sm_if_eq 19 d_mo_tick_8 rfl (fun c4 => ?_) (fun c4 => ?_)
  · have hf := sm_ifT c4 hf
    refine sm_bipush (v := (-2)) (by decide) d_mo_tick_19 ?_
    refine sm_sub [] rfl ?_
    exact w_mo_tick_L21 l lo hi d _ _ hf
  · have hf := sm_ifF c4 hf
    refine sm_aload_n 0 rfl d_mo_tick_11 ?_
    refine sm_iload_n 1 rfl d_mo_tick_12 ?_
    obtain ⟨r5, g6, c7, hf⟩ := sm_b2E hf
    refine sm_callV (As := [.int a1]) (rv := some (.int r5)) (h1 := g6) (c := 10) cvv_mo_427 rfl rfl e0 (m_mo_passTicks l lo hi _ e0 c7) rfl rfl d_mo_tick_13 ?_
    refine sm_goto 21 d_mo_tick_16 rfl ?_
    refine sm_sub [] rfl ?_
    exact w_mo_tick_L21 l lo hi d _ _ hf
theorem d_mo_setSource_0 : decode q_mo_setSource.2.1 0 = .ok (.aload_n 0, 1) := by decide +kernel
theorem d_mo_setSource_1 : decode q_mo_setSource.2.1 1 = .ok (.iload_n 1, 1) := by decide +kernel
theorem d_mo_setSource_2 : decode q_mo_setSource.2.1 2 = .ok (.invokevirtual 430, 3) := by decide +kernel
theorem d_mo_setSource_5 : decode q_mo_setSource.2.1 5 = .ok (.ifCond .ne 5, 3) := by decide +kernel
theorem d_mo_setSource_8 : decode q_mo_setSource.2.1 8 = .ok (.iconst (-1), 1) := by decide +kernel
theorem d_mo_setSource_9 : decode q_mo_setSource.2.1 9 = .ok (.ireturn, 1) := by decide +kernel
theorem d_mo_setSource_10 : decode q_mo_setSource.2.1 10 = .ok (.iload_n 2, 1) := by decide +kernel
theorem d_mo_setSource_11 : decode q_mo_setSource.2.1 11 = .ok (.iconst 0, 1) := by decide +kernel
theorem d_mo_setSource_12 : decode q_mo_setSource.2.1 12 = .ok (.bipush 50, 2) := by decide +kernel
theorem d_mo_setSource_14 : decode q_mo_setSource.2.1 14 = .ok (.invokestatic 91, 3) := by decide +kernel
theorem d_mo_setSource_17 : decode q_mo_setSource.2.1 17 = .ok (.ifCond .ne 6, 3) := by decide +kernel
theorem d_mo_setSource_20 : decode q_mo_setSource.2.1 20 = .ok (.bipush (-2), 2) := by decide +kernel
theorem d_mo_setSource_22 : decode q_mo_setSource.2.1 22 = .ok (.ireturn, 1) := by decide +kernel
theorem d_mo_setSource_23 : decode q_mo_setSource.2.1 23 = .ok (.aload_n 0, 1) := by decide +kernel
theorem d_mo_setSource_24 : decode q_mo_setSource.2.1 24 = .ok (.iload_n 1, 1) := by decide +kernel
theorem d_mo_setSource_25 : decode q_mo_setSource.2.1 25 = .ok (.iconst 1, 1) := by decide +kernel
theorem d_mo_setSource_26 : decode q_mo_setSource.2.1 26 = .ok (.invokevirtual 314, 3) := by decide +kernel
theorem d_mo_setSource_29 : decode q_mo_setSource.2.1 29 = .ok (.istore_n 3, 1) := by decide +kernel
theorem d_mo_setSource_30 : decode q_mo_setSource.2.1 30 = .ok (.aload_n 0, 1) := by decide +kernel
theorem d_mo_setSource_31 : decode q_mo_setSource.2.1 31 = .ok (.iload_n 1, 1) := by decide +kernel
theorem d_mo_setSource_32 : decode q_mo_setSource.2.1 32 = .ok (.iconst 1, 1) := by decide +kernel
theorem d_mo_setSource_33 : decode q_mo_setSource.2.1 33 = .ok (.iload_n 2, 1) := by decide +kernel
theorem d_mo_setSource_34 : decode q_mo_setSource.2.1 34 = .ok (.invokevirtual 400, 3) := by decide +kernel
theorem d_mo_setSource_37 : decode q_mo_setSource.2.1 37 = .ok (.iload_n 3, 1) := by decide +kernel
theorem d_mo_setSource_38 : decode q_mo_setSource.2.1 38 = .ok (.ireturn, 1) := by decide +kernel
theorem m_mo_setSource (l : Launch) (lo hi d : Nat) {a0 : Nat} {a1 : Int32} {a2 : Int32} {r0 : Int32} {h h' : sm_H} (e0 : sm_at lo hi (0, 10, 0) a0) (hf : f_mo_setSource a0 a1 a2 h = some (r0, h')) : sm_Met l lo hi (d + 2) q_mo_setSource [.ref a0, .int a1, .int a2] h (some (.int r0)) h' := by
  refine sm_Met.of (by decide +kernel) rfl ?_
  show sm_W l lo hi (d + 2) q_mo_setSource 0 [(0, .ref a0), (1, .int a1), (2, .int a2)] [] h (some (.int r0)) h'
  unfold f_mo_setSource at hf
  refine sm_aload_n 0 rfl d_mo_setSource_0 ?_
  refine sm_iload_n 1 rfl d_mo_setSource_1 ?_
  obtain ⟨r1, g2, c3, hf⟩ := sm_b2E hf
  refine sm_callV (As := [.int a1]) (rv := some (.int r1)) (h1 := g2) (c := 10) cvv_mo_430 rfl rfl e0 (m_mo_isZone l lo hi _ e0 c3) rfl rfl d_mo_setSource_2 ?_
  refine sm_if_ne 10 d_mo_setSource_5 rfl (fun c4 => ?_) (fun c4 => ?_)
  · have hf := sm_ifF c4 hf
    refine sm_iload_n 2 rfl d_mo_setSource_10 ?_
    refine sm_iconst (v := 0) (by decide) d_mo_setSource_11 ?_
    refine sm_bipush (v := 50) (by decide) d_mo_setSource_12 ?_
    obtain ⟨r5, g6, c7, hf⟩ := sm_b2E hf
    refine sm_callS (As := [.int a2, .int 0, .int 50]) (rv := some (.int r5)) (h1 := g6) cvs_mo_91 (m_mo_in l lo hi _ c7) rfl rfl d_mo_setSource_14 ?_
    refine sm_if_ne 23 d_mo_setSource_17 rfl (fun c8 => ?_) (fun c8 => ?_)
    · have hf := sm_ifF c8 hf
      refine sm_aload_n 0 rfl d_mo_setSource_23 ?_
      refine sm_iload_n 1 rfl d_mo_setSource_24 ?_
      refine sm_iconst (v := 1) (by decide) d_mo_setSource_25 ?_
      obtain ⟨r9, g10, c11, hf⟩ := sm_b2E hf
      refine sm_callV (As := [.int a1, .int 1]) (rv := some (.int r9)) (h1 := g10) (c := 10) cvv_mo_314 rfl rfl e0 (m_mo_zoneIs l lo hi _ e0 c11) rfl rfl d_mo_setSource_26 ?_
      refine sm_istore_n (lv' := [(3, .int r9), (0, .ref a0), (1, .int a1), (2, .int a2)]) d_mo_setSource_29 rfl rfl ?_
      refine sm_aload_n 1 rfl d_mo_setSource_30 ?_
      refine sm_iload_n 2 rfl d_mo_setSource_31 ?_
      refine sm_iconst (v := 1) (by decide) d_mo_setSource_32 ?_
      refine sm_iload_n 3 rfl d_mo_setSource_33 ?_
      obtain ⟨g12, c13, hf⟩ := sm_bindE hf
      refine sm_callV (As := [.int a1, .int 1, .int a2]) (rv := none) (h1 := g12) (c := 10) cvv_mo_400 rfl rfl e0 (m_mo_putZone l lo hi _ e0 c13) rfl rfl d_mo_setSource_34 ?_
      refine sm_iload_n 0 rfl d_mo_setSource_37 ?_
      obtain ⟨rfl, rfl⟩ := sm_ret2 hf
      exact sm_iret d_mo_setSource_38 rfl
    · have hf := sm_ifT c8 hf
      refine sm_bipush (v := (-2)) (by decide) d_mo_setSource_20 ?_
      obtain ⟨rfl, rfl⟩ := sm_ret2 hf
      exact sm_iret d_mo_setSource_22 rfl
  · have hf := sm_ifT c4 hf
    refine sm_iconst (v := (-1)) (by decide) d_mo_setSource_8 ?_
    obtain ⟨rfl, rfl⟩ := sm_ret2 hf
    exact sm_iret d_mo_setSource_9 rfl
theorem d_mo_flip_0 : decode q_mo_flip.2.1 0 = .ok (.iload_n 2, 1) := by decide +kernel
theorem d_mo_flip_1 : decode q_mo_flip.2.1 1 = .ok (.ifCond .eq 7, 3) := by decide +kernel
theorem d_mo_flip_4 : decode q_mo_flip.2.1 4 = .ok (.iconst 1, 1) := by decide +kernel
theorem d_mo_flip_5 : decode q_mo_flip.2.1 5 = .ok (.goto 4, 3) := by decide +kernel
theorem d_mo_flip_8 : decode q_mo_flip.2.1 8 = .ok (.iconst 0, 1) := by decide +kernel
theorem d_mo_flip_9 : decode q_mo_flip.2.1 9 = .ok (.istore_n 3, 1) := by decide +kernel
theorem d_mo_flip_10 : decode q_mo_flip.2.1 10 = .ok (.aload_n 0, 1) := by decide +kernel
theorem d_mo_flip_11 : decode q_mo_flip.2.1 11 = .ok (.getfield 16, 3) := by decide +kernel
theorem d_mo_flip_14 : decode q_mo_flip.2.1 14 = .ok (.iload_n 1, 1) := by decide +kernel
theorem d_mo_flip_15 : decode q_mo_flip.2.1 15 = .ok (.iaload, 1) := by decide +kernel
theorem d_mo_flip_16 : decode q_mo_flip.2.1 16 = .ok (.iload_n 3, 1) := by decide +kernel
theorem d_mo_flip_17 : decode q_mo_flip.2.1 17 = .ok (.if_icmp .ne 5, 3) := by decide +kernel
theorem d_mo_flip_20 : decode q_mo_flip.2.1 20 = .ok (.iconst 0, 1) := by decide +kernel
theorem d_mo_flip_21 : decode q_mo_flip.2.1 21 = .ok (.ireturn, 1) := by decide +kernel
theorem d_mo_flip_22 : decode q_mo_flip.2.1 22 = .ok (.aload_n 0, 1) := by decide +kernel
theorem d_mo_flip_23 : decode q_mo_flip.2.1 23 = .ok (.getfield 16, 3) := by decide +kernel
theorem d_mo_flip_26 : decode q_mo_flip.2.1 26 = .ok (.iload_n 1, 1) := by decide +kernel
theorem d_mo_flip_27 : decode q_mo_flip.2.1 27 = .ok (.iload_n 3, 1) := by decide +kernel
theorem d_mo_flip_28 : decode q_mo_flip.2.1 28 = .ok (.iastore, 1) := by decide +kernel
theorem d_mo_flip_29 : decode q_mo_flip.2.1 29 = .ok (.iconst 1, 1) := by decide +kernel
theorem d_mo_flip_30 : decode q_mo_flip.2.1 30 = .ok (.ireturn, 1) := by decide +kernel
theorem w_mo_flip_L9 (l : Launch) (lo hi d : Nat) {h' : sm_H} {r0 : Int32} (a0 : Nat) (a1 : Int32) (s0 : Int32) (h : sm_H) (e0 : sm_at lo hi (0, 10, 0) a0) (hf : f_mo_flip_L9 a0 a1 s0 h = some (r0, h')) : sm_W l lo hi (d) q_mo_flip 9 [(0, .ref a0), (1, .int a1)] [.int s0] h (some (.int r0)) h' := by
  unfold f_mo_flip_L9 at hf
  refine sm_istore_n (lv' := [(3, .int s0), (0, .ref a0), (1, .int a1)]) d_mo_flip_9 rfl rfl ?_
  refine sm_aload_n 1 rfl d_mo_flip_10 ?_
  refine sm_getR (n := 3) fl_mo_16 e0 rfl d_mo_flip_11 ?_
  refine sm_iload_n 2 rfl d_mo_flip_14 ?_
  obtain ⟨c2, hf⟩ := sm_gdE hf
  refine sm_iald (sm_at_arr (sm_inner e0 2 rfl rfl rfl)) c2 d_mo_flip_15 ?_
  refine sm_iload_n 0 rfl d_mo_flip_16 ?_
  refine sm_icmp_ne 22 d_mo_flip_17 rfl (fun c3 => ?_) (fun c3 => ?_)
  · have hf := sm_ifF c3 hf
    refine sm_aload_n 1 rfl d_mo_flip_22 ?_
    refine sm_getR (n := 3) fl_mo_16 e0 rfl d_mo_flip_23 ?_
    refine sm_iload_n 2 rfl d_mo_flip_26 ?_
    refine sm_iload_n 0 rfl d_mo_flip_27 ?_
    obtain ⟨c4, hf⟩ := sm_gdE hf
    refine sm_iast (sm_at_arr (sm_inner e0 2 rfl rfl rfl)) c4 d_mo_flip_28 ?_
    refine sm_nmH (fun g5 w6 => ?_)
    have hf := sm_letV w6 hf
    refine sm_iconst (v := 1) (by decide) d_mo_flip_29 ?_
    obtain ⟨rfl, rfl⟩ := sm_ret2 hf
    exact sm_iret d_mo_flip_30 rfl
  · have hf := sm_ifT c3 hf
    refine sm_iconst (v := 0) (by decide) d_mo_flip_20 ?_
    obtain ⟨rfl, rfl⟩ := sm_ret2 hf
    exact sm_iret d_mo_flip_21 rfl
theorem m_mo_flip (l : Launch) (lo hi d : Nat) {a0 : Nat} {a1 : Int32} {a2 : Int32} {r0 : Int32} {h h' : sm_H} (e0 : sm_at lo hi (0, 10, 0) a0) (hf : f_mo_flip a0 a1 a2 h = some (r0, h')) : sm_Met l lo hi (d) q_mo_flip [.ref a0, .int a1, .int a2] h (some (.int r0)) h' := by
  refine sm_Met.of (by decide +kernel) rfl ?_
  show sm_W l lo hi (d) q_mo_flip 0 [(0, .ref a0), (1, .int a1), (2, .int a2)] [] h (some (.int r0)) h'
  unfold f_mo_flip at hf
  refine sm_iload_n 2 rfl d_mo_flip_0 ?_
  refine sm_if_eq 8 d_mo_flip_1 rfl (fun c1 => ?_) (fun c1 => ?_)
  · have hf := sm_ifT c1 hf
    refine sm_iconst (v := 0) (by decide) d_mo_flip_8 ?_
    refine sm_sub [0, 1] rfl ?_
    exact w_mo_flip_L9 l lo hi d _ _ _ _ e0 hf
  · have hf := sm_ifF c1 hf
    refine sm_iconst (v := 1) (by decide) d_mo_flip_4 ?_
    refine sm_goto 9 d_mo_flip_5 rfl ?_
    refine sm_sub [0, 1] rfl ?_
    exact w_mo_flip_L9 l lo hi d _ _ _ _ e0 hf
theorem d_mo_setDetector_0 : decode q_mo_setDetector.2.1 0 = .ok (.aload_n 0, 1) := by decide +kernel
theorem d_mo_setDetector_1 : decode q_mo_setDetector.2.1 1 = .ok (.iload_n 1, 1) := by decide +kernel
theorem d_mo_setDetector_2 : decode q_mo_setDetector.2.1 2 = .ok (.invokevirtual 430, 3) := by decide +kernel
theorem d_mo_setDetector_5 : decode q_mo_setDetector.2.1 5 = .ok (.ifCond .eq 19, 3) := by decide +kernel
theorem d_mo_setDetector_8 : decode q_mo_setDetector.2.1 8 = .ok (.aload_n 0, 1) := by decide +kernel
theorem d_mo_setDetector_9 : decode q_mo_setDetector.2.1 9 = .ok (.bipush 10, 2) := by decide +kernel
theorem d_mo_setDetector_11 : decode q_mo_setDetector.2.1 11 = .ok (.iconst 4, 1) := by decide +kernel
theorem d_mo_setDetector_12 : decode q_mo_setDetector.2.1 12 = .ok (.iload_n 1, 1) := by decide +kernel
theorem d_mo_setDetector_13 : decode q_mo_setDetector.2.1 13 = .ok (.imul, 1) := by decide +kernel
theorem d_mo_setDetector_14 : decode q_mo_setDetector.2.1 14 = .ok (.iadd, 1) := by decide +kernel
theorem d_mo_setDetector_15 : decode q_mo_setDetector.2.1 15 = .ok (.iconst 3, 1) := by decide +kernel
theorem d_mo_setDetector_16 : decode q_mo_setDetector.2.1 16 = .ok (.iadd, 1) := by decide +kernel
theorem d_mo_setDetector_17 : decode q_mo_setDetector.2.1 17 = .ok (.iload_n 2, 1) := by decide +kernel
theorem d_mo_setDetector_18 : decode q_mo_setDetector.2.1 18 = .ok (.invokevirtual 433, 3) := by decide +kernel
theorem d_mo_setDetector_21 : decode q_mo_setDetector.2.1 21 = .ok (.goto 4, 3) := by decide +kernel
theorem d_mo_setDetector_24 : decode q_mo_setDetector.2.1 24 = .ok (.iconst (-1), 1) := by decide +kernel
theorem d_mo_setDetector_25 : decode q_mo_setDetector.2.1 25 = .ok (.ireturn, 1) := by decide +kernel
theorem w_mo_setDetector_L25 (l : Launch) (lo hi d : Nat) {h' : sm_H} {r0 : Int32} (s0 : Int32) (h : sm_H) (hf : f_mo_setDetector_L25 s0 h = some (r0, h')) : sm_W l lo hi (d + 2) q_mo_setDetector 25 [] [.int s0] h (some (.int r0)) h' := by
  unfold f_mo_setDetector_L25 at hf
  obtain ⟨rfl, rfl⟩ := sm_ret2 hf
  exact sm_iret d_mo_setDetector_25 rfl
theorem m_mo_setDetector (l : Launch) (lo hi d : Nat) {a0 : Nat} {a1 : Int32} {a2 : Int32} {r0 : Int32} {h h' : sm_H} (e0 : sm_at lo hi (0, 10, 0) a0) (hf : f_mo_setDetector a0 a1 a2 h = some (r0, h')) : sm_Met l lo hi (d + 2) q_mo_setDetector [.ref a0, .int a1, .int a2] h (some (.int r0)) h' := by
  refine sm_Met.of (by decide +kernel) rfl ?_
  show sm_W l lo hi (d + 2) q_mo_setDetector 0 [(0, .ref a0), (1, .int a1), (2, .int a2)] [] h (some (.int r0)) h'
  unfold f_mo_setDetector at hf
  refine sm_aload_n 0 rfl d_mo_setDetector_0 ?_
  refine sm_iload_n 1 rfl d_mo_setDetector_1 ?_
  obtain ⟨r1, g2, c3, hf⟩ := sm_b2E hf
  refine sm_callV (As := [.int a1]) (rv := some (.int r1)) (h1 := g2) (c := 10) cvv_mo_430 rfl rfl e0 (m_mo_isZone l lo hi _ e0 c3) rfl rfl d_mo_setDetector_2 ?_
  refine sm_if_eq 24 d_mo_setDetector_5 rfl (fun c4 => ?_) (fun c4 => ?_)
  · have hf := sm_ifT c4 hf
    refine sm_iconst (v := (-1)) (by decide) d_mo_setDetector_24 ?_
    refine sm_sub [] rfl ?_
    exact w_mo_setDetector_L25 l lo hi d _ _ hf
  · have hf := sm_ifF c4 hf
    refine sm_aload_n 0 rfl d_mo_setDetector_8 ?_
    refine sm_bipush (v := 10) (by decide) d_mo_setDetector_9 ?_
    refine sm_iconst (v := 4) (by decide) d_mo_setDetector_11 ?_
    refine sm_iload_n 1 rfl d_mo_setDetector_12 ?_
    refine sm_imul d_mo_setDetector_13 ?_
    refine sm_iadd d_mo_setDetector_14 ?_
    refine sm_iconst (v := 3) (by decide) d_mo_setDetector_15 ?_
    refine sm_iadd d_mo_setDetector_16 ?_
    refine sm_iload_n 2 rfl d_mo_setDetector_17 ?_
    obtain ⟨r5, g6, c7, hf⟩ := sm_b2E hf
    refine sm_callV (As := [.int ((10 + (4 * a1)) + 3), .int a2]) (rv := some (.int r5)) (h1 := g6) (c := 10) cvv_mo_433 rfl rfl e0 (m_mo_flip l lo hi _ e0 c7) rfl rfl d_mo_setDetector_18 ?_
    refine sm_goto 25 d_mo_setDetector_21 rfl ?_
    refine sm_sub [] rfl ?_
    exact w_mo_setDetector_L25 l lo hi d _ _ hf
theorem d_mo_setDoor_0 : decode q_mo_setDoor.2.1 0 = .ok (.aload_n 0, 1) := by decide +kernel
theorem d_mo_setDoor_1 : decode q_mo_setDoor.2.1 1 = .ok (.iload_n 1, 1) := by decide +kernel
theorem d_mo_setDoor_2 : decode q_mo_setDoor.2.1 2 = .ok (.invokevirtual 437, 3) := by decide +kernel
theorem d_mo_setDoor_5 : decode q_mo_setDoor.2.1 5 = .ok (.ifCond .eq 16, 3) := by decide +kernel
theorem d_mo_setDoor_8 : decode q_mo_setDoor.2.1 8 = .ok (.aload_n 0, 1) := by decide +kernel
theorem d_mo_setDoor_9 : decode q_mo_setDoor.2.1 9 = .ok (.sipush 190, 3) := by decide +kernel
theorem d_mo_setDoor_12 : decode q_mo_setDoor.2.1 12 = .ok (.iload_n 1, 1) := by decide +kernel
theorem d_mo_setDoor_13 : decode q_mo_setDoor.2.1 13 = .ok (.iadd, 1) := by decide +kernel
theorem d_mo_setDoor_14 : decode q_mo_setDoor.2.1 14 = .ok (.iload_n 2, 1) := by decide +kernel
theorem d_mo_setDoor_15 : decode q_mo_setDoor.2.1 15 = .ok (.invokevirtual 433, 3) := by decide +kernel
theorem d_mo_setDoor_18 : decode q_mo_setDoor.2.1 18 = .ok (.goto 4, 3) := by decide +kernel
theorem d_mo_setDoor_21 : decode q_mo_setDoor.2.1 21 = .ok (.iconst (-1), 1) := by decide +kernel
theorem d_mo_setDoor_22 : decode q_mo_setDoor.2.1 22 = .ok (.ireturn, 1) := by decide +kernel
theorem w_mo_setDoor_L22 (l : Launch) (lo hi d : Nat) {h' : sm_H} {r0 : Int32} (s0 : Int32) (h : sm_H) (hf : f_mo_setDoor_L22 s0 h = some (r0, h')) : sm_W l lo hi (d + 2) q_mo_setDoor 22 [] [.int s0] h (some (.int r0)) h' := by
  unfold f_mo_setDoor_L22 at hf
  obtain ⟨rfl, rfl⟩ := sm_ret2 hf
  exact sm_iret d_mo_setDoor_22 rfl
theorem m_mo_setDoor (l : Launch) (lo hi d : Nat) {a0 : Nat} {a1 : Int32} {a2 : Int32} {r0 : Int32} {h h' : sm_H} (e0 : sm_at lo hi (0, 10, 0) a0) (hf : f_mo_setDoor a0 a1 a2 h = some (r0, h')) : sm_Met l lo hi (d + 2) q_mo_setDoor [.ref a0, .int a1, .int a2] h (some (.int r0)) h' := by
  refine sm_Met.of (by decide +kernel) rfl ?_
  show sm_W l lo hi (d + 2) q_mo_setDoor 0 [(0, .ref a0), (1, .int a1), (2, .int a2)] [] h (some (.int r0)) h'
  unfold f_mo_setDoor at hf
  refine sm_aload_n 0 rfl d_mo_setDoor_0 ?_
  refine sm_iload_n 1 rfl d_mo_setDoor_1 ?_
  obtain ⟨r1, g2, c3, hf⟩ := sm_b2E hf
  refine sm_callV (As := [.int a1]) (rv := some (.int r1)) (h1 := g2) (c := 10) cvv_mo_437 rfl rfl e0 (m_mo_isDoor l lo hi _ e0 c3) rfl rfl d_mo_setDoor_2 ?_
  refine sm_if_eq 21 d_mo_setDoor_5 rfl (fun c4 => ?_) (fun c4 => ?_)
  · have hf := sm_ifT c4 hf
    refine sm_iconst (v := (-1)) (by decide) d_mo_setDoor_21 ?_
    refine sm_sub [] rfl ?_
    exact w_mo_setDoor_L22 l lo hi d _ _ hf
  · have hf := sm_ifF c4 hf
    refine sm_aload_n 0 rfl d_mo_setDoor_8 ?_
    refine sm_sipush (v := 190) (by decide) d_mo_setDoor_9 ?_
    refine sm_iload_n 1 rfl d_mo_setDoor_12 ?_
    refine sm_iadd d_mo_setDoor_13 ?_
    refine sm_iload_n 2 rfl d_mo_setDoor_14 ?_
    obtain ⟨r5, g6, c7, hf⟩ := sm_b2E hf
    refine sm_callV (As := [.int (190 + a1), .int a2]) (rv := some (.int r5)) (h1 := g6) (c := 10) cvv_mo_433 rfl rfl e0 (m_mo_flip l lo hi _ e0 c7) rfl rfl d_mo_setDoor_15 ?_
    refine sm_goto 22 d_mo_setDoor_18 rfl ?_
    refine sm_sub [] rfl ?_
    exact w_mo_setDoor_L22 l lo hi d _ _ hf
theorem d_mo_jam_0 : decode q_mo_jam.2.1 0 = .ok (.aload_n 0, 1) := by decide +kernel
theorem d_mo_jam_1 : decode q_mo_jam.2.1 1 = .ok (.iload_n 1, 1) := by decide +kernel
theorem d_mo_jam_2 : decode q_mo_jam.2.1 2 = .ok (.invokevirtual 440, 3) := by decide +kernel
theorem d_mo_jam_5 : decode q_mo_jam.2.1 5 = .ok (.ifCond .eq 20, 3) := by decide +kernel
theorem d_mo_jam_8 : decode q_mo_jam.2.1 8 = .ok (.aload_n 0, 1) := by decide +kernel
theorem d_mo_jam_9 : decode q_mo_jam.2.1 9 = .ok (.bipush 42, 2) := by decide +kernel
theorem d_mo_jam_11 : decode q_mo_jam.2.1 11 = .ok (.bipush 7, 2) := by decide +kernel
theorem d_mo_jam_13 : decode q_mo_jam.2.1 13 = .ok (.iload_n 1, 1) := by decide +kernel
theorem d_mo_jam_14 : decode q_mo_jam.2.1 14 = .ok (.imul, 1) := by decide +kernel
theorem d_mo_jam_15 : decode q_mo_jam.2.1 15 = .ok (.iadd, 1) := by decide +kernel
theorem d_mo_jam_16 : decode q_mo_jam.2.1 16 = .ok (.iconst 1, 1) := by decide +kernel
theorem d_mo_jam_17 : decode q_mo_jam.2.1 17 = .ok (.iadd, 1) := by decide +kernel
theorem d_mo_jam_18 : decode q_mo_jam.2.1 18 = .ok (.iload_n 2, 1) := by decide +kernel
theorem d_mo_jam_19 : decode q_mo_jam.2.1 19 = .ok (.invokevirtual 433, 3) := by decide +kernel
theorem d_mo_jam_22 : decode q_mo_jam.2.1 22 = .ok (.goto 4, 3) := by decide +kernel
theorem d_mo_jam_25 : decode q_mo_jam.2.1 25 = .ok (.iconst (-1), 1) := by decide +kernel
theorem d_mo_jam_26 : decode q_mo_jam.2.1 26 = .ok (.ireturn, 1) := by decide +kernel
theorem w_mo_jam_L26 (l : Launch) (lo hi d : Nat) {h' : sm_H} {r0 : Int32} (s0 : Int32) (h : sm_H) (hf : f_mo_jam_L26 s0 h = some (r0, h')) : sm_W l lo hi (d + 2) q_mo_jam 26 [] [.int s0] h (some (.int r0)) h' := by
  unfold f_mo_jam_L26 at hf
  obtain ⟨rfl, rfl⟩ := sm_ret2 hf
  exact sm_iret d_mo_jam_26 rfl
theorem m_mo_jam (l : Launch) (lo hi d : Nat) {a0 : Nat} {a1 : Int32} {a2 : Int32} {r0 : Int32} {h h' : sm_H} (e0 : sm_at lo hi (0, 10, 0) a0) (hf : f_mo_jam a0 a1 a2 h = some (r0, h')) : sm_Met l lo hi (d + 2) q_mo_jam [.ref a0, .int a1, .int a2] h (some (.int r0)) h' := by
  refine sm_Met.of (by decide +kernel) rfl ?_
  show sm_W l lo hi (d + 2) q_mo_jam 0 [(0, .ref a0), (1, .int a1), (2, .int a2)] [] h (some (.int r0)) h'
  unfold f_mo_jam at hf
  refine sm_aload_n 0 rfl d_mo_jam_0 ?_
  refine sm_iload_n 1 rfl d_mo_jam_1 ?_
  obtain ⟨r1, g2, c3, hf⟩ := sm_b2E hf
  refine sm_callV (As := [.int a1]) (rv := some (.int r1)) (h1 := g2) (c := 10) cvv_mo_440 rfl rfl e0 (m_mo_isDamper l lo hi _ e0 c3) rfl rfl d_mo_jam_2 ?_
  refine sm_if_eq 25 d_mo_jam_5 rfl (fun c4 => ?_) (fun c4 => ?_)
  · have hf := sm_ifT c4 hf
    refine sm_iconst (v := (-1)) (by decide) d_mo_jam_25 ?_
    refine sm_sub [] rfl ?_
    exact w_mo_jam_L26 l lo hi d _ _ hf
  · have hf := sm_ifF c4 hf
    refine sm_aload_n 0 rfl d_mo_jam_8 ?_
    refine sm_bipush (v := 42) (by decide) d_mo_jam_9 ?_
    refine sm_bipush (v := 7) (by decide) d_mo_jam_11 ?_
    refine sm_iload_n 1 rfl d_mo_jam_13 ?_
    refine sm_imul d_mo_jam_14 ?_
    refine sm_iadd d_mo_jam_15 ?_
    refine sm_iconst (v := 1) (by decide) d_mo_jam_16 ?_
    refine sm_iadd d_mo_jam_17 ?_
    refine sm_iload_n 2 rfl d_mo_jam_18 ?_
    obtain ⟨r5, g6, c7, hf⟩ := sm_b2E hf
    refine sm_callV (As := [.int ((42 + (7 * a1)) + 1), .int a2]) (rv := some (.int r5)) (h1 := g6) (c := 10) cvv_mo_433 rfl rfl e0 (m_mo_flip l lo hi _ e0 c7) rfl rfl d_mo_jam_19 ?_
    refine sm_goto 26 d_mo_jam_22 rfl ?_
    refine sm_sub [] rfl ?_
    exact w_mo_jam_L26 l lo hi d _ _ hf
theorem d_mo_breakFan_0 : decode q_mo_breakFan.2.1 0 = .ok (.aload_n 0, 1) := by decide +kernel
theorem d_mo_breakFan_1 : decode q_mo_breakFan.2.1 1 = .ok (.iload_n 1, 1) := by decide +kernel
theorem d_mo_breakFan_2 : decode q_mo_breakFan.2.1 2 = .ok (.invokevirtual 443, 3) := by decide +kernel
theorem d_mo_breakFan_5 : decode q_mo_breakFan.2.1 5 = .ok (.ifCond .eq 21, 3) := by decide +kernel
theorem d_mo_breakFan_8 : decode q_mo_breakFan.2.1 8 = .ok (.aload_n 0, 1) := by decide +kernel
theorem d_mo_breakFan_9 : decode q_mo_breakFan.2.1 9 = .ok (.sipush 154, 3) := by decide +kernel
theorem d_mo_breakFan_12 : decode q_mo_breakFan.2.1 12 = .ok (.bipush 6, 2) := by decide +kernel
theorem d_mo_breakFan_14 : decode q_mo_breakFan.2.1 14 = .ok (.iload_n 1, 1) := by decide +kernel
theorem d_mo_breakFan_15 : decode q_mo_breakFan.2.1 15 = .ok (.imul, 1) := by decide +kernel
theorem d_mo_breakFan_16 : decode q_mo_breakFan.2.1 16 = .ok (.iadd, 1) := by decide +kernel
theorem d_mo_breakFan_17 : decode q_mo_breakFan.2.1 17 = .ok (.iconst 1, 1) := by decide +kernel
theorem d_mo_breakFan_18 : decode q_mo_breakFan.2.1 18 = .ok (.iadd, 1) := by decide +kernel
theorem d_mo_breakFan_19 : decode q_mo_breakFan.2.1 19 = .ok (.iload_n 2, 1) := by decide +kernel
theorem d_mo_breakFan_20 : decode q_mo_breakFan.2.1 20 = .ok (.invokevirtual 433, 3) := by decide +kernel
theorem d_mo_breakFan_23 : decode q_mo_breakFan.2.1 23 = .ok (.goto 4, 3) := by decide +kernel
theorem d_mo_breakFan_26 : decode q_mo_breakFan.2.1 26 = .ok (.iconst (-1), 1) := by decide +kernel
theorem d_mo_breakFan_27 : decode q_mo_breakFan.2.1 27 = .ok (.ireturn, 1) := by decide +kernel
theorem w_mo_breakFan_L27 (l : Launch) (lo hi d : Nat) {h' : sm_H} {r0 : Int32} (s0 : Int32) (h : sm_H) (hf : f_mo_breakFan_L27 s0 h = some (r0, h')) : sm_W l lo hi (d + 2) q_mo_breakFan 27 [] [.int s0] h (some (.int r0)) h' := by
  unfold f_mo_breakFan_L27 at hf
  obtain ⟨rfl, rfl⟩ := sm_ret2 hf
  exact sm_iret d_mo_breakFan_27 rfl
theorem m_mo_breakFan (l : Launch) (lo hi d : Nat) {a0 : Nat} {a1 : Int32} {a2 : Int32} {r0 : Int32} {h h' : sm_H} (e0 : sm_at lo hi (0, 10, 0) a0) (hf : f_mo_breakFan a0 a1 a2 h = some (r0, h')) : sm_Met l lo hi (d + 2) q_mo_breakFan [.ref a0, .int a1, .int a2] h (some (.int r0)) h' := by
  refine sm_Met.of (by decide +kernel) rfl ?_
  show sm_W l lo hi (d + 2) q_mo_breakFan 0 [(0, .ref a0), (1, .int a1), (2, .int a2)] [] h (some (.int r0)) h'
  unfold f_mo_breakFan at hf
  refine sm_aload_n 0 rfl d_mo_breakFan_0 ?_
  refine sm_iload_n 1 rfl d_mo_breakFan_1 ?_
  obtain ⟨r1, g2, c3, hf⟩ := sm_b2E hf
  refine sm_callV (As := [.int a1]) (rv := some (.int r1)) (h1 := g2) (c := 10) cvv_mo_443 rfl rfl e0 (m_mo_isFan l lo hi _ e0 c3) rfl rfl d_mo_breakFan_2 ?_
  refine sm_if_eq 26 d_mo_breakFan_5 rfl (fun c4 => ?_) (fun c4 => ?_)
  · have hf := sm_ifT c4 hf
    refine sm_iconst (v := (-1)) (by decide) d_mo_breakFan_26 ?_
    refine sm_sub [] rfl ?_
    exact w_mo_breakFan_L27 l lo hi d _ _ hf
  · have hf := sm_ifF c4 hf
    refine sm_aload_n 0 rfl d_mo_breakFan_8 ?_
    refine sm_sipush (v := 154) (by decide) d_mo_breakFan_9 ?_
    refine sm_bipush (v := 6) (by decide) d_mo_breakFan_12 ?_
    refine sm_iload_n 1 rfl d_mo_breakFan_14 ?_
    refine sm_imul d_mo_breakFan_15 ?_
    refine sm_iadd d_mo_breakFan_16 ?_
    refine sm_iconst (v := 1) (by decide) d_mo_breakFan_17 ?_
    refine sm_iadd d_mo_breakFan_18 ?_
    refine sm_iload_n 2 rfl d_mo_breakFan_19 ?_
    obtain ⟨r5, g6, c7, hf⟩ := sm_b2E hf
    refine sm_callV (As := [.int ((154 + (6 * a1)) + 1), .int a2]) (rv := some (.int r5)) (h1 := g6) (c := 10) cvv_mo_433 rfl rfl e0 (m_mo_flip l lo hi _ e0 c7) rfl rfl d_mo_breakFan_20 ?_
    refine sm_goto 27 d_mo_breakFan_23 rfl ?_
    refine sm_sub [] rfl ?_
    exact w_mo_breakFan_L27 l lo hi d _ _ hf
theorem d_mo_turnKey_0 : decode q_mo_turnKey.2.1 0 = .ok (.aload_n 0, 1) := by decide +kernel
theorem d_mo_turnKey_1 : decode q_mo_turnKey.2.1 1 = .ok (.iconst 1, 1) := by decide +kernel
theorem d_mo_turnKey_2 : decode q_mo_turnKey.2.1 2 = .ok (.iload_n 1, 1) := by decide +kernel
theorem d_mo_turnKey_3 : decode q_mo_turnKey.2.1 3 = .ok (.invokevirtual 433, 3) := by decide +kernel
theorem d_mo_turnKey_6 : decode q_mo_turnKey.2.1 6 = .ok (.istore_n 2, 1) := by decide +kernel
theorem d_mo_turnKey_7 : decode q_mo_turnKey.2.1 7 = .ok (.iload_n 2, 1) := by decide +kernel
theorem d_mo_turnKey_8 : decode q_mo_turnKey.2.1 8 = .ok (.iconst 1, 1) := by decide +kernel
theorem d_mo_turnKey_9 : decode q_mo_turnKey.2.1 9 = .ok (.if_icmp .ne 19, 3) := by decide +kernel
theorem d_mo_turnKey_12 : decode q_mo_turnKey.2.1 12 = .ok (.aload_n 0, 1) := by decide +kernel
theorem d_mo_turnKey_13 : decode q_mo_turnKey.2.1 13 = .ok (.iload_n 1, 1) := by decide +kernel
theorem d_mo_turnKey_14 : decode q_mo_turnKey.2.1 14 = .ok (.ifCond .eq 8, 3) := by decide +kernel
theorem d_mo_turnKey_17 : decode q_mo_turnKey.2.1 17 = .ok (.bipush 6, 2) := by decide +kernel
theorem d_mo_turnKey_19 : decode q_mo_turnKey.2.1 19 = .ok (.goto 5, 3) := by decide +kernel
theorem d_mo_turnKey_22 : decode q_mo_turnKey.2.1 22 = .ok (.bipush 7, 2) := by decide +kernel
theorem d_mo_turnKey_24 : decode q_mo_turnKey.2.1 24 = .ok (.iconst 0, 1) := by decide +kernel
theorem d_mo_turnKey_25 : decode q_mo_turnKey.2.1 25 = .ok (.invokevirtual 364, 3) := by decide +kernel
theorem d_mo_turnKey_28 : decode q_mo_turnKey.2.1 28 = .ok (.iload_n 2, 1) := by decide +kernel
theorem d_mo_turnKey_29 : decode q_mo_turnKey.2.1 29 = .ok (.ireturn, 1) := by decide +kernel
theorem w_mo_turnKey_L28 (l : Launch) (lo hi d : Nat) {h' : sm_H} {r0 : Int32} (a2 : Int32) (h : sm_H) (hf : f_mo_turnKey_L28 a2 h = some (r0, h')) : sm_W l lo hi (d + 1) q_mo_turnKey 28 [(2, .int a2)] [] h (some (.int r0)) h' := by
  unfold f_mo_turnKey_L28 at hf
  refine sm_iload_n 0 rfl d_mo_turnKey_28 ?_
  obtain ⟨rfl, rfl⟩ := sm_ret2 hf
  exact sm_iret d_mo_turnKey_29 rfl
theorem w_mo_turnKey_L24 (l : Launch) (lo hi d : Nat) {h' : sm_H} {r0 : Int32} (a2 : Int32) (s0 : Int32) (s1 : Nat) (h : sm_H) (t1 : sm_at lo hi (0, 10, 0) s1) (hf : f_mo_turnKey_L24 a2 s0 s1 h = some (r0, h')) : sm_W l lo hi (d + 1) q_mo_turnKey 24 [(2, .int a2)] [.int s0, .ref s1] h (some (.int r0)) h' := by
  unfold f_mo_turnKey_L24 at hf
  refine sm_iconst (v := 0) (by decide) d_mo_turnKey_24 ?_
  obtain ⟨g6, c7, hf⟩ := sm_bindE hf
  refine sm_callV (As := [.int s0, .int 0]) (rv := none) (h1 := g6) (c := 10) cvv_mo_364 rfl rfl t1 (m_mo_record l lo hi _ t1 c7) rfl rfl d_mo_turnKey_25 ?_
  exact w_mo_turnKey_L28 l lo hi d _ _ hf
theorem m_mo_turnKey (l : Launch) (lo hi d : Nat) {a0 : Nat} {a1 : Int32} {r0 : Int32} {h h' : sm_H} (e0 : sm_at lo hi (0, 10, 0) a0) (hf : f_mo_turnKey a0 a1 h = some (r0, h')) : sm_Met l lo hi (d + 1) q_mo_turnKey [.ref a0, .int a1] h (some (.int r0)) h' := by
  refine sm_Met.of (by decide +kernel) rfl ?_
  show sm_W l lo hi (d + 1) q_mo_turnKey 0 [(0, .ref a0), (1, .int a1)] [] h (some (.int r0)) h'
  unfold f_mo_turnKey at hf
  refine sm_aload_n 0 rfl d_mo_turnKey_0 ?_
  refine sm_iconst (v := 1) (by decide) d_mo_turnKey_1 ?_
  refine sm_iload_n 1 rfl d_mo_turnKey_2 ?_
  obtain ⟨r1, g2, c3, hf⟩ := sm_b2E hf
  refine sm_callV (As := [.int 1, .int a1]) (rv := some (.int r1)) (h1 := g2) (c := 10) cvv_mo_433 rfl rfl e0 (m_mo_flip l lo hi _ e0 c3) rfl rfl d_mo_turnKey_3 ?_
  refine sm_istore_n (lv' := [(2, .int r1), (0, .ref a0), (1, .int a1)]) d_mo_turnKey_6 rfl rfl ?_
  refine sm_iload_n 0 rfl d_mo_turnKey_7 ?_
  refine sm_iconst (v := 1) (by decide) d_mo_turnKey_8 ?_
  refine sm_icmp_ne 28 d_mo_turnKey_9 rfl (fun c4 => ?_) (fun c4 => ?_)
  · have hf := sm_ifF c4 hf
    refine sm_sub [0] rfl ?_
    exact w_mo_turnKey_L28 l lo hi d _ _ hf
  · have hf := sm_ifT c4 hf
    refine sm_aload_n 1 rfl d_mo_turnKey_12 ?_
    refine sm_iload_n 2 rfl d_mo_turnKey_13 ?_
    refine sm_if_eq 22 d_mo_turnKey_14 rfl (fun c5 => ?_) (fun c5 => ?_)
    · have hf := sm_ifT c5 hf
      refine sm_bipush (v := 7) (by decide) d_mo_turnKey_22 ?_
      refine sm_sub [0] rfl ?_
      exact w_mo_turnKey_L24 l lo hi d _ _ _ _ e0 hf
    · have hf := sm_ifF c5 hf
      refine sm_bipush (v := 6) (by decide) d_mo_turnKey_17 ?_
      refine sm_goto 24 d_mo_turnKey_19 rfl ?_
      refine sm_sub [0] rfl ?_
      exact w_mo_turnKey_L24 l lo hi d _ _ _ _ e0 hf
theorem d_mo_set_0 : decode q_mo_set.2.1 0 = .ok (.iload_n 1, 1) := by decide +kernel
theorem d_mo_set_1 : decode q_mo_set.2.1 1 = .ok (.ifCond .ne 5, 3) := by decide +kernel
theorem d_mo_set_4 : decode q_mo_set.2.1 4 = .ok (.iconst (-1), 1) := by decide +kernel
theorem d_mo_set_5 : decode q_mo_set.2.1 5 = .ok (.ireturn, 1) := by decide +kernel
theorem d_mo_set_6 : decode q_mo_set.2.1 6 = .ok (.iload_n 3, 1) := by decide +kernel
theorem d_mo_set_7 : decode q_mo_set.2.1 7 = .ok (.iconst 0, 1) := by decide +kernel
theorem d_mo_set_8 : decode q_mo_set.2.1 8 = .ok (.iconst 2, 1) := by decide +kernel
theorem d_mo_set_9 : decode q_mo_set.2.1 9 = .ok (.invokestatic 91, 3) := by decide +kernel
theorem d_mo_set_12 : decode q_mo_set.2.1 12 = .ok (.ifCond .ne 6, 3) := by decide +kernel
theorem d_mo_set_15 : decode q_mo_set.2.1 15 = .ok (.bipush (-2), 2) := by decide +kernel
theorem d_mo_set_17 : decode q_mo_set.2.1 17 = .ok (.ireturn, 1) := by decide +kernel
theorem d_mo_set_18 : decode q_mo_set.2.1 18 = .ok (.aload_n 0, 1) := by decide +kernel
theorem d_mo_set_19 : decode q_mo_set.2.1 19 = .ok (.getfield 16, 3) := by decide +kernel
theorem d_mo_set_22 : decode q_mo_set.2.1 22 = .ok (.iload_n 2, 1) := by decide +kernel
theorem d_mo_set_23 : decode q_mo_set.2.1 23 = .ok (.iaload, 1) := by decide +kernel
theorem d_mo_set_24 : decode q_mo_set.2.1 24 = .ok (.istore 4, 2) := by decide +kernel
theorem d_mo_set_26 : decode q_mo_set.2.1 26 = .ok (.aload_n 0, 1) := by decide +kernel
theorem d_mo_set_27 : decode q_mo_set.2.1 27 = .ok (.getfield 16, 3) := by decide +kernel
theorem d_mo_set_30 : decode q_mo_set.2.1 30 = .ok (.iload_n 2, 1) := by decide +kernel
theorem d_mo_set_31 : decode q_mo_set.2.1 31 = .ok (.iload_n 3, 1) := by decide +kernel
theorem d_mo_set_32 : decode q_mo_set.2.1 32 = .ok (.iastore, 1) := by decide +kernel
theorem d_mo_set_33 : decode q_mo_set.2.1 33 = .ok (.iload 4, 2) := by decide +kernel
theorem d_mo_set_35 : decode q_mo_set.2.1 35 = .ok (.ireturn, 1) := by decide +kernel
theorem m_mo_set (l : Launch) (lo hi d : Nat) {a0 : Nat} {a1 : Int32} {a2 : Int32} {a3 : Int32} {r0 : Int32} {h h' : sm_H} (e0 : sm_at lo hi (0, 10, 0) a0) (hf : f_mo_set a0 a1 a2 a3 h = some (r0, h')) : sm_Met l lo hi (d + 1) q_mo_set [.ref a0, .int a1, .int a2, .int a3] h (some (.int r0)) h' := by
  refine sm_Met.of (by decide +kernel) rfl ?_
  show sm_W l lo hi (d + 1) q_mo_set 0 [(0, .ref a0), (1, .int a1), (2, .int a2), (3, .int a3)] [] h (some (.int r0)) h'
  unfold f_mo_set at hf
  refine sm_iload_n 1 rfl d_mo_set_0 ?_
  refine sm_if_ne 6 d_mo_set_1 rfl (fun c1 => ?_) (fun c1 => ?_)
  · have hf := sm_ifF c1 hf
    refine sm_iload_n 3 rfl d_mo_set_6 ?_
    refine sm_iconst (v := 0) (by decide) d_mo_set_7 ?_
    refine sm_iconst (v := 2) (by decide) d_mo_set_8 ?_
    obtain ⟨r2, g3, c4, hf⟩ := sm_b2E hf
    refine sm_callS (As := [.int a3, .int 0, .int 2]) (rv := some (.int r2)) (h1 := g3) cvs_mo_91 (m_mo_in l lo hi _ c4) rfl rfl d_mo_set_9 ?_
    refine sm_if_ne 18 d_mo_set_12 rfl (fun c5 => ?_) (fun c5 => ?_)
    · have hf := sm_ifF c5 hf
      refine sm_aload_n 0 rfl d_mo_set_18 ?_
      refine sm_getR (n := 3) fl_mo_16 e0 rfl d_mo_set_19 ?_
      refine sm_iload_n 2 rfl d_mo_set_22 ?_
      obtain ⟨c6, hf⟩ := sm_gdE hf
      refine sm_iald (sm_at_arr (sm_inner e0 2 rfl rfl rfl)) c6 d_mo_set_23 ?_
      refine sm_nmI (fun x7 w8 => ?_)
      have hf := sm_letV w8 hf
      refine sm_istore (lv' := [(4, .int x7), (0, .ref a0), (1, .int a1), (2, .int a2), (3, .int a3)]) d_mo_set_24 rfl rfl ?_
      refine sm_aload_n 1 rfl d_mo_set_26 ?_
      refine sm_getR (n := 3) fl_mo_16 e0 rfl d_mo_set_27 ?_
      refine sm_iload_n 3 rfl d_mo_set_30 ?_
      refine sm_iload_n 4 rfl d_mo_set_31 ?_
      obtain ⟨c9, hf⟩ := sm_gdE hf
      refine sm_iast (sm_at_arr (sm_inner e0 2 rfl rfl rfl)) c9 d_mo_set_32 ?_
      refine sm_nmH (fun g10 w11 => ?_)
      have hf := sm_letV w11 hf
      refine sm_iload 0 rfl d_mo_set_33 ?_
      obtain ⟨rfl, rfl⟩ := sm_ret2 hf
      exact sm_iret d_mo_set_35 rfl
    · have hf := sm_ifT c5 hf
      refine sm_bipush (v := (-2)) (by decide) d_mo_set_15 ?_
      obtain ⟨rfl, rfl⟩ := sm_ret2 hf
      exact sm_iret d_mo_set_17 rfl
  · have hf := sm_ifT c1 hf
    refine sm_iconst (v := (-1)) (by decide) d_mo_set_4 ?_
    obtain ⟨rfl, rfl⟩ := sm_ret2 hf
    exact sm_iret d_mo_set_5 rfl
theorem d_mo_switchDamper_0 : decode q_mo_switchDamper.2.1 0 = .ok (.aload_n 0, 1) := by decide +kernel
theorem d_mo_switchDamper_1 : decode q_mo_switchDamper.2.1 1 = .ok (.aload_n 0, 1) := by decide +kernel
theorem d_mo_switchDamper_2 : decode q_mo_switchDamper.2.1 2 = .ok (.iload_n 1, 1) := by decide +kernel
theorem d_mo_switchDamper_3 : decode q_mo_switchDamper.2.1 3 = .ok (.invokevirtual 440, 3) := by decide +kernel
theorem d_mo_switchDamper_6 : decode q_mo_switchDamper.2.1 6 = .ok (.bipush 42, 2) := by decide +kernel
theorem d_mo_switchDamper_8 : decode q_mo_switchDamper.2.1 8 = .ok (.bipush 7, 2) := by decide +kernel
theorem d_mo_switchDamper_10 : decode q_mo_switchDamper.2.1 10 = .ok (.iload_n 1, 1) := by decide +kernel
theorem d_mo_switchDamper_11 : decode q_mo_switchDamper.2.1 11 = .ok (.imul, 1) := by decide +kernel
theorem d_mo_switchDamper_12 : decode q_mo_switchDamper.2.1 12 = .ok (.iadd, 1) := by decide +kernel
theorem d_mo_switchDamper_13 : decode q_mo_switchDamper.2.1 13 = .ok (.iconst 2, 1) := by decide +kernel
theorem d_mo_switchDamper_14 : decode q_mo_switchDamper.2.1 14 = .ok (.iadd, 1) := by decide +kernel
theorem d_mo_switchDamper_15 : decode q_mo_switchDamper.2.1 15 = .ok (.iload_n 2, 1) := by decide +kernel
theorem d_mo_switchDamper_16 : decode q_mo_switchDamper.2.1 16 = .ok (.invokevirtual 446, 3) := by decide +kernel
theorem d_mo_switchDamper_19 : decode q_mo_switchDamper.2.1 19 = .ok (.ireturn, 1) := by decide +kernel
theorem m_mo_switchDamper (l : Launch) (lo hi d : Nat) {a0 : Nat} {a1 : Int32} {a2 : Int32} {r0 : Int32} {h h' : sm_H} (e0 : sm_at lo hi (0, 10, 0) a0) (hf : f_mo_switchDamper a0 a1 a2 h = some (r0, h')) : sm_Met l lo hi (d + 2) q_mo_switchDamper [.ref a0, .int a1, .int a2] h (some (.int r0)) h' := by
  refine sm_Met.of (by decide +kernel) rfl ?_
  show sm_W l lo hi (d + 2) q_mo_switchDamper 0 [(0, .ref a0), (1, .int a1), (2, .int a2)] [] h (some (.int r0)) h'
  unfold f_mo_switchDamper at hf
  refine sm_aload_n 0 rfl d_mo_switchDamper_0 ?_
  refine sm_aload_n 0 rfl d_mo_switchDamper_1 ?_
  refine sm_iload_n 1 rfl d_mo_switchDamper_2 ?_
  obtain ⟨r1, g2, c3, hf⟩ := sm_b2E hf
  refine sm_callV (As := [.int a1]) (rv := some (.int r1)) (h1 := g2) (c := 10) cvv_mo_440 rfl rfl e0 (m_mo_isDamper l lo hi _ e0 c3) rfl rfl d_mo_switchDamper_3 ?_
  refine sm_bipush (v := 42) (by decide) d_mo_switchDamper_6 ?_
  refine sm_bipush (v := 7) (by decide) d_mo_switchDamper_8 ?_
  refine sm_iload_n 1 rfl d_mo_switchDamper_10 ?_
  refine sm_imul d_mo_switchDamper_11 ?_
  refine sm_iadd d_mo_switchDamper_12 ?_
  refine sm_iconst (v := 2) (by decide) d_mo_switchDamper_13 ?_
  refine sm_iadd d_mo_switchDamper_14 ?_
  refine sm_iload_n 2 rfl d_mo_switchDamper_15 ?_
  obtain ⟨r4, g5, c6, hf⟩ := sm_b2E hf
  refine sm_callV (As := [.int r1, .int ((42 + (7 * a1)) + 2), .int a2]) (rv := some (.int r4)) (h1 := g5) (c := 10) cvv_mo_446 rfl rfl e0 (m_mo_set l lo hi _ e0 c6) rfl rfl d_mo_switchDamper_16 ?_
  obtain ⟨rfl, rfl⟩ := sm_ret2 hf
  exact sm_iret d_mo_switchDamper_19 rfl
theorem d_mo_switchFan_0 : decode q_mo_switchFan.2.1 0 = .ok (.aload_n 0, 1) := by decide +kernel
theorem d_mo_switchFan_1 : decode q_mo_switchFan.2.1 1 = .ok (.aload_n 0, 1) := by decide +kernel
theorem d_mo_switchFan_2 : decode q_mo_switchFan.2.1 2 = .ok (.iload_n 1, 1) := by decide +kernel
theorem d_mo_switchFan_3 : decode q_mo_switchFan.2.1 3 = .ok (.invokevirtual 443, 3) := by decide +kernel
theorem d_mo_switchFan_6 : decode q_mo_switchFan.2.1 6 = .ok (.sipush 154, 3) := by decide +kernel
theorem d_mo_switchFan_9 : decode q_mo_switchFan.2.1 9 = .ok (.bipush 6, 2) := by decide +kernel
theorem d_mo_switchFan_11 : decode q_mo_switchFan.2.1 11 = .ok (.iload_n 1, 1) := by decide +kernel
theorem d_mo_switchFan_12 : decode q_mo_switchFan.2.1 12 = .ok (.imul, 1) := by decide +kernel
theorem d_mo_switchFan_13 : decode q_mo_switchFan.2.1 13 = .ok (.iadd, 1) := by decide +kernel
theorem d_mo_switchFan_14 : decode q_mo_switchFan.2.1 14 = .ok (.iconst 2, 1) := by decide +kernel
theorem d_mo_switchFan_15 : decode q_mo_switchFan.2.1 15 = .ok (.iadd, 1) := by decide +kernel
theorem d_mo_switchFan_16 : decode q_mo_switchFan.2.1 16 = .ok (.iload_n 2, 1) := by decide +kernel
theorem d_mo_switchFan_17 : decode q_mo_switchFan.2.1 17 = .ok (.invokevirtual 446, 3) := by decide +kernel
theorem d_mo_switchFan_20 : decode q_mo_switchFan.2.1 20 = .ok (.ireturn, 1) := by decide +kernel
theorem m_mo_switchFan (l : Launch) (lo hi d : Nat) {a0 : Nat} {a1 : Int32} {a2 : Int32} {r0 : Int32} {h h' : sm_H} (e0 : sm_at lo hi (0, 10, 0) a0) (hf : f_mo_switchFan a0 a1 a2 h = some (r0, h')) : sm_Met l lo hi (d + 2) q_mo_switchFan [.ref a0, .int a1, .int a2] h (some (.int r0)) h' := by
  refine sm_Met.of (by decide +kernel) rfl ?_
  show sm_W l lo hi (d + 2) q_mo_switchFan 0 [(0, .ref a0), (1, .int a1), (2, .int a2)] [] h (some (.int r0)) h'
  unfold f_mo_switchFan at hf
  refine sm_aload_n 0 rfl d_mo_switchFan_0 ?_
  refine sm_aload_n 0 rfl d_mo_switchFan_1 ?_
  refine sm_iload_n 1 rfl d_mo_switchFan_2 ?_
  obtain ⟨r1, g2, c3, hf⟩ := sm_b2E hf
  refine sm_callV (As := [.int a1]) (rv := some (.int r1)) (h1 := g2) (c := 10) cvv_mo_443 rfl rfl e0 (m_mo_isFan l lo hi _ e0 c3) rfl rfl d_mo_switchFan_3 ?_
  refine sm_sipush (v := 154) (by decide) d_mo_switchFan_6 ?_
  refine sm_bipush (v := 6) (by decide) d_mo_switchFan_9 ?_
  refine sm_iload_n 1 rfl d_mo_switchFan_11 ?_
  refine sm_imul d_mo_switchFan_12 ?_
  refine sm_iadd d_mo_switchFan_13 ?_
  refine sm_iconst (v := 2) (by decide) d_mo_switchFan_14 ?_
  refine sm_iadd d_mo_switchFan_15 ?_
  refine sm_iload_n 2 rfl d_mo_switchFan_16 ?_
  obtain ⟨r4, g5, c6, hf⟩ := sm_b2E hf
  refine sm_callV (As := [.int r1, .int ((154 + (6 * a1)) + 2), .int a2]) (rv := some (.int r4)) (h1 := g5) (c := 10) cvv_mo_446 rfl rfl e0 (m_mo_set l lo hi _ e0 c6) rfl rfl d_mo_switchFan_17 ?_
  obtain ⟨rfl, rfl⟩ := sm_ret2 hf
  exact sm_iret d_mo_switchFan_20 rfl
theorem d_mo_operateDamper_0 : decode q_mo_operateDamper.2.1 0 = .ok (.aload_n 0, 1) := by decide +kernel
theorem d_mo_operateDamper_1 : decode q_mo_operateDamper.2.1 1 = .ok (.aload_n 0, 1) := by decide +kernel
theorem d_mo_operateDamper_2 : decode q_mo_operateDamper.2.1 2 = .ok (.iload_n 1, 1) := by decide +kernel
theorem d_mo_operateDamper_3 : decode q_mo_operateDamper.2.1 3 = .ok (.invokevirtual 440, 3) := by decide +kernel
theorem d_mo_operateDamper_6 : decode q_mo_operateDamper.2.1 6 = .ok (.bipush 42, 2) := by decide +kernel
theorem d_mo_operateDamper_8 : decode q_mo_operateDamper.2.1 8 = .ok (.bipush 7, 2) := by decide +kernel
theorem d_mo_operateDamper_10 : decode q_mo_operateDamper.2.1 10 = .ok (.iload_n 1, 1) := by decide +kernel
theorem d_mo_operateDamper_11 : decode q_mo_operateDamper.2.1 11 = .ok (.imul, 1) := by decide +kernel
theorem d_mo_operateDamper_12 : decode q_mo_operateDamper.2.1 12 = .ok (.iadd, 1) := by decide +kernel
theorem d_mo_operateDamper_13 : decode q_mo_operateDamper.2.1 13 = .ok (.iconst 3, 1) := by decide +kernel
theorem d_mo_operateDamper_14 : decode q_mo_operateDamper.2.1 14 = .ok (.iadd, 1) := by decide +kernel
theorem d_mo_operateDamper_15 : decode q_mo_operateDamper.2.1 15 = .ok (.iload_n 2, 1) := by decide +kernel
theorem d_mo_operateDamper_16 : decode q_mo_operateDamper.2.1 16 = .ok (.invokevirtual 446, 3) := by decide +kernel
theorem d_mo_operateDamper_19 : decode q_mo_operateDamper.2.1 19 = .ok (.ireturn, 1) := by decide +kernel
theorem m_mo_operateDamper (l : Launch) (lo hi d : Nat) {a0 : Nat} {a1 : Int32} {a2 : Int32} {r0 : Int32} {h h' : sm_H} (e0 : sm_at lo hi (0, 10, 0) a0) (hf : f_mo_operateDamper a0 a1 a2 h = some (r0, h')) : sm_Met l lo hi (d + 2) q_mo_operateDamper [.ref a0, .int a1, .int a2] h (some (.int r0)) h' := by
  refine sm_Met.of (by decide +kernel) rfl ?_
  show sm_W l lo hi (d + 2) q_mo_operateDamper 0 [(0, .ref a0), (1, .int a1), (2, .int a2)] [] h (some (.int r0)) h'
  unfold f_mo_operateDamper at hf
  refine sm_aload_n 0 rfl d_mo_operateDamper_0 ?_
  refine sm_aload_n 0 rfl d_mo_operateDamper_1 ?_
  refine sm_iload_n 1 rfl d_mo_operateDamper_2 ?_
  obtain ⟨r1, g2, c3, hf⟩ := sm_b2E hf
  refine sm_callV (As := [.int a1]) (rv := some (.int r1)) (h1 := g2) (c := 10) cvv_mo_440 rfl rfl e0 (m_mo_isDamper l lo hi _ e0 c3) rfl rfl d_mo_operateDamper_3 ?_
  refine sm_bipush (v := 42) (by decide) d_mo_operateDamper_6 ?_
  refine sm_bipush (v := 7) (by decide) d_mo_operateDamper_8 ?_
  refine sm_iload_n 1 rfl d_mo_operateDamper_10 ?_
  refine sm_imul d_mo_operateDamper_11 ?_
  refine sm_iadd d_mo_operateDamper_12 ?_
  refine sm_iconst (v := 3) (by decide) d_mo_operateDamper_13 ?_
  refine sm_iadd d_mo_operateDamper_14 ?_
  refine sm_iload_n 2 rfl d_mo_operateDamper_15 ?_
  obtain ⟨r4, g5, c6, hf⟩ := sm_b2E hf
  refine sm_callV (As := [.int r1, .int ((42 + (7 * a1)) + 3), .int a2]) (rv := some (.int r4)) (h1 := g5) (c := 10) cvv_mo_446 rfl rfl e0 (m_mo_set l lo hi _ e0 c6) rfl rfl d_mo_operateDamper_16 ?_
  obtain ⟨rfl, rfl⟩ := sm_ret2 hf
  exact sm_iret d_mo_operateDamper_19 rfl
theorem d_mo_operateFan_0 : decode q_mo_operateFan.2.1 0 = .ok (.aload_n 0, 1) := by decide +kernel
theorem d_mo_operateFan_1 : decode q_mo_operateFan.2.1 1 = .ok (.aload_n 0, 1) := by decide +kernel
theorem d_mo_operateFan_2 : decode q_mo_operateFan.2.1 2 = .ok (.iload_n 1, 1) := by decide +kernel
theorem d_mo_operateFan_3 : decode q_mo_operateFan.2.1 3 = .ok (.invokevirtual 443, 3) := by decide +kernel
theorem d_mo_operateFan_6 : decode q_mo_operateFan.2.1 6 = .ok (.sipush 154, 3) := by decide +kernel
theorem d_mo_operateFan_9 : decode q_mo_operateFan.2.1 9 = .ok (.bipush 6, 2) := by decide +kernel
theorem d_mo_operateFan_11 : decode q_mo_operateFan.2.1 11 = .ok (.iload_n 1, 1) := by decide +kernel
theorem d_mo_operateFan_12 : decode q_mo_operateFan.2.1 12 = .ok (.imul, 1) := by decide +kernel
theorem d_mo_operateFan_13 : decode q_mo_operateFan.2.1 13 = .ok (.iadd, 1) := by decide +kernel
theorem d_mo_operateFan_14 : decode q_mo_operateFan.2.1 14 = .ok (.iconst 3, 1) := by decide +kernel
theorem d_mo_operateFan_15 : decode q_mo_operateFan.2.1 15 = .ok (.iadd, 1) := by decide +kernel
theorem d_mo_operateFan_16 : decode q_mo_operateFan.2.1 16 = .ok (.iload_n 2, 1) := by decide +kernel
theorem d_mo_operateFan_17 : decode q_mo_operateFan.2.1 17 = .ok (.invokevirtual 446, 3) := by decide +kernel
theorem d_mo_operateFan_20 : decode q_mo_operateFan.2.1 20 = .ok (.ireturn, 1) := by decide +kernel
theorem m_mo_operateFan (l : Launch) (lo hi d : Nat) {a0 : Nat} {a1 : Int32} {a2 : Int32} {r0 : Int32} {h h' : sm_H} (e0 : sm_at lo hi (0, 10, 0) a0) (hf : f_mo_operateFan a0 a1 a2 h = some (r0, h')) : sm_Met l lo hi (d + 2) q_mo_operateFan [.ref a0, .int a1, .int a2] h (some (.int r0)) h' := by
  refine sm_Met.of (by decide +kernel) rfl ?_
  show sm_W l lo hi (d + 2) q_mo_operateFan 0 [(0, .ref a0), (1, .int a1), (2, .int a2)] [] h (some (.int r0)) h'
  unfold f_mo_operateFan at hf
  refine sm_aload_n 0 rfl d_mo_operateFan_0 ?_
  refine sm_aload_n 0 rfl d_mo_operateFan_1 ?_
  refine sm_iload_n 1 rfl d_mo_operateFan_2 ?_
  obtain ⟨r1, g2, c3, hf⟩ := sm_b2E hf
  refine sm_callV (As := [.int a1]) (rv := some (.int r1)) (h1 := g2) (c := 10) cvv_mo_443 rfl rfl e0 (m_mo_isFan l lo hi _ e0 c3) rfl rfl d_mo_operateFan_3 ?_
  refine sm_sipush (v := 154) (by decide) d_mo_operateFan_6 ?_
  refine sm_bipush (v := 6) (by decide) d_mo_operateFan_9 ?_
  refine sm_iload_n 1 rfl d_mo_operateFan_11 ?_
  refine sm_imul d_mo_operateFan_12 ?_
  refine sm_iadd d_mo_operateFan_13 ?_
  refine sm_iconst (v := 3) (by decide) d_mo_operateFan_14 ?_
  refine sm_iadd d_mo_operateFan_15 ?_
  refine sm_iload_n 2 rfl d_mo_operateFan_16 ?_
  obtain ⟨r4, g5, c6, hf⟩ := sm_b2E hf
  refine sm_callV (As := [.int r1, .int ((154 + (6 * a1)) + 3), .int a2]) (rv := some (.int r4)) (h1 := g5) (c := 10) cvv_mo_446 rfl rfl e0 (m_mo_set l lo hi _ e0 c6) rfl rfl d_mo_operateFan_17 ?_
  obtain ⟨rfl, rfl⟩ := sm_ret2 hf
  exact sm_iret d_mo_operateFan_20 rfl
theorem d_mo_reset_0 : decode q_mo_reset.2.1 0 = .ok (.iconst 0, 1) := by decide +kernel
theorem d_mo_reset_1 : decode q_mo_reset.2.1 1 = .ok (.istore_n 1, 1) := by decide +kernel
theorem d_mo_reset_2 : decode q_mo_reset.2.1 2 = .ok (.iload_n 1, 1) := by decide +kernel
theorem d_mo_reset_3 : decode q_mo_reset.2.1 3 = .ok (.aload_n 0, 1) := by decide +kernel
theorem d_mo_reset_4 : decode q_mo_reset.2.1 4 = .ok (.getfield 7, 3) := by decide +kernel
theorem d_mo_reset_7 : decode q_mo_reset.2.1 7 = .ok (.iconst 1, 1) := by decide +kernel
theorem d_mo_reset_8 : decode q_mo_reset.2.1 8 = .ok (.iaload, 1) := by decide +kernel
theorem d_mo_reset_9 : decode q_mo_reset.2.1 9 = .ok (.if_icmp .ge 24, 3) := by decide +kernel
theorem d_mo_reset_12 : decode q_mo_reset.2.1 12 = .ok (.aload_n 0, 1) := by decide +kernel
theorem d_mo_reset_13 : decode q_mo_reset.2.1 13 = .ok (.iload_n 1, 1) := by decide +kernel
theorem d_mo_reset_14 : decode q_mo_reset.2.1 14 = .ok (.iconst 5, 1) := by decide +kernel
theorem d_mo_reset_15 : decode q_mo_reset.2.1 15 = .ok (.iconst 0, 1) := by decide +kernel
theorem d_mo_reset_16 : decode q_mo_reset.2.1 16 = .ok (.invokevirtual 77, 3) := by decide +kernel
theorem d_mo_reset_19 : decode q_mo_reset.2.1 19 = .ok (.aload_n 0, 1) := by decide +kernel
theorem d_mo_reset_20 : decode q_mo_reset.2.1 20 = .ok (.iload_n 1, 1) := by decide +kernel
theorem d_mo_reset_21 : decode q_mo_reset.2.1 21 = .ok (.bipush 6, 2) := by decide +kernel
theorem d_mo_reset_23 : decode q_mo_reset.2.1 23 = .ok (.iconst 0, 1) := by decide +kernel
theorem d_mo_reset_24 : decode q_mo_reset.2.1 24 = .ok (.invokevirtual 77, 3) := by decide +kernel
theorem d_mo_reset_27 : decode q_mo_reset.2.1 27 = .ok (.iinc 1 1, 3) := by decide +kernel
theorem d_mo_reset_30 : decode q_mo_reset.2.1 30 = .ok (.goto (-28), 3) := by decide +kernel
theorem d_mo_reset_33 : decode q_mo_reset.2.1 33 = .ok (.iconst 0, 1) := by decide +kernel
theorem d_mo_reset_34 : decode q_mo_reset.2.1 34 = .ok (.istore_n 1, 1) := by decide +kernel
theorem d_mo_reset_35 : decode q_mo_reset.2.1 35 = .ok (.iload_n 1, 1) := by decide +kernel
theorem d_mo_reset_36 : decode q_mo_reset.2.1 36 = .ok (.aload_n 0, 1) := by decide +kernel
theorem d_mo_reset_37 : decode q_mo_reset.2.1 37 = .ok (.getfield 7, 3) := by decide +kernel
theorem d_mo_reset_40 : decode q_mo_reset.2.1 40 = .ok (.iconst 2, 1) := by decide +kernel
theorem d_mo_reset_41 : decode q_mo_reset.2.1 41 = .ok (.iaload, 1) := by decide +kernel
theorem d_mo_reset_42 : decode q_mo_reset.2.1 42 = .ok (.if_icmp .ge 23, 3) := by decide +kernel
theorem d_mo_reset_45 : decode q_mo_reset.2.1 45 = .ok (.aload_n 0, 1) := by decide +kernel
theorem d_mo_reset_46 : decode q_mo_reset.2.1 46 = .ok (.iload_n 1, 1) := by decide +kernel
theorem d_mo_reset_47 : decode q_mo_reset.2.1 47 = .ok (.iconst 4, 1) := by decide +kernel
theorem d_mo_reset_48 : decode q_mo_reset.2.1 48 = .ok (.iconst 0, 1) := by decide +kernel
theorem d_mo_reset_49 : decode q_mo_reset.2.1 49 = .ok (.invokevirtual 373, 3) := by decide +kernel
theorem d_mo_reset_52 : decode q_mo_reset.2.1 52 = .ok (.aload_n 0, 1) := by decide +kernel
theorem d_mo_reset_53 : decode q_mo_reset.2.1 53 = .ok (.iload_n 1, 1) := by decide +kernel
theorem d_mo_reset_54 : decode q_mo_reset.2.1 54 = .ok (.iconst 5, 1) := by decide +kernel
theorem d_mo_reset_55 : decode q_mo_reset.2.1 55 = .ok (.iconst 0, 1) := by decide +kernel
theorem d_mo_reset_56 : decode q_mo_reset.2.1 56 = .ok (.invokevirtual 373, 3) := by decide +kernel
theorem d_mo_reset_59 : decode q_mo_reset.2.1 59 = .ok (.iinc 1 1, 3) := by decide +kernel
theorem d_mo_reset_62 : decode q_mo_reset.2.1 62 = .ok (.goto (-27), 3) := by decide +kernel
theorem d_mo_reset_65 : decode q_mo_reset.2.1 65 = .ok (.aload_n 0, 1) := by decide +kernel
theorem d_mo_reset_66 : decode q_mo_reset.2.1 66 = .ok (.getfield 16, 3) := by decide +kernel
theorem d_mo_reset_69 : decode q_mo_reset.2.1 69 = .ok (.iconst 5, 1) := by decide +kernel
theorem d_mo_reset_70 : decode q_mo_reset.2.1 70 = .ok (.iconst 0, 1) := by decide +kernel
theorem d_mo_reset_71 : decode q_mo_reset.2.1 71 = .ok (.iastore, 1) := by decide +kernel
theorem d_mo_reset_72 : decode q_mo_reset.2.1 72 = .ok (.aload_n 0, 1) := by decide +kernel
theorem d_mo_reset_73 : decode q_mo_reset.2.1 73 = .ok (.getfield 16, 3) := by decide +kernel
theorem d_mo_reset_76 : decode q_mo_reset.2.1 76 = .ok (.bipush 6, 2) := by decide +kernel
theorem d_mo_reset_78 : decode q_mo_reset.2.1 78 = .ok (.iconst 0, 1) := by decide +kernel
theorem d_mo_reset_79 : decode q_mo_reset.2.1 79 = .ok (.iastore, 1) := by decide +kernel
theorem d_mo_reset_80 : decode q_mo_reset.2.1 80 = .ok (.iconst 0, 1) := by decide +kernel
theorem d_mo_reset_81 : decode q_mo_reset.2.1 81 = .ok (.istore_n 1, 1) := by decide +kernel
theorem d_mo_reset_82 : decode q_mo_reset.2.1 82 = .ok (.iconst (-1), 1) := by decide +kernel
theorem d_mo_reset_83 : decode q_mo_reset.2.1 83 = .ok (.istore_n 2, 1) := by decide +kernel
theorem d_mo_reset_84 : decode q_mo_reset.2.1 84 = .ok (.aload_n 0, 1) := by decide +kernel
theorem d_mo_reset_85 : decode q_mo_reset.2.1 85 = .ok (.getfield 7, 3) := by decide +kernel
theorem d_mo_reset_88 : decode q_mo_reset.2.1 88 = .ok (.iconst 0, 1) := by decide +kernel
theorem d_mo_reset_89 : decode q_mo_reset.2.1 89 = .ok (.iaload, 1) := by decide +kernel
theorem d_mo_reset_90 : decode q_mo_reset.2.1 90 = .ok (.iconst 1, 1) := by decide +kernel
theorem d_mo_reset_91 : decode q_mo_reset.2.1 91 = .ok (.isub, 1) := by decide +kernel
theorem d_mo_reset_92 : decode q_mo_reset.2.1 92 = .ok (.istore_n 3, 1) := by decide +kernel
theorem d_mo_reset_93 : decode q_mo_reset.2.1 93 = .ok (.iload_n 3, 1) := by decide +kernel
theorem d_mo_reset_94 : decode q_mo_reset.2.1 94 = .ok (.ifCond .lt 43, 3) := by decide +kernel
theorem d_mo_reset_97 : decode q_mo_reset.2.1 97 = .ok (.aload_n 0, 1) := by decide +kernel
theorem d_mo_reset_98 : decode q_mo_reset.2.1 98 = .ok (.iload_n 3, 1) := by decide +kernel
theorem d_mo_reset_99 : decode q_mo_reset.2.1 99 = .ok (.iconst 0, 1) := by decide +kernel
theorem d_mo_reset_100 : decode q_mo_reset.2.1 100 = .ok (.invokevirtual 314, 3) := by decide +kernel
theorem d_mo_reset_103 : decode q_mo_reset.2.1 103 = .ok (.bipush 100, 2) := by decide +kernel
theorem d_mo_reset_105 : decode q_mo_reset.2.1 105 = .ok (.if_icmp .ge 10, 3) := by decide +kernel
theorem d_mo_reset_108 : decode q_mo_reset.2.1 108 = .ok (.aload_n 0, 1) := by decide +kernel
theorem d_mo_reset_109 : decode q_mo_reset.2.1 109 = .ok (.iload_n 3, 1) := by decide +kernel
theorem d_mo_reset_110 : decode q_mo_reset.2.1 110 = .ok (.iconst 2, 1) := by decide +kernel
theorem d_mo_reset_111 : decode q_mo_reset.2.1 111 = .ok (.iconst 0, 1) := by decide +kernel
theorem d_mo_reset_112 : decode q_mo_reset.2.1 112 = .ok (.invokevirtual 400, 3) := by decide +kernel
theorem d_mo_reset_115 : decode q_mo_reset.2.1 115 = .ok (.aload_n 0, 1) := by decide +kernel
theorem d_mo_reset_116 : decode q_mo_reset.2.1 116 = .ok (.iload_n 3, 1) := by decide +kernel
theorem d_mo_reset_117 : decode q_mo_reset.2.1 117 = .ok (.iconst 2, 1) := by decide +kernel
theorem d_mo_reset_118 : decode q_mo_reset.2.1 118 = .ok (.invokevirtual 314, 3) := by decide +kernel
theorem d_mo_reset_121 : decode q_mo_reset.2.1 121 = .ok (.iconst 1, 1) := by decide +kernel
theorem d_mo_reset_122 : decode q_mo_reset.2.1 122 = .ok (.if_icmp .ne 9, 3) := by decide +kernel
theorem d_mo_reset_125 : decode q_mo_reset.2.1 125 = .ok (.iload_n 1, 1) := by decide +kernel
theorem d_mo_reset_126 : decode q_mo_reset.2.1 126 = .ok (.iconst 1, 1) := by decide +kernel
theorem d_mo_reset_127 : decode q_mo_reset.2.1 127 = .ok (.iadd, 1) := by decide +kernel
theorem d_mo_reset_128 : decode q_mo_reset.2.1 128 = .ok (.istore_n 1, 1) := by decide +kernel
theorem d_mo_reset_129 : decode q_mo_reset.2.1 129 = .ok (.iload_n 3, 1) := by decide +kernel
theorem d_mo_reset_130 : decode q_mo_reset.2.1 130 = .ok (.istore_n 2, 1) := by decide +kernel
theorem d_mo_reset_131 : decode q_mo_reset.2.1 131 = .ok (.iinc 3 (-1), 3) := by decide +kernel
theorem d_mo_reset_134 : decode q_mo_reset.2.1 134 = .ok (.goto (-41), 3) := by decide +kernel
theorem d_mo_reset_137 : decode q_mo_reset.2.1 137 = .ok (.aload_n 0, 1) := by decide +kernel
theorem d_mo_reset_138 : decode q_mo_reset.2.1 138 = .ok (.getfield 16, 3) := by decide +kernel
theorem d_mo_reset_141 : decode q_mo_reset.2.1 141 = .ok (.bipush 7, 2) := by decide +kernel
theorem d_mo_reset_143 : decode q_mo_reset.2.1 143 = .ok (.iaload, 1) := by decide +kernel
theorem d_mo_reset_144 : decode q_mo_reset.2.1 144 = .ok (.iconst (-1), 1) := by decide +kernel
theorem d_mo_reset_145 : decode q_mo_reset.2.1 145 = .ok (.if_icmp .eq 22, 3) := by decide +kernel
theorem d_mo_reset_148 : decode q_mo_reset.2.1 148 = .ok (.aload_n 0, 1) := by decide +kernel
theorem d_mo_reset_149 : decode q_mo_reset.2.1 149 = .ok (.aload_n 0, 1) := by decide +kernel
theorem d_mo_reset_150 : decode q_mo_reset.2.1 150 = .ok (.getfield 16, 3) := by decide +kernel
theorem d_mo_reset_153 : decode q_mo_reset.2.1 153 = .ok (.bipush 7, 2) := by decide +kernel
theorem d_mo_reset_155 : decode q_mo_reset.2.1 155 = .ok (.iaload, 1) := by decide +kernel
theorem d_mo_reset_156 : decode q_mo_reset.2.1 156 = .ok (.iconst 2, 1) := by decide +kernel
theorem d_mo_reset_157 : decode q_mo_reset.2.1 157 = .ok (.invokevirtual 314, 3) := by decide +kernel
theorem d_mo_reset_160 : decode q_mo_reset.2.1 160 = .ok (.ifCond .ne 7, 3) := by decide +kernel
theorem d_mo_reset_163 : decode q_mo_reset.2.1 163 = .ok (.iconst 1, 1) := by decide +kernel
theorem d_mo_reset_164 : decode q_mo_reset.2.1 164 = .ok (.goto 4, 3) := by decide +kernel
theorem d_mo_reset_167 : decode q_mo_reset.2.1 167 = .ok (.iconst 0, 1) := by decide +kernel
theorem d_mo_reset_168 : decode q_mo_reset.2.1 168 = .ok (.istore_n 3, 1) := by decide +kernel
theorem d_mo_reset_169 : decode q_mo_reset.2.1 169 = .ok (.iload_n 3, 1) := by decide +kernel
theorem d_mo_reset_170 : decode q_mo_reset.2.1 170 = .ok (.ifCond .eq 24, 3) := by decide +kernel
theorem d_mo_reset_173 : decode q_mo_reset.2.1 173 = .ok (.aload_n 0, 1) := by decide +kernel
theorem d_mo_reset_174 : decode q_mo_reset.2.1 174 = .ok (.getfield 16, 3) := by decide +kernel
theorem d_mo_reset_177 : decode q_mo_reset.2.1 177 = .ok (.bipush 7, 2) := by decide +kernel
theorem d_mo_reset_179 : decode q_mo_reset.2.1 179 = .ok (.iload_n 2, 1) := by decide +kernel
theorem d_mo_reset_180 : decode q_mo_reset.2.1 180 = .ok (.iastore, 1) := by decide +kernel
theorem d_mo_reset_181 : decode q_mo_reset.2.1 181 = .ok (.aload_n 0, 1) := by decide +kernel
theorem d_mo_reset_182 : decode q_mo_reset.2.1 182 = .ok (.getfield 16, 3) := by decide +kernel
theorem d_mo_reset_185 : decode q_mo_reset.2.1 185 = .ok (.bipush 8, 2) := by decide +kernel
theorem d_mo_reset_187 : decode q_mo_reset.2.1 187 = .ok (.aload_n 0, 1) := by decide +kernel
theorem d_mo_reset_188 : decode q_mo_reset.2.1 188 = .ok (.getfield 16, 3) := by decide +kernel
theorem d_mo_reset_191 : decode q_mo_reset.2.1 191 = .ok (.iconst 0, 1) := by decide +kernel
theorem d_mo_reset_192 : decode q_mo_reset.2.1 192 = .ok (.iaload, 1) := by decide +kernel
theorem d_mo_reset_193 : decode q_mo_reset.2.1 193 = .ok (.iastore, 1) := by decide +kernel
theorem d_mo_reset_194 : decode q_mo_reset.2.1 194 = .ok (.iload_n 1, 1) := by decide +kernel
theorem d_mo_reset_195 : decode q_mo_reset.2.1 195 = .ok (.ireturn, 1) := by decide +kernel
theorem w_mo_reset_L194 (l : Launch) (lo hi d : Nat) {h' : sm_H} {r0 : Int32} (a1 : Int32) (h : sm_H) (hf : f_mo_reset_L194 a1 h = some (r0, h')) : sm_W l lo hi (d + 1) q_mo_reset 194 [(1, .int a1)] [] h (some (.int r0)) h' := by
  unfold f_mo_reset_L194 at hf
  refine sm_iload_n 0 rfl d_mo_reset_194 ?_
  obtain ⟨rfl, rfl⟩ := sm_ret2 hf
  exact sm_iret d_mo_reset_195 rfl
theorem w_mo_reset_L168 (l : Launch) (lo hi d : Nat) {h' : sm_H} {r0 : Int32} (a0 : Nat) (a1 : Int32) (a2 : Int32) (s0 : Int32) (h : sm_H) (e0 : sm_at lo hi (0, 10, 0) a0) (hf : f_mo_reset_L168 a0 a1 a2 s0 h = some (r0, h')) : sm_W l lo hi (d + 1) q_mo_reset 168 [(0, .ref a0), (1, .int a1), (2, .int a2)] [.int s0] h (some (.int r0)) h' := by
  unfold f_mo_reset_L168 at hf
  refine sm_istore_n (lv' := [(3, .int s0), (0, .ref a0), (1, .int a1), (2, .int a2)]) d_mo_reset_168 rfl rfl ?_
  refine sm_iload_n 0 rfl d_mo_reset_169 ?_
  refine sm_if_eq 194 d_mo_reset_170 rfl (fun c48 => ?_) (fun c48 => ?_)
  · have hf := sm_ifT c48 hf
    refine sm_sub [2] rfl ?_
    exact w_mo_reset_L194 l lo hi d _ _ hf
  · have hf := sm_ifF c48 hf
    refine sm_aload_n 1 rfl d_mo_reset_173 ?_
    refine sm_getR (n := 3) fl_mo_16 e0 rfl d_mo_reset_174 ?_
    refine sm_bipush (v := 7) (by decide) d_mo_reset_177 ?_
    refine sm_iload_n 3 rfl d_mo_reset_179 ?_
    obtain ⟨c49, hf⟩ := sm_gdE hf
    refine sm_iast (sm_at_arr (sm_inner e0 2 rfl rfl rfl)) c49 d_mo_reset_180 ?_
    refine sm_nmH (fun g50 w51 => ?_)
    have hf := sm_letV w51 hf
    refine sm_aload_n 1 rfl d_mo_reset_181 ?_
    refine sm_getR (n := 3) fl_mo_16 e0 rfl d_mo_reset_182 ?_
    refine sm_bipush (v := 8) (by decide) d_mo_reset_185 ?_
    refine sm_aload_n 1 rfl d_mo_reset_187 ?_
    refine sm_getR (n := 3) fl_mo_16 e0 rfl d_mo_reset_188 ?_
    refine sm_iconst (v := 0) (by decide) d_mo_reset_191 ?_
    obtain ⟨c52, hf⟩ := sm_gdE hf
    refine sm_iald (sm_at_arr (sm_inner e0 2 rfl rfl rfl)) c52 d_mo_reset_192 ?_
    obtain ⟨c53, hf⟩ := sm_gdE hf
    refine sm_iast (sm_at_arr (sm_inner e0 2 rfl rfl rfl)) c53 d_mo_reset_193 ?_
    refine sm_nmH (fun g54 w55 => ?_)
    have hf := sm_letV w55 hf
    refine sm_sub [2] rfl ?_
    exact w_mo_reset_L194 l lo hi d _ _ hf
theorem w_mo_reset_L167 (l : Launch) (lo hi d : Nat) {h' : sm_H} {r0 : Int32} (a0 : Nat) (a1 : Int32) (a2 : Int32) (h : sm_H) (e0 : sm_at lo hi (0, 10, 0) a0) (hf : f_mo_reset_L167 a0 a1 a2 h = some (r0, h')) : sm_W l lo hi (d + 1) q_mo_reset 167 [(0, .ref a0), (1, .int a1), (2, .int a2)] [] h (some (.int r0)) h' := by
  unfold f_mo_reset_L167 at hf
  refine sm_iconst (v := 0) (by decide) d_mo_reset_167 ?_
  exact w_mo_reset_L168 l lo hi d _ _ _ _ _ e0 hf
theorem w_mo_reset_L137 (l : Launch) (lo hi d : Nat) {h' : sm_H} {r0 : Int32} (a0 : Nat) (a1 : Int32) (a2 : Int32) (h : sm_H) (e0 : sm_at lo hi (0, 10, 0) a0) (hf : f_mo_reset_L137 a0 a1 a2 h = some (r0, h')) : sm_W l lo hi (d + 1) q_mo_reset 137 [(0, .ref a0), (1, .int a1), (2, .int a2)] [] h (some (.int r0)) h' := by
  unfold f_mo_reset_L137 at hf
  refine sm_aload_n 0 rfl d_mo_reset_137 ?_
  refine sm_getR (n := 3) fl_mo_16 e0 rfl d_mo_reset_138 ?_
  refine sm_bipush (v := 7) (by decide) d_mo_reset_141 ?_
  obtain ⟨c41, hf⟩ := sm_gdE hf
  refine sm_iald (sm_at_arr (sm_inner e0 2 rfl rfl rfl)) c41 d_mo_reset_143 ?_
  refine sm_iconst (v := (-1)) (by decide) d_mo_reset_144 ?_
  refine sm_icmp_eq 167 d_mo_reset_145 rfl (fun c42 => ?_) (fun c42 => ?_)
  · have hf := sm_ifT c42 hf
    exact w_mo_reset_L167 l lo hi d _ _ _ _ e0 hf
  · have hf := sm_ifF c42 hf
    refine sm_aload_n 0 rfl d_mo_reset_148 ?_
    refine sm_aload_n 0 rfl d_mo_reset_149 ?_
    refine sm_getR (n := 3) fl_mo_16 e0 rfl d_mo_reset_150 ?_
    refine sm_bipush (v := 7) (by decide) d_mo_reset_153 ?_
    obtain ⟨c43, hf⟩ := sm_gdE hf
    refine sm_iald (sm_at_arr (sm_inner e0 2 rfl rfl rfl)) c43 d_mo_reset_155 ?_
    refine sm_iconst (v := 2) (by decide) d_mo_reset_156 ?_
    obtain ⟨r44, g45, c46, hf⟩ := sm_b2E hf
    refine sm_callV (As := [.int (h (a0 + 3) (7 : Int32).toNatClampNeg), .int 2]) (rv := some (.int r44)) (h1 := g45) (c := 10) cvv_mo_314 rfl rfl e0 (m_mo_zoneIs l lo hi _ e0 c46) rfl rfl d_mo_reset_157 ?_
    refine sm_if_ne 167 d_mo_reset_160 rfl (fun c47 => ?_) (fun c47 => ?_)
    · have hf := sm_ifF c47 hf
      exact w_mo_reset_L167 l lo hi d _ _ _ _ e0 hf
    · have hf := sm_ifT c47 hf
      refine sm_iconst (v := 1) (by decide) d_mo_reset_163 ?_
      refine sm_goto 168 d_mo_reset_164 rfl ?_
      exact w_mo_reset_L168 l lo hi d _ _ _ _ _ e0 hf
theorem w_mo_reset_L131 (l : Launch) (lo hi d : Nat) {k93 : Nat → Int32 → Int32 → Int32 → sm_H → Option (Int32 × sm_H)} {h' : sm_H} {r0 : Int32} (hk93 : ∀ (a0 : Nat) (a1 : Int32) (a2 : Int32) (a3 : Int32) (h : sm_H) (_ : sm_at lo hi (0, 10, 0) a0) , k93 a0 a1 a2 a3 h = some (r0, h') → sm_W l lo hi (d + 1) q_mo_reset 93 [(0, .ref a0), (1, .int a1), (2, .int a2), (3, .int a3)] [] h (some (.int r0)) h') (a0 : Nat) (a1 : Int32) (a2 : Int32) (a3 : Int32) (h : sm_H) (e0 : sm_at lo hi (0, 10, 0) a0) (hf : f_mo_reset_L131 k93 a0 a1 a2 a3 h = some (r0, h')) : sm_W l lo hi (d + 1) q_mo_reset 131 [(0, .ref a0), (1, .int a1), (2, .int a2), (3, .int a3)] [] h (some (.int r0)) h' := by
  unfold f_mo_reset_L131 at hf
  obtain ⟨x39, w40⟩ : ∃ v : Int32, v = a3 + (-1) := ⟨_, rfl⟩
  have hf := sm_letV w40 hf
  refine sm_iinc (v := x39) (lv' := [(3, .int x39), (0, .ref a0), (1, .int a1), (2, .int a2)]) 3 rfl (by rw [w40]; rfl) d_mo_reset_131 rfl rfl ?_
  refine sm_goto 93 d_mo_reset_134 rfl ?_
  refine sm_sub [1, 2, 3, 0] rfl ?_
  exact hk93 _ _ _ _ _ e0 hf
theorem w_mo_reset_L115 (l : Launch) (lo hi d : Nat) {k93 : Nat → Int32 → Int32 → Int32 → sm_H → Option (Int32 × sm_H)} {h' : sm_H} {r0 : Int32} (hk93 : ∀ (a0 : Nat) (a1 : Int32) (a2 : Int32) (a3 : Int32) (h : sm_H) (_ : sm_at lo hi (0, 10, 0) a0) , k93 a0 a1 a2 a3 h = some (r0, h') → sm_W l lo hi (d + 1) q_mo_reset 93 [(0, .ref a0), (1, .int a1), (2, .int a2), (3, .int a3)] [] h (some (.int r0)) h') (a0 : Nat) (a1 : Int32) (a2 : Int32) (a3 : Int32) (h : sm_H) (e0 : sm_at lo hi (0, 10, 0) a0) (hf : f_mo_reset_L115 k93 a0 a1 a2 a3 h = some (r0, h')) : sm_W l lo hi (d + 1) q_mo_reset 115 [(0, .ref a0), (1, .int a1), (2, .int a2), (3, .int a3)] [] h (some (.int r0)) h' := by
  unfold f_mo_reset_L115 at hf
  refine sm_aload_n 0 rfl d_mo_reset_115 ?_
  refine sm_iload_n 3 rfl d_mo_reset_116 ?_
  refine sm_iconst (v := 2) (by decide) d_mo_reset_117 ?_
  obtain ⟨r33, g34, c35, hf⟩ := sm_b2E hf
  refine sm_callV (As := [.int a3, .int 2]) (rv := some (.int r33)) (h1 := g34) (c := 10) cvv_mo_314 rfl rfl e0 (m_mo_zoneIs l lo hi _ e0 c35) rfl rfl d_mo_reset_118 ?_
  refine sm_iconst (v := 1) (by decide) d_mo_reset_121 ?_
  refine sm_icmp_ne 131 d_mo_reset_122 rfl (fun c36 => ?_) (fun c36 => ?_)
  · have hf := sm_ifF c36 hf
    exact w_mo_reset_L131 l lo hi d hk93 _ _ _ _ _ e0 hf
  · have hf := sm_ifT c36 hf
    refine sm_iload_n 1 rfl d_mo_reset_125 ?_
    refine sm_iconst (v := 1) (by decide) d_mo_reset_126 ?_
    refine sm_iadd d_mo_reset_127 ?_
    refine sm_nmI (fun x37 w38 => ?_)
    have hf := sm_letV w38 hf
    refine sm_istore_n (lv' := [(1, .int x37), (0, .ref a0), (2, .int a2), (3, .int a3)]) d_mo_reset_128 rfl rfl ?_
    refine sm_iload_n 3 rfl d_mo_reset_129 ?_
    refine sm_istore_n (lv' := [(2, .int a3), (1, .int x37), (0, .ref a0), (3, .int a3)]) d_mo_reset_130 rfl rfl ?_
    refine sm_sub [2, 1, 0, 3] rfl ?_
    exact w_mo_reset_L131 l lo hi d hk93 _ _ _ _ _ e0 hf
theorem w_mo_reset_L93 (l : Launch) (lo hi d : Nat) {h' : sm_H} {r0 : Int32} : ∀ (n : Nat) (a0 : Nat) (a1 : Int32) (a2 : Int32) (a3 : Int32) (h : sm_H) (e0 : sm_at lo hi (0, 10, 0) a0) (hf : f_mo_reset_L93 n a0 a1 a2 a3 h = some (r0, h')), sm_W l lo hi (d + 1) q_mo_reset 93 [(0, .ref a0), (1, .int a1), (2, .int a2), (3, .int a3)] [] h (some (.int r0)) h' := by
  intro n
  induction n with
  | zero =>
    intro a0 a1 a2 a3 h e0 hf
    have z : (none : Option (Int32 × sm_H)) = some _ := hf
    cases z
  | succ n ih =>
    intro a0 a1 a2 a3 h e0 hf
    unfold f_mo_reset_L93 at hf
    refine sm_iload_n 3 rfl d_mo_reset_93 ?_
    refine sm_if_lt 137 d_mo_reset_94 rfl (fun c26 => ?_) (fun c26 => ?_)
    · have hf := sm_ifT c26 hf
      refine sm_sub [0, 1, 2] rfl ?_
      exact w_mo_reset_L137 l lo hi d _ _ _ _ e0 hf
    · have hf := sm_ifF c26 hf
      refine sm_aload_n 0 rfl d_mo_reset_97 ?_
      refine sm_iload_n 3 rfl d_mo_reset_98 ?_
      refine sm_iconst (v := 0) (by decide) d_mo_reset_99 ?_
      obtain ⟨r27, g28, c29, hf⟩ := sm_b2E hf
      refine sm_callV (As := [.int a3, .int 0]) (rv := some (.int r27)) (h1 := g28) (c := 10) cvv_mo_314 rfl rfl e0 (m_mo_zoneIs l lo hi _ e0 c29) rfl rfl d_mo_reset_100 ?_
      refine sm_bipush (v := 100) (by decide) d_mo_reset_103 ?_
      refine sm_icmp_ge 115 d_mo_reset_105 rfl (fun c30 => ?_) (fun c30 => ?_)
      · have hf := sm_ifT c30 hf
        exact w_mo_reset_L115 l lo hi d ih _ _ _ _ _ e0 hf
      · have hf := sm_ifF c30 hf
        refine sm_aload_n 0 rfl d_mo_reset_108 ?_
        refine sm_iload_n 3 rfl d_mo_reset_109 ?_
        refine sm_iconst (v := 2) (by decide) d_mo_reset_110 ?_
        refine sm_iconst (v := 0) (by decide) d_mo_reset_111 ?_
        obtain ⟨g31, c32, hf⟩ := sm_bindE hf
        refine sm_callV (As := [.int a3, .int 2, .int 0]) (rv := none) (h1 := g31) (c := 10) cvv_mo_400 rfl rfl e0 (m_mo_putZone l lo hi _ e0 c32) rfl rfl d_mo_reset_112 ?_
        exact w_mo_reset_L115 l lo hi d ih _ _ _ _ _ e0 hf
theorem w_mo_reset_L65 (l : Launch) (lo hi d : Nat) {h' : sm_H} {r0 : Int32} (a0 : Nat) (h : sm_H) (e0 : sm_at lo hi (0, 10, 0) a0) (hf : f_mo_reset_L65 a0 h = some (r0, h')) : sm_W l lo hi (d + 1) q_mo_reset 65 [(0, .ref a0)] [] h (some (.int r0)) h' := by
  unfold f_mo_reset_L65 at hf
  refine sm_aload_n 0 rfl d_mo_reset_65 ?_
  refine sm_getR (n := 3) fl_mo_16 e0 rfl d_mo_reset_66 ?_
  refine sm_iconst (v := 5) (by decide) d_mo_reset_69 ?_
  refine sm_iconst (v := 0) (by decide) d_mo_reset_70 ?_
  obtain ⟨c17, hf⟩ := sm_gdE hf
  refine sm_iast (sm_at_arr (sm_inner e0 2 rfl rfl rfl)) c17 d_mo_reset_71 ?_
  refine sm_nmH (fun g18 w19 => ?_)
  have hf := sm_letV w19 hf
  refine sm_aload_n 0 rfl d_mo_reset_72 ?_
  refine sm_getR (n := 3) fl_mo_16 e0 rfl d_mo_reset_73 ?_
  refine sm_bipush (v := 6) (by decide) d_mo_reset_76 ?_
  refine sm_iconst (v := 0) (by decide) d_mo_reset_78 ?_
  obtain ⟨c20, hf⟩ := sm_gdE hf
  refine sm_iast (sm_at_arr (sm_inner e0 2 rfl rfl rfl)) c20 d_mo_reset_79 ?_
  refine sm_nmH (fun g21 w22 => ?_)
  have hf := sm_letV w22 hf
  refine sm_iconst (v := 0) (by decide) d_mo_reset_80 ?_
  refine sm_istore_n (lv' := [(1, .int 0), (0, .ref a0)]) d_mo_reset_81 rfl rfl ?_
  refine sm_iconst (v := (-1)) (by decide) d_mo_reset_82 ?_
  refine sm_istore_n (lv' := [(2, .int (-1)), (1, .int 0), (0, .ref a0)]) d_mo_reset_83 rfl rfl ?_
  refine sm_aload_n 2 rfl d_mo_reset_84 ?_
  refine sm_getR (n := 1) fl_mo_7 e0 rfl d_mo_reset_85 ?_
  refine sm_iconst (v := 0) (by decide) d_mo_reset_88 ?_
  obtain ⟨c23, hf⟩ := sm_gdE hf
  refine sm_iald (sm_at_arr (sm_inner e0 0 rfl rfl rfl)) c23 d_mo_reset_89 ?_
  refine sm_iconst (v := 1) (by decide) d_mo_reset_90 ?_
  refine sm_isub d_mo_reset_91 ?_
  refine sm_nmI (fun x24 w25 => ?_)
  have hf := sm_letV w25 hf
  refine sm_istore_n (lv' := [(3, .int x24), (2, .int (-1)), (1, .int 0), (0, .ref a0)]) d_mo_reset_92 rfl rfl ?_
  refine sm_sub [3, 2, 1, 0] rfl ?_
  exact w_mo_reset_L93 l lo hi d sm_N _ _ _ _ _ e0 hf
theorem w_mo_reset_L35 (l : Launch) (lo hi d : Nat) {h' : sm_H} {r0 : Int32} : ∀ (n : Nat) (a0 : Nat) (a1 : Int32) (h : sm_H) (e0 : sm_at lo hi (0, 10, 0) a0) (hf : f_mo_reset_L35 n a0 a1 h = some (r0, h')), sm_W l lo hi (d + 1) q_mo_reset 35 [(0, .ref a0), (1, .int a1)] [] h (some (.int r0)) h' := by
  intro n
  induction n with
  | zero =>
    intro a0 a1 h e0 hf
    have z : (none : Option (Int32 × sm_H)) = some _ := hf
    cases z
  | succ n ih =>
    intro a0 a1 h e0 hf
    unfold f_mo_reset_L35 at hf
    refine sm_iload_n 1 rfl d_mo_reset_35 ?_
    refine sm_aload_n 0 rfl d_mo_reset_36 ?_
    refine sm_getR (n := 1) fl_mo_7 e0 rfl d_mo_reset_37 ?_
    refine sm_iconst (v := 2) (by decide) d_mo_reset_40 ?_
    obtain ⟨c9, hf⟩ := sm_gdE hf
    refine sm_iald (sm_at_arr (sm_inner e0 0 rfl rfl rfl)) c9 d_mo_reset_41 ?_
    refine sm_icmp_ge 65 d_mo_reset_42 rfl (fun c10 => ?_) (fun c10 => ?_)
    · have hf := sm_ifT c10 hf
      refine sm_sub [0] rfl ?_
      exact w_mo_reset_L65 l lo hi d _ _ e0 hf
    · have hf := sm_ifF c10 hf
      refine sm_aload_n 0 rfl d_mo_reset_45 ?_
      refine sm_iload_n 1 rfl d_mo_reset_46 ?_
      refine sm_iconst (v := 4) (by decide) d_mo_reset_47 ?_
      refine sm_iconst (v := 0) (by decide) d_mo_reset_48 ?_
      obtain ⟨g11, c12, hf⟩ := sm_bindE hf
      refine sm_callV (As := [.int a1, .int 4, .int 0]) (rv := none) (h1 := g11) (c := 10) cvv_mo_373 rfl rfl e0 (m_mo_putFan l lo hi _ e0 c12) rfl rfl d_mo_reset_49 ?_
      refine sm_aload_n 0 rfl d_mo_reset_52 ?_
      refine sm_iload_n 1 rfl d_mo_reset_53 ?_
      refine sm_iconst (v := 5) (by decide) d_mo_reset_54 ?_
      refine sm_iconst (v := 0) (by decide) d_mo_reset_55 ?_
      obtain ⟨g13, c14, hf⟩ := sm_bindE hf
      refine sm_callV (As := [.int a1, .int 5, .int 0]) (rv := none) (h1 := g13) (c := 10) cvv_mo_373 rfl rfl e0 (m_mo_putFan l lo hi _ e0 c14) rfl rfl d_mo_reset_56 ?_
      obtain ⟨x15, w16⟩ : ∃ v : Int32, v = a1 + 1 := ⟨_, rfl⟩
      have hf := sm_letV w16 hf
      refine sm_iinc (v := x15) (lv' := [(1, .int x15), (0, .ref a0)]) 1 rfl (by rw [w16]; rfl) d_mo_reset_59 rfl rfl ?_
      refine sm_goto 35 d_mo_reset_62 rfl ?_
      refine sm_sub [1, 0] rfl ?_
      exact ih _ _ _ e0 hf
theorem w_mo_reset_L33 (l : Launch) (lo hi d : Nat) {h' : sm_H} {r0 : Int32} (a0 : Nat) (h : sm_H) (e0 : sm_at lo hi (0, 10, 0) a0) (hf : f_mo_reset_L33 a0 h = some (r0, h')) : sm_W l lo hi (d + 1) q_mo_reset 33 [(0, .ref a0)] [] h (some (.int r0)) h' := by
  unfold f_mo_reset_L33 at hf
  refine sm_iconst (v := 0) (by decide) d_mo_reset_33 ?_
  refine sm_istore_n (lv' := [(1, .int 0), (0, .ref a0)]) d_mo_reset_34 rfl rfl ?_
  refine sm_sub [1, 0] rfl ?_
  exact w_mo_reset_L35 l lo hi d sm_N _ _ _ e0 hf
theorem w_mo_reset_L2 (l : Launch) (lo hi d : Nat) {h' : sm_H} {r0 : Int32} : ∀ (n : Nat) (a0 : Nat) (a1 : Int32) (h : sm_H) (e0 : sm_at lo hi (0, 10, 0) a0) (hf : f_mo_reset_L2 n a0 a1 h = some (r0, h')), sm_W l lo hi (d + 1) q_mo_reset 2 [(0, .ref a0), (1, .int a1)] [] h (some (.int r0)) h' := by
  intro n
  induction n with
  | zero =>
    intro a0 a1 h e0 hf
    have z : (none : Option (Int32 × sm_H)) = some _ := hf
    cases z
  | succ n ih =>
    intro a0 a1 h e0 hf
    unfold f_mo_reset_L2 at hf
    refine sm_iload_n 1 rfl d_mo_reset_2 ?_
    refine sm_aload_n 0 rfl d_mo_reset_3 ?_
    refine sm_getR (n := 1) fl_mo_7 e0 rfl d_mo_reset_4 ?_
    refine sm_iconst (v := 1) (by decide) d_mo_reset_7 ?_
    obtain ⟨c1, hf⟩ := sm_gdE hf
    refine sm_iald (sm_at_arr (sm_inner e0 0 rfl rfl rfl)) c1 d_mo_reset_8 ?_
    refine sm_icmp_ge 33 d_mo_reset_9 rfl (fun c2 => ?_) (fun c2 => ?_)
    · have hf := sm_ifT c2 hf
      refine sm_sub [0] rfl ?_
      exact w_mo_reset_L33 l lo hi d _ _ e0 hf
    · have hf := sm_ifF c2 hf
      refine sm_aload_n 0 rfl d_mo_reset_12 ?_
      refine sm_iload_n 1 rfl d_mo_reset_13 ?_
      refine sm_iconst (v := 5) (by decide) d_mo_reset_14 ?_
      refine sm_iconst (v := 0) (by decide) d_mo_reset_15 ?_
      obtain ⟨g3, c4, hf⟩ := sm_bindE hf
      refine sm_callV (As := [.int a1, .int 5, .int 0]) (rv := none) (h1 := g3) (c := 10) cvv_mo_77 rfl rfl e0 (m_mo_put l lo hi _ e0 c4) rfl rfl d_mo_reset_16 ?_
      refine sm_aload_n 0 rfl d_mo_reset_19 ?_
      refine sm_iload_n 1 rfl d_mo_reset_20 ?_
      refine sm_bipush (v := 6) (by decide) d_mo_reset_21 ?_
      refine sm_iconst (v := 0) (by decide) d_mo_reset_23 ?_
      obtain ⟨g5, c6, hf⟩ := sm_bindE hf
      refine sm_callV (As := [.int a1, .int 6, .int 0]) (rv := none) (h1 := g5) (c := 10) cvv_mo_77 rfl rfl e0 (m_mo_put l lo hi _ e0 c6) rfl rfl d_mo_reset_24 ?_
      obtain ⟨x7, w8⟩ : ∃ v : Int32, v = a1 + 1 := ⟨_, rfl⟩
      have hf := sm_letV w8 hf
      refine sm_iinc (v := x7) (lv' := [(1, .int x7), (0, .ref a0)]) 1 rfl (by rw [w8]; rfl) d_mo_reset_27 rfl rfl ?_
      refine sm_goto 2 d_mo_reset_30 rfl ?_
      refine sm_sub [1, 0] rfl ?_
      exact ih _ _ _ e0 hf
theorem m_mo_reset (l : Launch) (lo hi d : Nat) {a0 : Nat} {r0 : Int32} {h h' : sm_H} (e0 : sm_at lo hi (0, 10, 0) a0) (hf : f_mo_reset a0 h = some (r0, h')) : sm_Met l lo hi (d + 1) q_mo_reset [.ref a0] h (some (.int r0)) h' := by
  refine sm_Met.of (by decide +kernel) rfl ?_
  show sm_W l lo hi (d + 1) q_mo_reset 0 [(0, .ref a0)] [] h (some (.int r0)) h'
  unfold f_mo_reset at hf
  refine sm_iconst (v := 0) (by decide) d_mo_reset_0 ?_
  refine sm_istore_n (lv' := [(1, .int 0), (0, .ref a0)]) d_mo_reset_1 rfl rfl ?_
  refine sm_sub [1, 0] rfl ?_
  exact w_mo_reset_L2 l lo hi d sm_N _ _ _ e0 hf
theorem d_mo_time_0 : decode q_mo_time.2.1 0 = .ok (.aload_n 0, 1) := by decide +kernel
theorem d_mo_time_1 : decode q_mo_time.2.1 1 = .ok (.getfield 16, 3) := by decide +kernel
theorem d_mo_time_4 : decode q_mo_time.2.1 4 = .ok (.iconst 0, 1) := by decide +kernel
theorem d_mo_time_5 : decode q_mo_time.2.1 5 = .ok (.iaload, 1) := by decide +kernel
theorem d_mo_time_6 : decode q_mo_time.2.1 6 = .ok (.ireturn, 1) := by decide +kernel
theorem m_mo_time (l : Launch) (lo hi d : Nat) {a0 : Nat} {r0 : Int32} {h h' : sm_H} (e0 : sm_at lo hi (0, 10, 0) a0) (hf : f_mo_time a0 h = some (r0, h')) : sm_Met l lo hi (d) q_mo_time [.ref a0] h (some (.int r0)) h' := by
  refine sm_Met.of (by decide +kernel) rfl ?_
  show sm_W l lo hi (d) q_mo_time 0 [(0, .ref a0)] [] h (some (.int r0)) h'
  unfold f_mo_time at hf
  refine sm_aload_n 0 rfl d_mo_time_0 ?_
  refine sm_getR (n := 3) fl_mo_16 e0 rfl d_mo_time_1 ?_
  refine sm_iconst (v := 0) (by decide) d_mo_time_4 ?_
  obtain ⟨c1, hf⟩ := sm_gdE hf
  refine sm_iald (sm_at_arr (sm_inner e0 2 rfl rfl rfl)) c1 d_mo_time_5 ?_
  obtain ⟨rfl, rfl⟩ := sm_ret2 hf
  exact sm_iret d_mo_time_6 rfl
theorem d_mo_smoke_0 : decode q_mo_smoke.2.1 0 = .ok (.aload_n 0, 1) := by decide +kernel
theorem d_mo_smoke_1 : decode q_mo_smoke.2.1 1 = .ok (.iload_n 1, 1) := by decide +kernel
theorem d_mo_smoke_2 : decode q_mo_smoke.2.1 2 = .ok (.invokevirtual 430, 3) := by decide +kernel
theorem d_mo_smoke_5 : decode q_mo_smoke.2.1 5 = .ok (.ifCond .eq 12, 3) := by decide +kernel
theorem d_mo_smoke_8 : decode q_mo_smoke.2.1 8 = .ok (.aload_n 0, 1) := by decide +kernel
theorem d_mo_smoke_9 : decode q_mo_smoke.2.1 9 = .ok (.iload_n 1, 1) := by decide +kernel
theorem d_mo_smoke_10 : decode q_mo_smoke.2.1 10 = .ok (.iconst 0, 1) := by decide +kernel
theorem d_mo_smoke_11 : decode q_mo_smoke.2.1 11 = .ok (.invokevirtual 314, 3) := by decide +kernel
theorem d_mo_smoke_14 : decode q_mo_smoke.2.1 14 = .ok (.goto 4, 3) := by decide +kernel
theorem d_mo_smoke_17 : decode q_mo_smoke.2.1 17 = .ok (.iconst (-1), 1) := by decide +kernel
theorem d_mo_smoke_18 : decode q_mo_smoke.2.1 18 = .ok (.ireturn, 1) := by decide +kernel
theorem w_mo_smoke_L18 (l : Launch) (lo hi d : Nat) {h' : sm_H} {r0 : Int32} (s0 : Int32) (h : sm_H) (hf : f_mo_smoke_L18 s0 h = some (r0, h')) : sm_W l lo hi (d + 2) q_mo_smoke 18 [] [.int s0] h (some (.int r0)) h' := by
  unfold f_mo_smoke_L18 at hf
  obtain ⟨rfl, rfl⟩ := sm_ret2 hf
  exact sm_iret d_mo_smoke_18 rfl
theorem m_mo_smoke (l : Launch) (lo hi d : Nat) {a0 : Nat} {a1 : Int32} {r0 : Int32} {h h' : sm_H} (e0 : sm_at lo hi (0, 10, 0) a0) (hf : f_mo_smoke a0 a1 h = some (r0, h')) : sm_Met l lo hi (d + 2) q_mo_smoke [.ref a0, .int a1] h (some (.int r0)) h' := by
  refine sm_Met.of (by decide +kernel) rfl ?_
  show sm_W l lo hi (d + 2) q_mo_smoke 0 [(0, .ref a0), (1, .int a1)] [] h (some (.int r0)) h'
  unfold f_mo_smoke at hf
  refine sm_aload_n 0 rfl d_mo_smoke_0 ?_
  refine sm_iload_n 1 rfl d_mo_smoke_1 ?_
  obtain ⟨r1, g2, c3, hf⟩ := sm_b2E hf
  refine sm_callV (As := [.int a1]) (rv := some (.int r1)) (h1 := g2) (c := 10) cvv_mo_430 rfl rfl e0 (m_mo_isZone l lo hi _ e0 c3) rfl rfl d_mo_smoke_2 ?_
  refine sm_if_eq 17 d_mo_smoke_5 rfl (fun c4 => ?_) (fun c4 => ?_)
  · have hf := sm_ifT c4 hf
    refine sm_iconst (v := (-1)) (by decide) d_mo_smoke_17 ?_
    refine sm_sub [] rfl ?_
    exact w_mo_smoke_L18 l lo hi d _ _ hf
  · have hf := sm_ifF c4 hf
    refine sm_aload_n 0 rfl d_mo_smoke_8 ?_
    refine sm_iload_n 1 rfl d_mo_smoke_9 ?_
    refine sm_iconst (v := 0) (by decide) d_mo_smoke_10 ?_
    obtain ⟨r5, g6, c7, hf⟩ := sm_b2E hf
    refine sm_callV (As := [.int a1, .int 0]) (rv := some (.int r5)) (h1 := g6) (c := 10) cvv_mo_314 rfl rfl e0 (m_mo_zoneIs l lo hi _ e0 c7) rfl rfl d_mo_smoke_11 ?_
    refine sm_goto 18 d_mo_smoke_14 rfl ?_
    refine sm_sub [] rfl ?_
    exact w_mo_smoke_L18 l lo hi d _ _ hf
theorem d_mo_stair_0 : decode q_mo_stair.2.1 0 = .ok (.iload_n 1, 1) := by decide +kernel
theorem d_mo_stair_1 : decode q_mo_stair.2.1 1 = .ok (.tableswitch 82 0 5 #[39, 46, 53, 60, 69, 74], 39) := by decide +kernel
theorem d_mo_stair_40 : decode q_mo_stair.2.1 40 = .ok (.aload_n 0, 1) := by decide +kernel
theorem d_mo_stair_41 : decode q_mo_stair.2.1 41 = .ok (.getfield 16, 3) := by decide +kernel
theorem d_mo_stair_44 : decode q_mo_stair.2.1 44 = .ok (.iconst 3, 1) := by decide +kernel
theorem d_mo_stair_45 : decode q_mo_stair.2.1 45 = .ok (.iaload, 1) := by decide +kernel
theorem d_mo_stair_46 : decode q_mo_stair.2.1 46 = .ok (.ireturn, 1) := by decide +kernel
theorem d_mo_stair_47 : decode q_mo_stair.2.1 47 = .ok (.aload_n 0, 1) := by decide +kernel
theorem d_mo_stair_48 : decode q_mo_stair.2.1 48 = .ok (.getfield 16, 3) := by decide +kernel
theorem d_mo_stair_51 : decode q_mo_stair.2.1 51 = .ok (.iconst 2, 1) := by decide +kernel
theorem d_mo_stair_52 : decode q_mo_stair.2.1 52 = .ok (.iaload, 1) := by decide +kernel
theorem d_mo_stair_53 : decode q_mo_stair.2.1 53 = .ok (.ireturn, 1) := by decide +kernel
theorem d_mo_stair_54 : decode q_mo_stair.2.1 54 = .ok (.aload_n 0, 1) := by decide +kernel
theorem d_mo_stair_55 : decode q_mo_stair.2.1 55 = .ok (.getfield 16, 3) := by decide +kernel
theorem d_mo_stair_58 : decode q_mo_stair.2.1 58 = .ok (.iconst 4, 1) := by decide +kernel
theorem d_mo_stair_59 : decode q_mo_stair.2.1 59 = .ok (.iaload, 1) := by decide +kernel
theorem d_mo_stair_60 : decode q_mo_stair.2.1 60 = .ok (.ireturn, 1) := by decide +kernel
theorem d_mo_stair_61 : decode q_mo_stair.2.1 61 = .ok (.aload_n 0, 1) := by decide +kernel
theorem d_mo_stair_62 : decode q_mo_stair.2.1 62 = .ok (.aload_n 0, 1) := by decide +kernel
theorem d_mo_stair_63 : decode q_mo_stair.2.1 63 = .ok (.invokevirtual 382, 3) := by decide +kernel
theorem d_mo_stair_66 : decode q_mo_stair.2.1 66 = .ok (.invokevirtual 385, 3) := by decide +kernel
theorem d_mo_stair_69 : decode q_mo_stair.2.1 69 = .ok (.ireturn, 1) := by decide +kernel
theorem d_mo_stair_70 : decode q_mo_stair.2.1 70 = .ok (.aload_n 0, 1) := by decide +kernel
theorem d_mo_stair_71 : decode q_mo_stair.2.1 71 = .ok (.invokevirtual 376, 3) := by decide +kernel
theorem d_mo_stair_74 : decode q_mo_stair.2.1 74 = .ok (.ireturn, 1) := by decide +kernel
theorem d_mo_stair_75 : decode q_mo_stair.2.1 75 = .ok (.aload_n 0, 1) := by decide +kernel
theorem d_mo_stair_76 : decode q_mo_stair.2.1 76 = .ok (.getfield 16, 3) := by decide +kernel
theorem d_mo_stair_79 : decode q_mo_stair.2.1 79 = .ok (.bipush 6, 2) := by decide +kernel
theorem d_mo_stair_81 : decode q_mo_stair.2.1 81 = .ok (.iaload, 1) := by decide +kernel
theorem d_mo_stair_82 : decode q_mo_stair.2.1 82 = .ok (.ireturn, 1) := by decide +kernel
theorem d_mo_stair_83 : decode q_mo_stair.2.1 83 = .ok (.bipush (-2), 2) := by decide +kernel
theorem d_mo_stair_85 : decode q_mo_stair.2.1 85 = .ok (.ireturn, 1) := by decide +kernel
theorem m_mo_stair (l : Launch) (lo hi d : Nat) {a0 : Nat} {a1 : Int32} {r0 : Int32} {h h' : sm_H} (e0 : sm_at lo hi (0, 10, 0) a0) (hf : f_mo_stair a0 a1 h = some (r0, h')) : sm_Met l lo hi (d + 3) q_mo_stair [.ref a0, .int a1] h (some (.int r0)) h' := by
  refine sm_Met.of (by decide +kernel) rfl ?_
  show sm_W l lo hi (d + 3) q_mo_stair 0 [(0, .ref a0), (1, .int a1)] [] h (some (.int r0)) h'
  unfold f_mo_stair at hf
  refine sm_iload_n 1 rfl d_mo_stair_0 ?_
  by_cases c1 : a1 = 0
  · have hf := sm_ifT c1 hf
    refine sm_tableIn 40 d_mo_stair_1 (by rw [c1]; decide) (by rw [c1]; decide) (by rw [c1]; rfl) rfl ?_
    refine sm_aload_n 0 rfl d_mo_stair_40 ?_
    refine sm_getR (n := 3) fl_mo_16 e0 rfl d_mo_stair_41 ?_
    refine sm_iconst (v := 3) (by decide) d_mo_stair_44 ?_
    obtain ⟨c2, hf⟩ := sm_gdE hf
    refine sm_iald (sm_at_arr (sm_inner e0 2 rfl rfl rfl)) c2 d_mo_stair_45 ?_
    obtain ⟨rfl, rfl⟩ := sm_ret2 hf
    exact sm_iret d_mo_stair_46 rfl
  have hf := sm_ifF c1 hf
  by_cases c3 : a1 = 1
  · have hf := sm_ifT c3 hf
    refine sm_tableIn 47 d_mo_stair_1 (by rw [c3]; decide) (by rw [c3]; decide) (by rw [c3]; rfl) rfl ?_
    refine sm_aload_n 0 rfl d_mo_stair_47 ?_
    refine sm_getR (n := 3) fl_mo_16 e0 rfl d_mo_stair_48 ?_
    refine sm_iconst (v := 2) (by decide) d_mo_stair_51 ?_
    obtain ⟨c4, hf⟩ := sm_gdE hf
    refine sm_iald (sm_at_arr (sm_inner e0 2 rfl rfl rfl)) c4 d_mo_stair_52 ?_
    obtain ⟨rfl, rfl⟩ := sm_ret2 hf
    exact sm_iret d_mo_stair_53 rfl
  have hf := sm_ifF c3 hf
  by_cases c5 : a1 = 2
  · have hf := sm_ifT c5 hf
    refine sm_tableIn 54 d_mo_stair_1 (by rw [c5]; decide) (by rw [c5]; decide) (by rw [c5]; rfl) rfl ?_
    refine sm_aload_n 0 rfl d_mo_stair_54 ?_
    refine sm_getR (n := 3) fl_mo_16 e0 rfl d_mo_stair_55 ?_
    refine sm_iconst (v := 4) (by decide) d_mo_stair_58 ?_
    obtain ⟨c6, hf⟩ := sm_gdE hf
    refine sm_iald (sm_at_arr (sm_inner e0 2 rfl rfl rfl)) c6 d_mo_stair_59 ?_
    obtain ⟨rfl, rfl⟩ := sm_ret2 hf
    exact sm_iret d_mo_stair_60 rfl
  have hf := sm_ifF c5 hf
  by_cases c7 : a1 = 3
  · have hf := sm_ifT c7 hf
    refine sm_tableIn 61 d_mo_stair_1 (by rw [c7]; decide) (by rw [c7]; decide) (by rw [c7]; rfl) rfl ?_
    refine sm_aload_n 0 rfl d_mo_stair_61 ?_
    refine sm_aload_n 0 rfl d_mo_stair_62 ?_
    obtain ⟨r8, g9, c10, hf⟩ := sm_b2E hf
    refine sm_callV (As := []) (rv := some (.int r8)) (h1 := g9) (c := 10) cvv_mo_382 rfl rfl e0 (m_mo_openDoors l lo hi _ e0 c10) rfl rfl d_mo_stair_63 ?_
    obtain ⟨r11, g12, c13, hf⟩ := sm_b2E hf
    refine sm_callV (As := [.int r8]) (rv := some (.int r11)) (h1 := g12) (c := 10) cvv_mo_385 rfl rfl e0 (m_mo_areaOf l lo hi _ e0 c13) rfl rfl d_mo_stair_66 ?_
    obtain ⟨rfl, rfl⟩ := sm_ret2 hf
    exact sm_iret d_mo_stair_69 rfl
  have hf := sm_ifF c7 hf
  by_cases c14 : a1 = 4
  · have hf := sm_ifT c14 hf
    refine sm_tableIn 70 d_mo_stair_1 (by rw [c14]; decide) (by rw [c14]; decide) (by rw [c14]; rfl) rfl ?_
    refine sm_aload_n 0 rfl d_mo_stair_70 ?_
    obtain ⟨r15, g16, c17, hf⟩ := sm_b2E hf
    refine sm_callV (As := []) (rv := some (.int r15)) (h1 := g16) (c := 10) cvv_mo_376 rfl rfl e0 (m_mo_stairAir l lo hi _ e0 c17) rfl rfl d_mo_stair_71 ?_
    obtain ⟨rfl, rfl⟩ := sm_ret2 hf
    exact sm_iret d_mo_stair_74 rfl
  have hf := sm_ifF c14 hf
  by_cases c18 : a1 = 5
  · have hf := sm_ifT c18 hf
    refine sm_tableIn 75 d_mo_stair_1 (by rw [c18]; decide) (by rw [c18]; decide) (by rw [c18]; rfl) rfl ?_
    refine sm_aload_n 0 rfl d_mo_stair_75 ?_
    refine sm_getR (n := 3) fl_mo_16 e0 rfl d_mo_stair_76 ?_
    refine sm_bipush (v := 6) (by decide) d_mo_stair_79 ?_
    obtain ⟨c19, hf⟩ := sm_gdE hf
    refine sm_iald (sm_at_arr (sm_inner e0 2 rfl rfl rfl)) c19 d_mo_stair_81 ?_
    obtain ⟨rfl, rfl⟩ := sm_ret2 hf
    exact sm_iret d_mo_stair_82 rfl
  have hf := sm_ifF c18 hf
  refine sm_tableOut 83 d_mo_stair_1 (sm_swOut 0 6 (by decide) (by decide) (fun j hj => by match j, hj with | 0, _ => exact c1 | 1, _ => exact c3 | 2, _ => exact c5 | 3, _ => exact c7 | 4, _ => exact c14 | 5, _ => exact c18 | j + 6, hj => exact absurd hj (by omega))) rfl ?_
  refine sm_bipush (v := (-2)) (by decide) d_mo_stair_83 ?_
  obtain ⟨rfl, rfl⟩ := sm_ret2 hf
  exact sm_iret d_mo_stair_85 rfl
theorem d_mo_alarm_0 : decode q_mo_alarm.2.1 0 = .ok (.aload_n 0, 1) := by decide +kernel
theorem d_mo_alarm_1 : decode q_mo_alarm.2.1 1 = .ok (.iload_n 1, 1) := by decide +kernel
theorem d_mo_alarm_2 : decode q_mo_alarm.2.1 2 = .ok (.invokevirtual 430, 3) := by decide +kernel
theorem d_mo_alarm_5 : decode q_mo_alarm.2.1 5 = .ok (.ifCond .eq 12, 3) := by decide +kernel
theorem d_mo_alarm_8 : decode q_mo_alarm.2.1 8 = .ok (.aload_n 0, 1) := by decide +kernel
theorem d_mo_alarm_9 : decode q_mo_alarm.2.1 9 = .ok (.iload_n 1, 1) := by decide +kernel
theorem d_mo_alarm_10 : decode q_mo_alarm.2.1 10 = .ok (.iconst 2, 1) := by decide +kernel
theorem d_mo_alarm_11 : decode q_mo_alarm.2.1 11 = .ok (.invokevirtual 314, 3) := by decide +kernel
theorem d_mo_alarm_14 : decode q_mo_alarm.2.1 14 = .ok (.goto 4, 3) := by decide +kernel
theorem d_mo_alarm_17 : decode q_mo_alarm.2.1 17 = .ok (.iconst (-1), 1) := by decide +kernel
theorem d_mo_alarm_18 : decode q_mo_alarm.2.1 18 = .ok (.ireturn, 1) := by decide +kernel
theorem w_mo_alarm_L18 (l : Launch) (lo hi d : Nat) {h' : sm_H} {r0 : Int32} (s0 : Int32) (h : sm_H) (hf : f_mo_alarm_L18 s0 h = some (r0, h')) : sm_W l lo hi (d + 2) q_mo_alarm 18 [] [.int s0] h (some (.int r0)) h' := by
  unfold f_mo_alarm_L18 at hf
  obtain ⟨rfl, rfl⟩ := sm_ret2 hf
  exact sm_iret d_mo_alarm_18 rfl
theorem m_mo_alarm (l : Launch) (lo hi d : Nat) {a0 : Nat} {a1 : Int32} {r0 : Int32} {h h' : sm_H} (e0 : sm_at lo hi (0, 10, 0) a0) (hf : f_mo_alarm a0 a1 h = some (r0, h')) : sm_Met l lo hi (d + 2) q_mo_alarm [.ref a0, .int a1] h (some (.int r0)) h' := by
  refine sm_Met.of (by decide +kernel) rfl ?_
  show sm_W l lo hi (d + 2) q_mo_alarm 0 [(0, .ref a0), (1, .int a1)] [] h (some (.int r0)) h'
  unfold f_mo_alarm at hf
  refine sm_aload_n 0 rfl d_mo_alarm_0 ?_
  refine sm_iload_n 1 rfl d_mo_alarm_1 ?_
  obtain ⟨r1, g2, c3, hf⟩ := sm_b2E hf
  refine sm_callV (As := [.int a1]) (rv := some (.int r1)) (h1 := g2) (c := 10) cvv_mo_430 rfl rfl e0 (m_mo_isZone l lo hi _ e0 c3) rfl rfl d_mo_alarm_2 ?_
  refine sm_if_eq 17 d_mo_alarm_5 rfl (fun c4 => ?_) (fun c4 => ?_)
  · have hf := sm_ifT c4 hf
    refine sm_iconst (v := (-1)) (by decide) d_mo_alarm_17 ?_
    refine sm_sub [] rfl ?_
    exact w_mo_alarm_L18 l lo hi d _ _ hf
  · have hf := sm_ifF c4 hf
    refine sm_aload_n 0 rfl d_mo_alarm_8 ?_
    refine sm_iload_n 1 rfl d_mo_alarm_9 ?_
    refine sm_iconst (v := 2) (by decide) d_mo_alarm_10 ?_
    obtain ⟨r5, g6, c7, hf⟩ := sm_b2E hf
    refine sm_callV (As := [.int a1, .int 2]) (rv := some (.int r5)) (h1 := g6) (c := 10) cvv_mo_314 rfl rfl e0 (m_mo_zoneIs l lo hi _ e0 c7) rfl rfl d_mo_alarm_11 ?_
    refine sm_goto 18 d_mo_alarm_14 rfl ?_
    refine sm_sub [] rfl ?_
    exact w_mo_alarm_L18 l lo hi d _ _ hf
theorem d_mo_firstAlarm_0 : decode q_mo_firstAlarm.2.1 0 = .ok (.aload_n 0, 1) := by decide +kernel
theorem d_mo_firstAlarm_1 : decode q_mo_firstAlarm.2.1 1 = .ok (.getfield 16, 3) := by decide +kernel
theorem d_mo_firstAlarm_4 : decode q_mo_firstAlarm.2.1 4 = .ok (.bipush 7, 2) := by decide +kernel
theorem d_mo_firstAlarm_6 : decode q_mo_firstAlarm.2.1 6 = .ok (.iaload, 1) := by decide +kernel
theorem d_mo_firstAlarm_7 : decode q_mo_firstAlarm.2.1 7 = .ok (.iconst (-1), 1) := by decide +kernel
theorem d_mo_firstAlarm_8 : decode q_mo_firstAlarm.2.1 8 = .ok (.if_icmp .ne 8, 3) := by decide +kernel
theorem d_mo_firstAlarm_11 : decode q_mo_firstAlarm.2.1 11 = .ok (.bipush (-4), 2) := by decide +kernel
theorem d_mo_firstAlarm_13 : decode q_mo_firstAlarm.2.1 13 = .ok (.goto 10, 3) := by decide +kernel
theorem d_mo_firstAlarm_16 : decode q_mo_firstAlarm.2.1 16 = .ok (.aload_n 0, 1) := by decide +kernel
theorem d_mo_firstAlarm_17 : decode q_mo_firstAlarm.2.1 17 = .ok (.getfield 16, 3) := by decide +kernel
theorem d_mo_firstAlarm_20 : decode q_mo_firstAlarm.2.1 20 = .ok (.bipush 7, 2) := by decide +kernel
theorem d_mo_firstAlarm_22 : decode q_mo_firstAlarm.2.1 22 = .ok (.iaload, 1) := by decide +kernel
theorem d_mo_firstAlarm_23 : decode q_mo_firstAlarm.2.1 23 = .ok (.ireturn, 1) := by decide +kernel
theorem w_mo_firstAlarm_L23 (l : Launch) (lo hi d : Nat) {h' : sm_H} {r0 : Int32} (s0 : Int32) (h : sm_H) (hf : f_mo_firstAlarm_L23 s0 h = some (r0, h')) : sm_W l lo hi (d) q_mo_firstAlarm 23 [] [.int s0] h (some (.int r0)) h' := by
  unfold f_mo_firstAlarm_L23 at hf
  obtain ⟨rfl, rfl⟩ := sm_ret2 hf
  exact sm_iret d_mo_firstAlarm_23 rfl
theorem m_mo_firstAlarm (l : Launch) (lo hi d : Nat) {a0 : Nat} {r0 : Int32} {h h' : sm_H} (e0 : sm_at lo hi (0, 10, 0) a0) (hf : f_mo_firstAlarm a0 h = some (r0, h')) : sm_Met l lo hi (d) q_mo_firstAlarm [.ref a0] h (some (.int r0)) h' := by
  refine sm_Met.of (by decide +kernel) rfl ?_
  show sm_W l lo hi (d) q_mo_firstAlarm 0 [(0, .ref a0)] [] h (some (.int r0)) h'
  unfold f_mo_firstAlarm at hf
  refine sm_aload_n 0 rfl d_mo_firstAlarm_0 ?_
  refine sm_getR (n := 3) fl_mo_16 e0 rfl d_mo_firstAlarm_1 ?_
  refine sm_bipush (v := 7) (by decide) d_mo_firstAlarm_4 ?_
  obtain ⟨c1, hf⟩ := sm_gdE hf
  refine sm_iald (sm_at_arr (sm_inner e0 2 rfl rfl rfl)) c1 d_mo_firstAlarm_6 ?_
  refine sm_iconst (v := (-1)) (by decide) d_mo_firstAlarm_7 ?_
  refine sm_icmp_ne 16 d_mo_firstAlarm_8 rfl (fun c2 => ?_) (fun c2 => ?_)
  · have hf := sm_ifF c2 hf
    refine sm_aload_n 0 rfl d_mo_firstAlarm_16 ?_
    refine sm_getR (n := 3) fl_mo_16 e0 rfl d_mo_firstAlarm_17 ?_
    refine sm_bipush (v := 7) (by decide) d_mo_firstAlarm_20 ?_
    obtain ⟨c3, hf⟩ := sm_gdE hf
    refine sm_iald (sm_at_arr (sm_inner e0 2 rfl rfl rfl)) c3 d_mo_firstAlarm_22 ?_
    refine sm_sub [] rfl ?_
    exact w_mo_firstAlarm_L23 l lo hi d _ _ hf
  · have hf := sm_ifT c2 hf
    refine sm_bipush (v := (-4)) (by decide) d_mo_firstAlarm_11 ?_
    refine sm_goto 23 d_mo_firstAlarm_13 rfl ?_
    refine sm_sub [] rfl ?_
    exact w_mo_firstAlarm_L23 l lo hi d _ _ hf
theorem d_mo_supply_0 : decode q_mo_supply.2.1 0 = .ok (.aload_n 0, 1) := by decide +kernel
theorem d_mo_supply_1 : decode q_mo_supply.2.1 1 = .ok (.iload_n 1, 1) := by decide +kernel
theorem d_mo_supply_2 : decode q_mo_supply.2.1 2 = .ok (.invokevirtual 430, 3) := by decide +kernel
theorem d_mo_supply_5 : decode q_mo_supply.2.1 5 = .ok (.ifCond .eq 12, 3) := by decide +kernel
theorem d_mo_supply_8 : decode q_mo_supply.2.1 8 = .ok (.aload_n 0, 1) := by decide +kernel
theorem d_mo_supply_9 : decode q_mo_supply.2.1 9 = .ok (.iload_n 1, 1) := by decide +kernel
theorem d_mo_supply_10 : decode q_mo_supply.2.1 10 = .ok (.iconst 0, 1) := by decide +kernel
theorem d_mo_supply_11 : decode q_mo_supply.2.1 11 = .ok (.invokevirtual 394, 3) := by decide +kernel
theorem d_mo_supply_14 : decode q_mo_supply.2.1 14 = .ok (.goto 4, 3) := by decide +kernel
theorem d_mo_supply_17 : decode q_mo_supply.2.1 17 = .ok (.iconst (-1), 1) := by decide +kernel
theorem d_mo_supply_18 : decode q_mo_supply.2.1 18 = .ok (.ireturn, 1) := by decide +kernel
theorem w_mo_supply_L18 (l : Launch) (lo hi d : Nat) {h' : sm_H} {r0 : Int32} (s0 : Int32) (h : sm_H) (hf : f_mo_supply_L18 s0 h = some (r0, h')) : sm_W l lo hi (d + 4) q_mo_supply 18 [] [.int s0] h (some (.int r0)) h' := by
  unfold f_mo_supply_L18 at hf
  obtain ⟨rfl, rfl⟩ := sm_ret2 hf
  exact sm_iret d_mo_supply_18 rfl
theorem m_mo_supply (l : Launch) (lo hi d : Nat) {a0 : Nat} {a1 : Int32} {r0 : Int32} {h h' : sm_H} (e0 : sm_at lo hi (0, 10, 0) a0) (hf : f_mo_supply a0 a1 h = some (r0, h')) : sm_Met l lo hi (d + 4) q_mo_supply [.ref a0, .int a1] h (some (.int r0)) h' := by
  refine sm_Met.of (by decide +kernel) rfl ?_
  show sm_W l lo hi (d + 4) q_mo_supply 0 [(0, .ref a0), (1, .int a1)] [] h (some (.int r0)) h'
  unfold f_mo_supply at hf
  refine sm_aload_n 0 rfl d_mo_supply_0 ?_
  refine sm_iload_n 1 rfl d_mo_supply_1 ?_
  obtain ⟨r1, g2, c3, hf⟩ := sm_b2E hf
  refine sm_callV (As := [.int a1]) (rv := some (.int r1)) (h1 := g2) (c := 10) cvv_mo_430 rfl rfl e0 (m_mo_isZone l lo hi _ e0 c3) rfl rfl d_mo_supply_2 ?_
  refine sm_if_eq 17 d_mo_supply_5 rfl (fun c4 => ?_) (fun c4 => ?_)
  · have hf := sm_ifT c4 hf
    refine sm_iconst (v := (-1)) (by decide) d_mo_supply_17 ?_
    refine sm_sub [] rfl ?_
    exact w_mo_supply_L18 l lo hi d _ _ hf
  · have hf := sm_ifF c4 hf
    refine sm_aload_n 0 rfl d_mo_supply_8 ?_
    refine sm_iload_n 1 rfl d_mo_supply_9 ?_
    refine sm_iconst (v := 0) (by decide) d_mo_supply_10 ?_
    obtain ⟨r5, g6, c7, hf⟩ := sm_b2E hf
    refine sm_callV (As := [.int a1, .int 0]) (rv := some (.int r5)) (h1 := g6) (c := 10) cvv_mo_394 rfl rfl e0 (m_mo_airTo l lo hi _ e0 c7) rfl rfl d_mo_supply_11 ?_
    refine sm_goto 18 d_mo_supply_14 rfl ?_
    refine sm_sub [] rfl ?_
    exact w_mo_supply_L18 l lo hi d _ _ hf
theorem d_mo_exhaust_0 : decode q_mo_exhaust.2.1 0 = .ok (.aload_n 0, 1) := by decide +kernel
theorem d_mo_exhaust_1 : decode q_mo_exhaust.2.1 1 = .ok (.iload_n 1, 1) := by decide +kernel
theorem d_mo_exhaust_2 : decode q_mo_exhaust.2.1 2 = .ok (.invokevirtual 430, 3) := by decide +kernel
theorem d_mo_exhaust_5 : decode q_mo_exhaust.2.1 5 = .ok (.ifCond .eq 12, 3) := by decide +kernel
theorem d_mo_exhaust_8 : decode q_mo_exhaust.2.1 8 = .ok (.aload_n 0, 1) := by decide +kernel
theorem d_mo_exhaust_9 : decode q_mo_exhaust.2.1 9 = .ok (.iload_n 1, 1) := by decide +kernel
theorem d_mo_exhaust_10 : decode q_mo_exhaust.2.1 10 = .ok (.iconst 1, 1) := by decide +kernel
theorem d_mo_exhaust_11 : decode q_mo_exhaust.2.1 11 = .ok (.invokevirtual 394, 3) := by decide +kernel
theorem d_mo_exhaust_14 : decode q_mo_exhaust.2.1 14 = .ok (.goto 4, 3) := by decide +kernel
theorem d_mo_exhaust_17 : decode q_mo_exhaust.2.1 17 = .ok (.iconst (-1), 1) := by decide +kernel
theorem d_mo_exhaust_18 : decode q_mo_exhaust.2.1 18 = .ok (.ireturn, 1) := by decide +kernel
theorem w_mo_exhaust_L18 (l : Launch) (lo hi d : Nat) {h' : sm_H} {r0 : Int32} (s0 : Int32) (h : sm_H) (hf : f_mo_exhaust_L18 s0 h = some (r0, h')) : sm_W l lo hi (d + 4) q_mo_exhaust 18 [] [.int s0] h (some (.int r0)) h' := by
  unfold f_mo_exhaust_L18 at hf
  obtain ⟨rfl, rfl⟩ := sm_ret2 hf
  exact sm_iret d_mo_exhaust_18 rfl
theorem m_mo_exhaust (l : Launch) (lo hi d : Nat) {a0 : Nat} {a1 : Int32} {r0 : Int32} {h h' : sm_H} (e0 : sm_at lo hi (0, 10, 0) a0) (hf : f_mo_exhaust a0 a1 h = some (r0, h')) : sm_Met l lo hi (d + 4) q_mo_exhaust [.ref a0, .int a1] h (some (.int r0)) h' := by
  refine sm_Met.of (by decide +kernel) rfl ?_
  show sm_W l lo hi (d + 4) q_mo_exhaust 0 [(0, .ref a0), (1, .int a1)] [] h (some (.int r0)) h'
  unfold f_mo_exhaust at hf
  refine sm_aload_n 0 rfl d_mo_exhaust_0 ?_
  refine sm_iload_n 1 rfl d_mo_exhaust_1 ?_
  obtain ⟨r1, g2, c3, hf⟩ := sm_b2E hf
  refine sm_callV (As := [.int a1]) (rv := some (.int r1)) (h1 := g2) (c := 10) cvv_mo_430 rfl rfl e0 (m_mo_isZone l lo hi _ e0 c3) rfl rfl d_mo_exhaust_2 ?_
  refine sm_if_eq 17 d_mo_exhaust_5 rfl (fun c4 => ?_) (fun c4 => ?_)
  · have hf := sm_ifT c4 hf
    refine sm_iconst (v := (-1)) (by decide) d_mo_exhaust_17 ?_
    refine sm_sub [] rfl ?_
    exact w_mo_exhaust_L18 l lo hi d _ _ hf
  · have hf := sm_ifF c4 hf
    refine sm_aload_n 0 rfl d_mo_exhaust_8 ?_
    refine sm_iload_n 1 rfl d_mo_exhaust_9 ?_
    refine sm_iconst (v := 1) (by decide) d_mo_exhaust_10 ?_
    obtain ⟨r5, g6, c7, hf⟩ := sm_b2E hf
    refine sm_callV (As := [.int a1, .int 1]) (rv := some (.int r5)) (h1 := g6) (c := 10) cvv_mo_394 rfl rfl e0 (m_mo_airTo l lo hi _ e0 c7) rfl rfl d_mo_exhaust_11 ?_
    refine sm_goto 18 d_mo_exhaust_14 rfl ?_
    refine sm_sub [] rfl ?_
    exact w_mo_exhaust_L18 l lo hi d _ _ hf
theorem d_mo_damper_0 : decode q_mo_damper.2.1 0 = .ok (.aload_n 0, 1) := by decide +kernel
theorem d_mo_damper_1 : decode q_mo_damper.2.1 1 = .ok (.iload_n 1, 1) := by decide +kernel
theorem d_mo_damper_2 : decode q_mo_damper.2.1 2 = .ok (.invokevirtual 440, 3) := by decide +kernel
theorem d_mo_damper_5 : decode q_mo_damper.2.1 5 = .ok (.ifCond .ne 5, 3) := by decide +kernel
theorem d_mo_damper_8 : decode q_mo_damper.2.1 8 = .ok (.iconst (-1), 1) := by decide +kernel
theorem d_mo_damper_9 : decode q_mo_damper.2.1 9 = .ok (.ireturn, 1) := by decide +kernel
theorem d_mo_damper_10 : decode q_mo_damper.2.1 10 = .ok (.aload_n 0, 1) := by decide +kernel
theorem d_mo_damper_11 : decode q_mo_damper.2.1 11 = .ok (.invokevirtual 406, 3) := by decide +kernel
theorem d_mo_damper_14 : decode q_mo_damper.2.1 14 = .ok (.iload_n 2, 1) := by decide +kernel
theorem d_mo_damper_15 : decode q_mo_damper.2.1 15 = .ok (.tableswitch 91 0 6 #[41, 48, 55, 62, 70, 77, 84], 41) := by decide +kernel
theorem d_mo_damper_56 : decode q_mo_damper.2.1 56 = .ok (.aload_n 0, 1) := by decide +kernel
theorem d_mo_damper_57 : decode q_mo_damper.2.1 57 = .ok (.iload_n 1, 1) := by decide +kernel
theorem d_mo_damper_58 : decode q_mo_damper.2.1 58 = .ok (.iconst 0, 1) := by decide +kernel
theorem d_mo_damper_59 : decode q_mo_damper.2.1 59 = .ok (.invokevirtual 308, 3) := by decide +kernel
theorem d_mo_damper_62 : decode q_mo_damper.2.1 62 = .ok (.ireturn, 1) := by decide +kernel
theorem d_mo_damper_63 : decode q_mo_damper.2.1 63 = .ok (.aload_n 0, 1) := by decide +kernel
theorem d_mo_damper_64 : decode q_mo_damper.2.1 64 = .ok (.getfield 45, 3) := by decide +kernel
theorem d_mo_damper_67 : decode q_mo_damper.2.1 67 = .ok (.iload_n 1, 1) := by decide +kernel
theorem d_mo_damper_68 : decode q_mo_damper.2.1 68 = .ok (.iaload, 1) := by decide +kernel
theorem d_mo_damper_69 : decode q_mo_damper.2.1 69 = .ok (.ireturn, 1) := by decide +kernel
theorem d_mo_damper_70 : decode q_mo_damper.2.1 70 = .ok (.aload_n 0, 1) := by decide +kernel
theorem d_mo_damper_71 : decode q_mo_damper.2.1 71 = .ok (.getfield 48, 3) := by decide +kernel
theorem d_mo_damper_74 : decode q_mo_damper.2.1 74 = .ok (.iload_n 1, 1) := by decide +kernel
theorem d_mo_damper_75 : decode q_mo_damper.2.1 75 = .ok (.iaload, 1) := by decide +kernel
theorem d_mo_damper_76 : decode q_mo_damper.2.1 76 = .ok (.ireturn, 1) := by decide +kernel
theorem d_mo_damper_77 : decode q_mo_damper.2.1 77 = .ok (.aload_n 0, 1) := by decide +kernel
theorem d_mo_damper_78 : decode q_mo_damper.2.1 78 = .ok (.iload_n 1, 1) := by decide +kernel
theorem d_mo_damper_79 : decode q_mo_damper.2.1 79 = .ok (.bipush 6, 2) := by decide +kernel
theorem d_mo_damper_81 : decode q_mo_damper.2.1 81 = .ok (.invokevirtual 308, 3) := by decide +kernel
theorem d_mo_damper_84 : decode q_mo_damper.2.1 84 = .ok (.ireturn, 1) := by decide +kernel
theorem d_mo_damper_85 : decode q_mo_damper.2.1 85 = .ok (.aload_n 0, 1) := by decide +kernel
theorem d_mo_damper_86 : decode q_mo_damper.2.1 86 = .ok (.iload_n 1, 1) := by decide +kernel
theorem d_mo_damper_87 : decode q_mo_damper.2.1 87 = .ok (.iconst 5, 1) := by decide +kernel
theorem d_mo_damper_88 : decode q_mo_damper.2.1 88 = .ok (.invokevirtual 308, 3) := by decide +kernel
theorem d_mo_damper_91 : decode q_mo_damper.2.1 91 = .ok (.ireturn, 1) := by decide +kernel
theorem d_mo_damper_92 : decode q_mo_damper.2.1 92 = .ok (.aload_n 0, 1) := by decide +kernel
theorem d_mo_damper_93 : decode q_mo_damper.2.1 93 = .ok (.iload_n 1, 1) := by decide +kernel
theorem d_mo_damper_94 : decode q_mo_damper.2.1 94 = .ok (.iconst 1, 1) := by decide +kernel
theorem d_mo_damper_95 : decode q_mo_damper.2.1 95 = .ok (.invokevirtual 73, 3) := by decide +kernel
theorem d_mo_damper_98 : decode q_mo_damper.2.1 98 = .ok (.ireturn, 1) := by decide +kernel
theorem d_mo_damper_99 : decode q_mo_damper.2.1 99 = .ok (.aload_n 0, 1) := by decide +kernel
theorem d_mo_damper_100 : decode q_mo_damper.2.1 100 = .ok (.iload_n 1, 1) := by decide +kernel
theorem d_mo_damper_101 : decode q_mo_damper.2.1 101 = .ok (.iconst 2, 1) := by decide +kernel
theorem d_mo_damper_102 : decode q_mo_damper.2.1 102 = .ok (.invokevirtual 73, 3) := by decide +kernel
theorem d_mo_damper_105 : decode q_mo_damper.2.1 105 = .ok (.ireturn, 1) := by decide +kernel
theorem d_mo_damper_106 : decode q_mo_damper.2.1 106 = .ok (.bipush (-2), 2) := by decide +kernel
theorem d_mo_damper_108 : decode q_mo_damper.2.1 108 = .ok (.ireturn, 1) := by decide +kernel
theorem m_mo_damper (l : Launch) (lo hi d : Nat) {a0 : Nat} {a1 : Int32} {a2 : Int32} {r0 : Int32} {h h' : sm_H} (e0 : sm_at lo hi (0, 10, 0) a0) (hf : f_mo_damper a0 a1 a2 h = some (r0, h')) : sm_Met l lo hi (d + 6) q_mo_damper [.ref a0, .int a1, .int a2] h (some (.int r0)) h' := by
  refine sm_Met.of (by decide +kernel) rfl ?_
  show sm_W l lo hi (d + 6) q_mo_damper 0 [(0, .ref a0), (1, .int a1), (2, .int a2)] [] h (some (.int r0)) h'
  unfold f_mo_damper at hf
  refine sm_aload_n 0 rfl d_mo_damper_0 ?_
  refine sm_iload_n 1 rfl d_mo_damper_1 ?_
  obtain ⟨r1, g2, c3, hf⟩ := sm_b2E hf
  refine sm_callV (As := [.int a1]) (rv := some (.int r1)) (h1 := g2) (c := 10) cvv_mo_440 rfl rfl e0 (m_mo_isDamper l lo hi _ e0 c3) rfl rfl d_mo_damper_2 ?_
  refine sm_if_ne 10 d_mo_damper_5 rfl (fun c4 => ?_) (fun c4 => ?_)
  · have hf := sm_ifF c4 hf
    refine sm_aload_n 0 rfl d_mo_damper_10 ?_
    obtain ⟨g5, c6, hf⟩ := sm_bindE hf
    refine sm_callV (As := []) (rv := none) (h1 := g5) (c := 10) cvv_mo_406 rfl rfl e0 (m_mo_decide l lo hi _ e0 c6) rfl rfl d_mo_damper_11 ?_
    refine sm_iload_n 2 rfl d_mo_damper_14 ?_
    by_cases c7 : a2 = 0
    · have hf := sm_ifT c7 hf
      refine sm_tableIn 56 d_mo_damper_15 (by rw [c7]; decide) (by rw [c7]; decide) (by rw [c7]; rfl) rfl ?_
      refine sm_aload_n 0 rfl d_mo_damper_56 ?_
      refine sm_iload_n 1 rfl d_mo_damper_57 ?_
      refine sm_iconst (v := 0) (by decide) d_mo_damper_58 ?_
      obtain ⟨r8, g9, c10, hf⟩ := sm_b2E hf
      refine sm_callV (As := [.int a1, .int 0]) (rv := some (.int r8)) (h1 := g9) (c := 10) cvv_mo_308 rfl rfl e0 (m_mo_damperIs l lo hi _ e0 c10) rfl rfl d_mo_damper_59 ?_
      obtain ⟨rfl, rfl⟩ := sm_ret2 hf
      exact sm_iret d_mo_damper_62 rfl
    have hf := sm_ifF c7 hf
    by_cases c11 : a2 = 1
    · have hf := sm_ifT c11 hf
      refine sm_tableIn 63 d_mo_damper_15 (by rw [c11]; decide) (by rw [c11]; decide) (by rw [c11]; rfl) rfl ?_
      refine sm_aload_n 0 rfl d_mo_damper_63 ?_
      refine sm_getR (n := 11) fl_mo_45 e0 rfl d_mo_damper_64 ?_
      refine sm_iload_n 1 rfl d_mo_damper_67 ?_
      obtain ⟨c12, hf⟩ := sm_gdE hf
      refine sm_iald (sm_at_arr (sm_inner e0 27 rfl rfl rfl)) c12 d_mo_damper_68 ?_
      obtain ⟨rfl, rfl⟩ := sm_ret2 hf
      exact sm_iret d_mo_damper_69 rfl
    have hf := sm_ifF c11 hf
    by_cases c13 : a2 = 2
    · have hf := sm_ifT c13 hf
      refine sm_tableIn 70 d_mo_damper_15 (by rw [c13]; decide) (by rw [c13]; decide) (by rw [c13]; rfl) rfl ?_
      refine sm_aload_n 0 rfl d_mo_damper_70 ?_
      refine sm_getR (n := 12) fl_mo_48 e0 rfl d_mo_damper_71 ?_
      refine sm_iload_n 1 rfl d_mo_damper_74 ?_
      obtain ⟨c14, hf⟩ := sm_gdE hf
      refine sm_iald (sm_at_arr (sm_inner e0 28 rfl rfl rfl)) c14 d_mo_damper_75 ?_
      obtain ⟨rfl, rfl⟩ := sm_ret2 hf
      exact sm_iret d_mo_damper_76 rfl
    have hf := sm_ifF c13 hf
    by_cases c15 : a2 = 3
    · have hf := sm_ifT c15 hf
      refine sm_tableIn 77 d_mo_damper_15 (by rw [c15]; decide) (by rw [c15]; decide) (by rw [c15]; rfl) rfl ?_
      refine sm_aload_n 0 rfl d_mo_damper_77 ?_
      refine sm_iload_n 1 rfl d_mo_damper_78 ?_
      refine sm_bipush (v := 6) (by decide) d_mo_damper_79 ?_
      obtain ⟨r16, g17, c18, hf⟩ := sm_b2E hf
      refine sm_callV (As := [.int a1, .int 6]) (rv := some (.int r16)) (h1 := g17) (c := 10) cvv_mo_308 rfl rfl e0 (m_mo_damperIs l lo hi _ e0 c18) rfl rfl d_mo_damper_81 ?_
      obtain ⟨rfl, rfl⟩ := sm_ret2 hf
      exact sm_iret d_mo_damper_84 rfl
    have hf := sm_ifF c15 hf
    by_cases c19 : a2 = 4
    · have hf := sm_ifT c19 hf
      refine sm_tableIn 85 d_mo_damper_15 (by rw [c19]; decide) (by rw [c19]; decide) (by rw [c19]; rfl) rfl ?_
      refine sm_aload_n 0 rfl d_mo_damper_85 ?_
      refine sm_iload_n 1 rfl d_mo_damper_86 ?_
      refine sm_iconst (v := 5) (by decide) d_mo_damper_87 ?_
      obtain ⟨r20, g21, c22, hf⟩ := sm_b2E hf
      refine sm_callV (As := [.int a1, .int 5]) (rv := some (.int r20)) (h1 := g21) (c := 10) cvv_mo_308 rfl rfl e0 (m_mo_damperIs l lo hi _ e0 c22) rfl rfl d_mo_damper_88 ?_
      obtain ⟨rfl, rfl⟩ := sm_ret2 hf
      exact sm_iret d_mo_damper_91 rfl
    have hf := sm_ifF c19 hf
    by_cases c23 : a2 = 5
    · have hf := sm_ifT c23 hf
      refine sm_tableIn 92 d_mo_damper_15 (by rw [c23]; decide) (by rw [c23]; decide) (by rw [c23]; rfl) rfl ?_
      refine sm_aload_n 0 rfl d_mo_damper_92 ?_
      refine sm_iload_n 1 rfl d_mo_damper_93 ?_
      refine sm_iconst (v := 1) (by decide) d_mo_damper_94 ?_
      obtain ⟨r24, g25, c26, hf⟩ := sm_b2E hf
      refine sm_callV (As := [.int a1, .int 1]) (rv := some (.int r24)) (h1 := g25) (c := 10) cvv_mo_73 rfl rfl e0 (m_mo_damperOf l lo hi _ e0 c26) rfl rfl d_mo_damper_95 ?_
      obtain ⟨rfl, rfl⟩ := sm_ret2 hf
      exact sm_iret d_mo_damper_98 rfl
    have hf := sm_ifF c23 hf
    by_cases c27 : a2 = 6
    · have hf := sm_ifT c27 hf
      refine sm_tableIn 99 d_mo_damper_15 (by rw [c27]; decide) (by rw [c27]; decide) (by rw [c27]; rfl) rfl ?_
      refine sm_aload_n 0 rfl d_mo_damper_99 ?_
      refine sm_iload_n 1 rfl d_mo_damper_100 ?_
      refine sm_iconst (v := 2) (by decide) d_mo_damper_101 ?_
      obtain ⟨r28, g29, c30, hf⟩ := sm_b2E hf
      refine sm_callV (As := [.int a1, .int 2]) (rv := some (.int r28)) (h1 := g29) (c := 10) cvv_mo_73 rfl rfl e0 (m_mo_damperOf l lo hi _ e0 c30) rfl rfl d_mo_damper_102 ?_
      obtain ⟨rfl, rfl⟩ := sm_ret2 hf
      exact sm_iret d_mo_damper_105 rfl
    have hf := sm_ifF c27 hf
    refine sm_tableOut 106 d_mo_damper_15 (sm_swOut 0 7 (by decide) (by decide) (fun j hj => by match j, hj with | 0, _ => exact c7 | 1, _ => exact c11 | 2, _ => exact c13 | 3, _ => exact c15 | 4, _ => exact c19 | 5, _ => exact c23 | 6, _ => exact c27 | j + 7, hj => exact absurd hj (by omega))) rfl ?_
    refine sm_bipush (v := (-2)) (by decide) d_mo_damper_106 ?_
    obtain ⟨rfl, rfl⟩ := sm_ret2 hf
    exact sm_iret d_mo_damper_108 rfl
  · have hf := sm_ifT c4 hf
    refine sm_iconst (v := (-1)) (by decide) d_mo_damper_8 ?_
    obtain ⟨rfl, rfl⟩ := sm_ret2 hf
    exact sm_iret d_mo_damper_9 rfl
theorem d_mo_fan_0 : decode q_mo_fan.2.1 0 = .ok (.aload_n 0, 1) := by decide +kernel
theorem d_mo_fan_1 : decode q_mo_fan.2.1 1 = .ok (.iload_n 1, 1) := by decide +kernel
theorem d_mo_fan_2 : decode q_mo_fan.2.1 2 = .ok (.invokevirtual 443, 3) := by decide +kernel
theorem d_mo_fan_5 : decode q_mo_fan.2.1 5 = .ok (.ifCond .ne 5, 3) := by decide +kernel
theorem d_mo_fan_8 : decode q_mo_fan.2.1 8 = .ok (.iconst (-1), 1) := by decide +kernel
theorem d_mo_fan_9 : decode q_mo_fan.2.1 9 = .ok (.ireturn, 1) := by decide +kernel
theorem d_mo_fan_10 : decode q_mo_fan.2.1 10 = .ok (.aload_n 0, 1) := by decide +kernel
theorem d_mo_fan_11 : decode q_mo_fan.2.1 11 = .ok (.invokevirtual 406, 3) := by decide +kernel
theorem d_mo_fan_14 : decode q_mo_fan.2.1 14 = .ok (.iload_n 2, 1) := by decide +kernel
theorem d_mo_fan_15 : decode q_mo_fan.2.1 15 = .ok (.tableswitch 106 0 6 #[41, 48, 55, 62, 69, 76, 82], 41) := by decide +kernel
theorem d_mo_fan_56 : decode q_mo_fan.2.1 56 = .ok (.aload_n 0, 1) := by decide +kernel
theorem d_mo_fan_57 : decode q_mo_fan.2.1 57 = .ok (.iload_n 1, 1) := by decide +kernel
theorem d_mo_fan_58 : decode q_mo_fan.2.1 58 = .ok (.iconst 0, 1) := by decide +kernel
theorem d_mo_fan_59 : decode q_mo_fan.2.1 59 = .ok (.invokevirtual 311, 3) := by decide +kernel
theorem d_mo_fan_62 : decode q_mo_fan.2.1 62 = .ok (.ireturn, 1) := by decide +kernel
theorem d_mo_fan_63 : decode q_mo_fan.2.1 63 = .ok (.aload_n 0, 1) := by decide +kernel
theorem d_mo_fan_64 : decode q_mo_fan.2.1 64 = .ok (.getfield 51, 3) := by decide +kernel
theorem d_mo_fan_67 : decode q_mo_fan.2.1 67 = .ok (.iload_n 1, 1) := by decide +kernel
theorem d_mo_fan_68 : decode q_mo_fan.2.1 68 = .ok (.iaload, 1) := by decide +kernel
theorem d_mo_fan_69 : decode q_mo_fan.2.1 69 = .ok (.ireturn, 1) := by decide +kernel
theorem d_mo_fan_70 : decode q_mo_fan.2.1 70 = .ok (.aload_n 0, 1) := by decide +kernel
theorem d_mo_fan_71 : decode q_mo_fan.2.1 71 = .ok (.getfield 54, 3) := by decide +kernel
theorem d_mo_fan_74 : decode q_mo_fan.2.1 74 = .ok (.iload_n 1, 1) := by decide +kernel
theorem d_mo_fan_75 : decode q_mo_fan.2.1 75 = .ok (.iaload, 1) := by decide +kernel
theorem d_mo_fan_76 : decode q_mo_fan.2.1 76 = .ok (.ireturn, 1) := by decide +kernel
theorem d_mo_fan_77 : decode q_mo_fan.2.1 77 = .ok (.aload_n 0, 1) := by decide +kernel
theorem d_mo_fan_78 : decode q_mo_fan.2.1 78 = .ok (.iload_n 1, 1) := by decide +kernel
theorem d_mo_fan_79 : decode q_mo_fan.2.1 79 = .ok (.iconst 5, 1) := by decide +kernel
theorem d_mo_fan_80 : decode q_mo_fan.2.1 80 = .ok (.invokevirtual 311, 3) := by decide +kernel
theorem d_mo_fan_83 : decode q_mo_fan.2.1 83 = .ok (.ireturn, 1) := by decide +kernel
theorem d_mo_fan_84 : decode q_mo_fan.2.1 84 = .ok (.aload_n 0, 1) := by decide +kernel
theorem d_mo_fan_85 : decode q_mo_fan.2.1 85 = .ok (.iload_n 1, 1) := by decide +kernel
theorem d_mo_fan_86 : decode q_mo_fan.2.1 86 = .ok (.iconst 4, 1) := by decide +kernel
theorem d_mo_fan_87 : decode q_mo_fan.2.1 87 = .ok (.invokevirtual 311, 3) := by decide +kernel
theorem d_mo_fan_90 : decode q_mo_fan.2.1 90 = .ok (.ireturn, 1) := by decide +kernel
theorem d_mo_fan_91 : decode q_mo_fan.2.1 91 = .ok (.aload_n 0, 1) := by decide +kernel
theorem d_mo_fan_92 : decode q_mo_fan.2.1 92 = .ok (.iload_n 1, 1) := by decide +kernel
theorem d_mo_fan_93 : decode q_mo_fan.2.1 93 = .ok (.invokevirtual 355, 3) := by decide +kernel
theorem d_mo_fan_96 : decode q_mo_fan.2.1 96 = .ok (.ireturn, 1) := by decide +kernel
theorem d_mo_fan_97 : decode q_mo_fan.2.1 97 = .ok (.aload_n 0, 1) := by decide +kernel
theorem d_mo_fan_98 : decode q_mo_fan.2.1 98 = .ok (.getfield 51, 3) := by decide +kernel
theorem d_mo_fan_101 : decode q_mo_fan.2.1 101 = .ok (.iload_n 1, 1) := by decide +kernel
theorem d_mo_fan_102 : decode q_mo_fan.2.1 102 = .ok (.iaload, 1) := by decide +kernel
theorem d_mo_fan_103 : decode q_mo_fan.2.1 103 = .ok (.iconst 1, 1) := by decide +kernel
theorem d_mo_fan_104 : decode q_mo_fan.2.1 104 = .ok (.if_icmp .ne 15, 3) := by decide +kernel
theorem d_mo_fan_107 : decode q_mo_fan.2.1 107 = .ok (.aload_n 0, 1) := by decide +kernel
theorem d_mo_fan_108 : decode q_mo_fan.2.1 108 = .ok (.iload_n 1, 1) := by decide +kernel
theorem d_mo_fan_109 : decode q_mo_fan.2.1 109 = .ok (.invokevirtual 367, 3) := by decide +kernel
theorem d_mo_fan_112 : decode q_mo_fan.2.1 112 = .ok (.ifCond .ne 7, 3) := by decide +kernel
theorem d_mo_fan_115 : decode q_mo_fan.2.1 115 = .ok (.iconst 1, 1) := by decide +kernel
theorem d_mo_fan_116 : decode q_mo_fan.2.1 116 = .ok (.goto 4, 3) := by decide +kernel
theorem d_mo_fan_119 : decode q_mo_fan.2.1 119 = .ok (.iconst 0, 1) := by decide +kernel
theorem d_mo_fan_120 : decode q_mo_fan.2.1 120 = .ok (.ireturn, 1) := by decide +kernel
theorem d_mo_fan_121 : decode q_mo_fan.2.1 121 = .ok (.bipush (-2), 2) := by decide +kernel
theorem d_mo_fan_123 : decode q_mo_fan.2.1 123 = .ok (.ireturn, 1) := by decide +kernel
theorem w_mo_fan_L120 (l : Launch) (lo hi d : Nat) {h' : sm_H} {r0 : Int32} (s0 : Int32) (h : sm_H) (hf : f_mo_fan_L120 s0 h = some (r0, h')) : sm_W l lo hi (d + 6) q_mo_fan 120 [] [.int s0] h (some (.int r0)) h' := by
  unfold f_mo_fan_L120 at hf
  obtain ⟨rfl, rfl⟩ := sm_ret2 hf
  exact sm_iret d_mo_fan_120 rfl
theorem m_mo_fan (l : Launch) (lo hi d : Nat) {a0 : Nat} {a1 : Int32} {a2 : Int32} {r0 : Int32} {h h' : sm_H} (e0 : sm_at lo hi (0, 10, 0) a0) (hf : f_mo_fan a0 a1 a2 h = some (r0, h')) : sm_Met l lo hi (d + 6) q_mo_fan [.ref a0, .int a1, .int a2] h (some (.int r0)) h' := by
  refine sm_Met.of (by decide +kernel) rfl ?_
  show sm_W l lo hi (d + 6) q_mo_fan 0 [(0, .ref a0), (1, .int a1), (2, .int a2)] [] h (some (.int r0)) h'
  unfold f_mo_fan at hf
  refine sm_aload_n 0 rfl d_mo_fan_0 ?_
  refine sm_iload_n 1 rfl d_mo_fan_1 ?_
  obtain ⟨r1, g2, c3, hf⟩ := sm_b2E hf
  refine sm_callV (As := [.int a1]) (rv := some (.int r1)) (h1 := g2) (c := 10) cvv_mo_443 rfl rfl e0 (m_mo_isFan l lo hi _ e0 c3) rfl rfl d_mo_fan_2 ?_
  refine sm_if_ne 10 d_mo_fan_5 rfl (fun c4 => ?_) (fun c4 => ?_)
  · have hf := sm_ifF c4 hf
    refine sm_aload_n 0 rfl d_mo_fan_10 ?_
    obtain ⟨g5, c6, hf⟩ := sm_bindE hf
    refine sm_callV (As := []) (rv := none) (h1 := g5) (c := 10) cvv_mo_406 rfl rfl e0 (m_mo_decide l lo hi _ e0 c6) rfl rfl d_mo_fan_11 ?_
    refine sm_iload_n 2 rfl d_mo_fan_14 ?_
    by_cases c7 : a2 = 0
    · have hf := sm_ifT c7 hf
      refine sm_tableIn 56 d_mo_fan_15 (by rw [c7]; decide) (by rw [c7]; decide) (by rw [c7]; rfl) rfl ?_
      refine sm_aload_n 0 rfl d_mo_fan_56 ?_
      refine sm_iload_n 1 rfl d_mo_fan_57 ?_
      refine sm_iconst (v := 0) (by decide) d_mo_fan_58 ?_
      obtain ⟨r8, g9, c10, hf⟩ := sm_b2E hf
      refine sm_callV (As := [.int a1, .int 0]) (rv := some (.int r8)) (h1 := g9) (c := 10) cvv_mo_311 rfl rfl e0 (m_mo_fanIs l lo hi _ e0 c10) rfl rfl d_mo_fan_59 ?_
      obtain ⟨rfl, rfl⟩ := sm_ret2 hf
      exact sm_iret d_mo_fan_62 rfl
    have hf := sm_ifF c7 hf
    by_cases c11 : a2 = 1
    · have hf := sm_ifT c11 hf
      refine sm_tableIn 63 d_mo_fan_15 (by rw [c11]; decide) (by rw [c11]; decide) (by rw [c11]; rfl) rfl ?_
      refine sm_aload_n 0 rfl d_mo_fan_63 ?_
      refine sm_getR (n := 13) fl_mo_51 e0 rfl d_mo_fan_64 ?_
      refine sm_iload_n 1 rfl d_mo_fan_67 ?_
      obtain ⟨c12, hf⟩ := sm_gdE hf
      refine sm_iald (sm_at_arr (sm_inner e0 29 rfl rfl rfl)) c12 d_mo_fan_68 ?_
      obtain ⟨rfl, rfl⟩ := sm_ret2 hf
      exact sm_iret d_mo_fan_69 rfl
    have hf := sm_ifF c11 hf
    by_cases c13 : a2 = 2
    · have hf := sm_ifT c13 hf
      refine sm_tableIn 70 d_mo_fan_15 (by rw [c13]; decide) (by rw [c13]; decide) (by rw [c13]; rfl) rfl ?_
      refine sm_aload_n 0 rfl d_mo_fan_70 ?_
      refine sm_getR (n := 14) fl_mo_54 e0 rfl d_mo_fan_71 ?_
      refine sm_iload_n 1 rfl d_mo_fan_74 ?_
      obtain ⟨c14, hf⟩ := sm_gdE hf
      refine sm_iald (sm_at_arr (sm_inner e0 30 rfl rfl rfl)) c14 d_mo_fan_75 ?_
      obtain ⟨rfl, rfl⟩ := sm_ret2 hf
      exact sm_iret d_mo_fan_76 rfl
    have hf := sm_ifF c13 hf
    by_cases c15 : a2 = 3
    · have hf := sm_ifT c15 hf
      refine sm_tableIn 77 d_mo_fan_15 (by rw [c15]; decide) (by rw [c15]; decide) (by rw [c15]; rfl) rfl ?_
      refine sm_aload_n 0 rfl d_mo_fan_77 ?_
      refine sm_iload_n 1 rfl d_mo_fan_78 ?_
      refine sm_iconst (v := 5) (by decide) d_mo_fan_79 ?_
      obtain ⟨r16, g17, c18, hf⟩ := sm_b2E hf
      refine sm_callV (As := [.int a1, .int 5]) (rv := some (.int r16)) (h1 := g17) (c := 10) cvv_mo_311 rfl rfl e0 (m_mo_fanIs l lo hi _ e0 c18) rfl rfl d_mo_fan_80 ?_
      obtain ⟨rfl, rfl⟩ := sm_ret2 hf
      exact sm_iret d_mo_fan_83 rfl
    have hf := sm_ifF c15 hf
    by_cases c19 : a2 = 4
    · have hf := sm_ifT c19 hf
      refine sm_tableIn 84 d_mo_fan_15 (by rw [c19]; decide) (by rw [c19]; decide) (by rw [c19]; rfl) rfl ?_
      refine sm_aload_n 0 rfl d_mo_fan_84 ?_
      refine sm_iload_n 1 rfl d_mo_fan_85 ?_
      refine sm_iconst (v := 4) (by decide) d_mo_fan_86 ?_
      obtain ⟨r20, g21, c22, hf⟩ := sm_b2E hf
      refine sm_callV (As := [.int a1, .int 4]) (rv := some (.int r20)) (h1 := g21) (c := 10) cvv_mo_311 rfl rfl e0 (m_mo_fanIs l lo hi _ e0 c22) rfl rfl d_mo_fan_87 ?_
      obtain ⟨rfl, rfl⟩ := sm_ret2 hf
      exact sm_iret d_mo_fan_90 rfl
    have hf := sm_ifF c19 hf
    by_cases c23 : a2 = 5
    · have hf := sm_ifT c23 hf
      refine sm_tableIn 91 d_mo_fan_15 (by rw [c23]; decide) (by rw [c23]; decide) (by rw [c23]; rfl) rfl ?_
      refine sm_aload_n 0 rfl d_mo_fan_91 ?_
      refine sm_iload_n 1 rfl d_mo_fan_92 ?_
      obtain ⟨r24, g25, c26, hf⟩ := sm_b2E hf
      refine sm_callV (As := [.int a1]) (rv := some (.int r24)) (h1 := g25) (c := 10) cvv_mo_355 rfl rfl e0 (m_mo_airOf l lo hi _ e0 c26) rfl rfl d_mo_fan_93 ?_
      obtain ⟨rfl, rfl⟩ := sm_ret2 hf
      exact sm_iret d_mo_fan_96 rfl
    have hf := sm_ifF c23 hf
    by_cases c27 : a2 = 6
    · have hf := sm_ifT c27 hf
      refine sm_tableIn 97 d_mo_fan_15 (by rw [c27]; decide) (by rw [c27]; decide) (by rw [c27]; rfl) rfl ?_
      refine sm_aload_n 0 rfl d_mo_fan_97 ?_
      refine sm_getR (n := 13) fl_mo_51 e0 rfl d_mo_fan_98 ?_
      refine sm_iload_n 1 rfl d_mo_fan_101 ?_
      obtain ⟨c28, hf⟩ := sm_gdE hf
      refine sm_iald (sm_at_arr (sm_inner e0 29 rfl rfl rfl)) c28 d_mo_fan_102 ?_
      refine sm_iconst (v := 1) (by decide) d_mo_fan_103 ?_
      refine sm_icmp_ne 119 d_mo_fan_104 rfl (fun c29 => ?_) (fun c29 => ?_)
      · have hf := sm_ifF c29 hf
        refine sm_iconst (v := 0) (by decide) d_mo_fan_119 ?_
        refine sm_sub [] rfl ?_
        exact w_mo_fan_L120 l lo hi d _ _ hf
      · have hf := sm_ifT c29 hf
        refine sm_aload_n 0 rfl d_mo_fan_107 ?_
        refine sm_iload_n 1 rfl d_mo_fan_108 ?_
        obtain ⟨r30, g31, c32, hf⟩ := sm_b2E hf
        refine sm_callV (As := [.int a1]) (rv := some (.int r30)) (h1 := g31) (c := 10) cvv_mo_367 rfl rfl e0 (m_mo_isClear l lo hi _ e0 c32) rfl rfl d_mo_fan_109 ?_
        refine sm_if_ne 119 d_mo_fan_112 rfl (fun c33 => ?_) (fun c33 => ?_)
        · have hf := sm_ifF c33 hf
          refine sm_iconst (v := 0) (by decide) d_mo_fan_119 ?_
          refine sm_sub [] rfl ?_
          exact w_mo_fan_L120 l lo hi d _ _ hf
        · have hf := sm_ifT c33 hf
          refine sm_iconst (v := 1) (by decide) d_mo_fan_115 ?_
          refine sm_goto 120 d_mo_fan_116 rfl ?_
          refine sm_sub [] rfl ?_
          exact w_mo_fan_L120 l lo hi d _ _ hf
    have hf := sm_ifF c27 hf
    refine sm_tableOut 121 d_mo_fan_15 (sm_swOut 0 7 (by decide) (by decide) (fun j hj => by match j, hj with | 0, _ => exact c7 | 1, _ => exact c11 | 2, _ => exact c13 | 3, _ => exact c15 | 4, _ => exact c19 | 5, _ => exact c23 | 6, _ => exact c27 | j + 7, hj => exact absurd hj (by omega))) rfl ?_
    refine sm_bipush (v := (-2)) (by decide) d_mo_fan_121 ?_
    obtain ⟨rfl, rfl⟩ := sm_ret2 hf
    exact sm_iret d_mo_fan_123 rfl
  · have hf := sm_ifT c4 hf
    refine sm_iconst (v := (-1)) (by decide) d_mo_fan_8 ?_
    obtain ⟨rfl, rfl⟩ := sm_ret2 hf
    exact sm_iret d_mo_fan_9 rfl
theorem d_mo_ruleHolds_0 : decode q_mo_ruleHolds.2.1 0 = .ok (.iload_n 1, 1) := by decide +kernel
theorem d_mo_ruleHolds_1 : decode q_mo_ruleHolds.2.1 1 = .ok (.iconst 0, 1) := by decide +kernel
theorem d_mo_ruleHolds_2 : decode q_mo_ruleHolds.2.1 2 = .ok (.aload_n 0, 1) := by decide +kernel
theorem d_mo_ruleHolds_3 : decode q_mo_ruleHolds.2.1 3 = .ok (.getfield 7, 3) := by decide +kernel
theorem d_mo_ruleHolds_6 : decode q_mo_ruleHolds.2.1 6 = .ok (.iconst 4, 1) := by decide +kernel
theorem d_mo_ruleHolds_7 : decode q_mo_ruleHolds.2.1 7 = .ok (.iaload, 1) := by decide +kernel
theorem d_mo_ruleHolds_8 : decode q_mo_ruleHolds.2.1 8 = .ok (.iconst 1, 1) := by decide +kernel
theorem d_mo_ruleHolds_9 : decode q_mo_ruleHolds.2.1 9 = .ok (.isub, 1) := by decide +kernel
theorem d_mo_ruleHolds_10 : decode q_mo_ruleHolds.2.1 10 = .ok (.invokestatic 91, 3) := by decide +kernel
theorem d_mo_ruleHolds_13 : decode q_mo_ruleHolds.2.1 13 = .ok (.ifCond .ne 5, 3) := by decide +kernel
theorem d_mo_ruleHolds_16 : decode q_mo_ruleHolds.2.1 16 = .ok (.iconst (-1), 1) := by decide +kernel
theorem d_mo_ruleHolds_17 : decode q_mo_ruleHolds.2.1 17 = .ok (.ireturn, 1) := by decide +kernel
theorem d_mo_ruleHolds_18 : decode q_mo_ruleHolds.2.1 18 = .ok (.aload_n 0, 1) := by decide +kernel
theorem d_mo_ruleHolds_19 : decode q_mo_ruleHolds.2.1 19 = .ok (.iload_n 1, 1) := by decide +kernel
theorem d_mo_ruleHolds_20 : decode q_mo_ruleHolds.2.1 20 = .ok (.invokevirtual 332, 3) := by decide +kernel
theorem d_mo_ruleHolds_23 : decode q_mo_ruleHolds.2.1 23 = .ok (.ifCond .eq 7, 3) := by decide +kernel
theorem d_mo_ruleHolds_26 : decode q_mo_ruleHolds.2.1 26 = .ok (.iconst 1, 1) := by decide +kernel
theorem d_mo_ruleHolds_27 : decode q_mo_ruleHolds.2.1 27 = .ok (.goto 4, 3) := by decide +kernel
theorem d_mo_ruleHolds_30 : decode q_mo_ruleHolds.2.1 30 = .ok (.iconst 0, 1) := by decide +kernel
theorem d_mo_ruleHolds_31 : decode q_mo_ruleHolds.2.1 31 = .ok (.ireturn, 1) := by decide +kernel
theorem w_mo_ruleHolds_L31 (l : Launch) (lo hi d : Nat) {h' : sm_H} {r0 : Int32} (s0 : Int32) (h : sm_H) (hf : f_mo_ruleHolds_L31 s0 h = some (r0, h')) : sm_W l lo hi (d + 4) q_mo_ruleHolds 31 [] [.int s0] h (some (.int r0)) h' := by
  unfold f_mo_ruleHolds_L31 at hf
  obtain ⟨rfl, rfl⟩ := sm_ret2 hf
  exact sm_iret d_mo_ruleHolds_31 rfl
theorem m_mo_ruleHolds (l : Launch) (lo hi d : Nat) {a0 : Nat} {a1 : Int32} {r0 : Int32} {h h' : sm_H} (e0 : sm_at lo hi (0, 10, 0) a0) (hf : f_mo_ruleHolds a0 a1 h = some (r0, h')) : sm_Met l lo hi (d + 4) q_mo_ruleHolds [.ref a0, .int a1] h (some (.int r0)) h' := by
  refine sm_Met.of (by decide +kernel) rfl ?_
  show sm_W l lo hi (d + 4) q_mo_ruleHolds 0 [(0, .ref a0), (1, .int a1)] [] h (some (.int r0)) h'
  unfold f_mo_ruleHolds at hf
  refine sm_iload_n 1 rfl d_mo_ruleHolds_0 ?_
  refine sm_iconst (v := 0) (by decide) d_mo_ruleHolds_1 ?_
  refine sm_aload_n 0 rfl d_mo_ruleHolds_2 ?_
  refine sm_getR (n := 1) fl_mo_7 e0 rfl d_mo_ruleHolds_3 ?_
  refine sm_iconst (v := 4) (by decide) d_mo_ruleHolds_6 ?_
  obtain ⟨c1, hf⟩ := sm_gdE hf
  refine sm_iald (sm_at_arr (sm_inner e0 0 rfl rfl rfl)) c1 d_mo_ruleHolds_7 ?_
  refine sm_iconst (v := 1) (by decide) d_mo_ruleHolds_8 ?_
  refine sm_isub d_mo_ruleHolds_9 ?_
  obtain ⟨r2, g3, c4, hf⟩ := sm_b2E hf
  refine sm_callS (As := [.int a1, .int 0, .int ((h (a0 + 1) (4 : Int32).toNatClampNeg) - 1)]) (rv := some (.int r2)) (h1 := g3) cvs_mo_91 (m_mo_in l lo hi _ c4) rfl rfl d_mo_ruleHolds_10 ?_
  refine sm_if_ne 18 d_mo_ruleHolds_13 rfl (fun c5 => ?_) (fun c5 => ?_)
  · have hf := sm_ifF c5 hf
    refine sm_aload_n 0 rfl d_mo_ruleHolds_18 ?_
    refine sm_iload_n 1 rfl d_mo_ruleHolds_19 ?_
    obtain ⟨r6, g7, c8, hf⟩ := sm_b2E hf
    refine sm_callV (As := [.int a1]) (rv := some (.int r6)) (h1 := g7) (c := 10) cvv_mo_332 rfl rfl e0 (m_mo_isHolding l lo hi _ e0 c8) rfl rfl d_mo_ruleHolds_20 ?_
    refine sm_if_eq 30 d_mo_ruleHolds_23 rfl (fun c9 => ?_) (fun c9 => ?_)
    · have hf := sm_ifT c9 hf
      refine sm_iconst (v := 0) (by decide) d_mo_ruleHolds_30 ?_
      refine sm_sub [] rfl ?_
      exact w_mo_ruleHolds_L31 l lo hi d _ _ hf
    · have hf := sm_ifF c9 hf
      refine sm_iconst (v := 1) (by decide) d_mo_ruleHolds_26 ?_
      refine sm_goto 31 d_mo_ruleHolds_27 rfl ?_
      refine sm_sub [] rfl ?_
      exact w_mo_ruleHolds_L31 l lo hi d _ _ hf
  · have hf := sm_ifT c5 hf
    refine sm_iconst (v := (-1)) (by decide) d_mo_ruleHolds_16 ?_
    obtain ⟨rfl, rfl⟩ := sm_ret2 hf
    exact sm_iret d_mo_ruleHolds_17 rfl
theorem d_mo_commandsBy_0 : decode q_mo_commandsBy.2.1 0 = .ok (.iload_n 1, 1) := by decide +kernel
theorem d_mo_commandsBy_1 : decode q_mo_commandsBy.2.1 1 = .ok (.iconst 0, 1) := by decide +kernel
theorem d_mo_commandsBy_2 : decode q_mo_commandsBy.2.1 2 = .ok (.iconst 3, 1) := by decide +kernel
theorem d_mo_commandsBy_3 : decode q_mo_commandsBy.2.1 3 = .ok (.invokestatic 91, 3) := by decide +kernel
theorem d_mo_commandsBy_6 : decode q_mo_commandsBy.2.1 6 = .ok (.ifCond .ne 6, 3) := by decide +kernel
theorem d_mo_commandsBy_9 : decode q_mo_commandsBy.2.1 9 = .ok (.bipush (-2), 2) := by decide +kernel
theorem d_mo_commandsBy_11 : decode q_mo_commandsBy.2.1 11 = .ok (.ireturn, 1) := by decide +kernel
theorem d_mo_commandsBy_12 : decode q_mo_commandsBy.2.1 12 = .ok (.aload_n 0, 1) := by decide +kernel
theorem d_mo_commandsBy_13 : decode q_mo_commandsBy.2.1 13 = .ok (.invokevirtual 406, 3) := by decide +kernel
theorem d_mo_commandsBy_16 : decode q_mo_commandsBy.2.1 16 = .ok (.iconst 0, 1) := by decide +kernel
theorem d_mo_commandsBy_17 : decode q_mo_commandsBy.2.1 17 = .ok (.istore_n 2, 1) := by decide +kernel
theorem d_mo_commandsBy_18 : decode q_mo_commandsBy.2.1 18 = .ok (.iconst 0, 1) := by decide +kernel
theorem d_mo_commandsBy_19 : decode q_mo_commandsBy.2.1 19 = .ok (.istore_n 3, 1) := by decide +kernel
theorem d_mo_commandsBy_20 : decode q_mo_commandsBy.2.1 20 = .ok (.iload_n 3, 1) := by decide +kernel
theorem d_mo_commandsBy_21 : decode q_mo_commandsBy.2.1 21 = .ok (.aload_n 0, 1) := by decide +kernel
theorem d_mo_commandsBy_22 : decode q_mo_commandsBy.2.1 22 = .ok (.getfield 7, 3) := by decide +kernel
theorem d_mo_commandsBy_25 : decode q_mo_commandsBy.2.1 25 = .ok (.iconst 1, 1) := by decide +kernel
theorem d_mo_commandsBy_26 : decode q_mo_commandsBy.2.1 26 = .ok (.iaload, 1) := by decide +kernel
theorem d_mo_commandsBy_27 : decode q_mo_commandsBy.2.1 27 = .ok (.if_icmp .ge 27, 3) := by decide +kernel
theorem d_mo_commandsBy_30 : decode q_mo_commandsBy.2.1 30 = .ok (.aload_n 0, 1) := by decide +kernel
theorem d_mo_commandsBy_31 : decode q_mo_commandsBy.2.1 31 = .ok (.getfield 48, 3) := by decide +kernel
theorem d_mo_commandsBy_34 : decode q_mo_commandsBy.2.1 34 = .ok (.iload_n 3, 1) := by decide +kernel
theorem d_mo_commandsBy_35 : decode q_mo_commandsBy.2.1 35 = .ok (.iaload, 1) := by decide +kernel
theorem d_mo_commandsBy_36 : decode q_mo_commandsBy.2.1 36 = .ok (.iload_n 1, 1) := by decide +kernel
theorem d_mo_commandsBy_37 : decode q_mo_commandsBy.2.1 37 = .ok (.if_icmp .ne 9, 3) := by decide +kernel
theorem d_mo_commandsBy_40 : decode q_mo_commandsBy.2.1 40 = .ok (.iload_n 2, 1) := by decide +kernel
theorem d_mo_commandsBy_41 : decode q_mo_commandsBy.2.1 41 = .ok (.iconst 1, 1) := by decide +kernel
theorem d_mo_commandsBy_42 : decode q_mo_commandsBy.2.1 42 = .ok (.iadd, 1) := by decide +kernel
theorem d_mo_commandsBy_43 : decode q_mo_commandsBy.2.1 43 = .ok (.goto 4, 3) := by decide +kernel
theorem d_mo_commandsBy_46 : decode q_mo_commandsBy.2.1 46 = .ok (.iload_n 2, 1) := by decide +kernel
theorem d_mo_commandsBy_47 : decode q_mo_commandsBy.2.1 47 = .ok (.istore_n 2, 1) := by decide +kernel
theorem d_mo_commandsBy_48 : decode q_mo_commandsBy.2.1 48 = .ok (.iinc 3 1, 3) := by decide +kernel
theorem d_mo_commandsBy_51 : decode q_mo_commandsBy.2.1 51 = .ok (.goto (-31), 3) := by decide +kernel
theorem d_mo_commandsBy_54 : decode q_mo_commandsBy.2.1 54 = .ok (.iconst 0, 1) := by decide +kernel
theorem d_mo_commandsBy_55 : decode q_mo_commandsBy.2.1 55 = .ok (.istore_n 3, 1) := by decide +kernel
theorem d_mo_commandsBy_56 : decode q_mo_commandsBy.2.1 56 = .ok (.iload_n 3, 1) := by decide +kernel
theorem d_mo_commandsBy_57 : decode q_mo_commandsBy.2.1 57 = .ok (.aload_n 0, 1) := by decide +kernel
theorem d_mo_commandsBy_58 : decode q_mo_commandsBy.2.1 58 = .ok (.getfield 7, 3) := by decide +kernel
theorem d_mo_commandsBy_61 : decode q_mo_commandsBy.2.1 61 = .ok (.iconst 2, 1) := by decide +kernel
theorem d_mo_commandsBy_62 : decode q_mo_commandsBy.2.1 62 = .ok (.iaload, 1) := by decide +kernel
theorem d_mo_commandsBy_63 : decode q_mo_commandsBy.2.1 63 = .ok (.if_icmp .ge 27, 3) := by decide +kernel
theorem d_mo_commandsBy_66 : decode q_mo_commandsBy.2.1 66 = .ok (.aload_n 0, 1) := by decide +kernel
theorem d_mo_commandsBy_67 : decode q_mo_commandsBy.2.1 67 = .ok (.getfield 54, 3) := by decide +kernel
theorem d_mo_commandsBy_70 : decode q_mo_commandsBy.2.1 70 = .ok (.iload_n 3, 1) := by decide +kernel
theorem d_mo_commandsBy_71 : decode q_mo_commandsBy.2.1 71 = .ok (.iaload, 1) := by decide +kernel
theorem d_mo_commandsBy_72 : decode q_mo_commandsBy.2.1 72 = .ok (.iload_n 1, 1) := by decide +kernel
theorem d_mo_commandsBy_73 : decode q_mo_commandsBy.2.1 73 = .ok (.if_icmp .ne 9, 3) := by decide +kernel
theorem d_mo_commandsBy_76 : decode q_mo_commandsBy.2.1 76 = .ok (.iload_n 2, 1) := by decide +kernel
theorem d_mo_commandsBy_77 : decode q_mo_commandsBy.2.1 77 = .ok (.iconst 1, 1) := by decide +kernel
theorem d_mo_commandsBy_78 : decode q_mo_commandsBy.2.1 78 = .ok (.iadd, 1) := by decide +kernel
theorem d_mo_commandsBy_79 : decode q_mo_commandsBy.2.1 79 = .ok (.goto 4, 3) := by decide +kernel
theorem d_mo_commandsBy_82 : decode q_mo_commandsBy.2.1 82 = .ok (.iload_n 2, 1) := by decide +kernel
theorem d_mo_commandsBy_83 : decode q_mo_commandsBy.2.1 83 = .ok (.istore_n 2, 1) := by decide +kernel
theorem d_mo_commandsBy_84 : decode q_mo_commandsBy.2.1 84 = .ok (.iinc 3 1, 3) := by decide +kernel
theorem d_mo_commandsBy_87 : decode q_mo_commandsBy.2.1 87 = .ok (.goto (-31), 3) := by decide +kernel
theorem d_mo_commandsBy_90 : decode q_mo_commandsBy.2.1 90 = .ok (.iload_n 2, 1) := by decide +kernel
theorem d_mo_commandsBy_91 : decode q_mo_commandsBy.2.1 91 = .ok (.ireturn, 1) := by decide +kernel
theorem w_mo_commandsBy_L90 (l : Launch) (lo hi d : Nat) {h' : sm_H} {r0 : Int32} (a2 : Int32) (h : sm_H) (hf : f_mo_commandsBy_L90 a2 h = some (r0, h')) : sm_W l lo hi (d + 6) q_mo_commandsBy 90 [(2, .int a2)] [] h (some (.int r0)) h' := by
  unfold f_mo_commandsBy_L90 at hf
  refine sm_iload_n 0 rfl d_mo_commandsBy_90 ?_
  obtain ⟨rfl, rfl⟩ := sm_ret2 hf
  exact sm_iret d_mo_commandsBy_91 rfl
theorem w_mo_commandsBy_L83 (l : Launch) (lo hi d : Nat) {k56 : Nat → Int32 → Int32 → Int32 → sm_H → Option (Int32 × sm_H)} {h' : sm_H} {r0 : Int32} (hk56 : ∀ (a0 : Nat) (a1 : Int32) (a2 : Int32) (a3 : Int32) (h : sm_H) (_ : sm_at lo hi (0, 10, 0) a0) , k56 a0 a1 a2 a3 h = some (r0, h') → sm_W l lo hi (d + 6) q_mo_commandsBy 56 [(0, .ref a0), (1, .int a1), (2, .int a2), (3, .int a3)] [] h (some (.int r0)) h') (a0 : Nat) (a1 : Int32) (a3 : Int32) (s0 : Int32) (h : sm_H) (e0 : sm_at lo hi (0, 10, 0) a0) (hf : f_mo_commandsBy_L83 k56 a0 a1 a3 s0 h = some (r0, h')) : sm_W l lo hi (d + 6) q_mo_commandsBy 83 [(0, .ref a0), (1, .int a1), (3, .int a3)] [.int s0] h (some (.int r0)) h' := by
  unfold f_mo_commandsBy_L83 at hf
  refine sm_istore_n (lv' := [(2, .int s0), (0, .ref a0), (1, .int a1), (3, .int a3)]) d_mo_commandsBy_83 rfl rfl ?_
  obtain ⟨x17, w18⟩ : ∃ v : Int32, v = a3 + 1 := ⟨_, rfl⟩
  have hf := sm_letV w18 hf
  refine sm_iinc (v := x17) (lv' := [(3, .int x17), (2, .int s0), (0, .ref a0), (1, .int a1)]) 3 rfl (by rw [w18]; rfl) d_mo_commandsBy_84 rfl rfl ?_
  refine sm_goto 56 d_mo_commandsBy_87 rfl ?_
  refine sm_sub [2, 3, 1, 0] rfl ?_
  exact hk56 _ _ _ _ _ e0 hf
theorem w_mo_commandsBy_L56 (l : Launch) (lo hi d : Nat) {h' : sm_H} {r0 : Int32} : ∀ (n : Nat) (a0 : Nat) (a1 : Int32) (a2 : Int32) (a3 : Int32) (h : sm_H) (e0 : sm_at lo hi (0, 10, 0) a0) (hf : f_mo_commandsBy_L56 n a0 a1 a2 a3 h = some (r0, h')), sm_W l lo hi (d + 6) q_mo_commandsBy 56 [(0, .ref a0), (1, .int a1), (2, .int a2), (3, .int a3)] [] h (some (.int r0)) h' := by
  intro n
  induction n with
  | zero =>
    intro a0 a1 a2 a3 h e0 hf
    have z : (none : Option (Int32 × sm_H)) = some _ := hf
    cases z
  | succ n ih =>
    intro a0 a1 a2 a3 h e0 hf
    unfold f_mo_commandsBy_L56 at hf
    refine sm_iload_n 3 rfl d_mo_commandsBy_56 ?_
    refine sm_aload_n 0 rfl d_mo_commandsBy_57 ?_
    refine sm_getR (n := 1) fl_mo_7 e0 rfl d_mo_commandsBy_58 ?_
    refine sm_iconst (v := 2) (by decide) d_mo_commandsBy_61 ?_
    obtain ⟨c13, hf⟩ := sm_gdE hf
    refine sm_iald (sm_at_arr (sm_inner e0 0 rfl rfl rfl)) c13 d_mo_commandsBy_62 ?_
    refine sm_icmp_ge 90 d_mo_commandsBy_63 rfl (fun c14 => ?_) (fun c14 => ?_)
    · have hf := sm_ifT c14 hf
      refine sm_sub [2] rfl ?_
      exact w_mo_commandsBy_L90 l lo hi d _ _ hf
    · have hf := sm_ifF c14 hf
      refine sm_aload_n 0 rfl d_mo_commandsBy_66 ?_
      refine sm_getR (n := 14) fl_mo_54 e0 rfl d_mo_commandsBy_67 ?_
      refine sm_iload_n 3 rfl d_mo_commandsBy_70 ?_
      obtain ⟨c15, hf⟩ := sm_gdE hf
      refine sm_iald (sm_at_arr (sm_inner e0 30 rfl rfl rfl)) c15 d_mo_commandsBy_71 ?_
      refine sm_iload_n 1 rfl d_mo_commandsBy_72 ?_
      refine sm_icmp_ne 82 d_mo_commandsBy_73 rfl (fun c16 => ?_) (fun c16 => ?_)
      · have hf := sm_ifF c16 hf
        refine sm_iload_n 2 rfl d_mo_commandsBy_82 ?_
        refine sm_sub [0, 1, 3] rfl ?_
        exact w_mo_commandsBy_L83 l lo hi d ih _ _ _ _ _ e0 hf
      · have hf := sm_ifT c16 hf
        refine sm_iload_n 2 rfl d_mo_commandsBy_76 ?_
        refine sm_iconst (v := 1) (by decide) d_mo_commandsBy_77 ?_
        refine sm_iadd d_mo_commandsBy_78 ?_
        refine sm_goto 83 d_mo_commandsBy_79 rfl ?_
        refine sm_sub [0, 1, 3] rfl ?_
        exact w_mo_commandsBy_L83 l lo hi d ih _ _ _ _ _ e0 hf
theorem w_mo_commandsBy_L54 (l : Launch) (lo hi d : Nat) {h' : sm_H} {r0 : Int32} (a0 : Nat) (a1 : Int32) (a2 : Int32) (h : sm_H) (e0 : sm_at lo hi (0, 10, 0) a0) (hf : f_mo_commandsBy_L54 a0 a1 a2 h = some (r0, h')) : sm_W l lo hi (d + 6) q_mo_commandsBy 54 [(0, .ref a0), (1, .int a1), (2, .int a2)] [] h (some (.int r0)) h' := by
  unfold f_mo_commandsBy_L54 at hf
  refine sm_iconst (v := 0) (by decide) d_mo_commandsBy_54 ?_
  refine sm_istore_n (lv' := [(3, .int 0), (0, .ref a0), (1, .int a1), (2, .int a2)]) d_mo_commandsBy_55 rfl rfl ?_
  refine sm_sub [1, 2, 3, 0] rfl ?_
  exact w_mo_commandsBy_L56 l lo hi d sm_N _ _ _ _ _ e0 hf
theorem w_mo_commandsBy_L47 (l : Launch) (lo hi d : Nat) {k20 : Nat → Int32 → Int32 → Int32 → sm_H → Option (Int32 × sm_H)} {h' : sm_H} {r0 : Int32} (hk20 : ∀ (a0 : Nat) (a1 : Int32) (a2 : Int32) (a3 : Int32) (h : sm_H) (_ : sm_at lo hi (0, 10, 0) a0) , k20 a0 a1 a2 a3 h = some (r0, h') → sm_W l lo hi (d + 6) q_mo_commandsBy 20 [(0, .ref a0), (1, .int a1), (2, .int a2), (3, .int a3)] [] h (some (.int r0)) h') (a0 : Nat) (a1 : Int32) (a3 : Int32) (s0 : Int32) (h : sm_H) (e0 : sm_at lo hi (0, 10, 0) a0) (hf : f_mo_commandsBy_L47 k20 a0 a1 a3 s0 h = some (r0, h')) : sm_W l lo hi (d + 6) q_mo_commandsBy 47 [(0, .ref a0), (1, .int a1), (3, .int a3)] [.int s0] h (some (.int r0)) h' := by
  unfold f_mo_commandsBy_L47 at hf
  refine sm_istore_n (lv' := [(2, .int s0), (0, .ref a0), (1, .int a1), (3, .int a3)]) d_mo_commandsBy_47 rfl rfl ?_
  obtain ⟨x11, w12⟩ : ∃ v : Int32, v = a3 + 1 := ⟨_, rfl⟩
  have hf := sm_letV w12 hf
  refine sm_iinc (v := x11) (lv' := [(3, .int x11), (2, .int s0), (0, .ref a0), (1, .int a1)]) 3 rfl (by rw [w12]; rfl) d_mo_commandsBy_48 rfl rfl ?_
  refine sm_goto 20 d_mo_commandsBy_51 rfl ?_
  refine sm_sub [2, 3, 1, 0] rfl ?_
  exact hk20 _ _ _ _ _ e0 hf
theorem w_mo_commandsBy_L20 (l : Launch) (lo hi d : Nat) {h' : sm_H} {r0 : Int32} : ∀ (n : Nat) (a0 : Nat) (a1 : Int32) (a2 : Int32) (a3 : Int32) (h : sm_H) (e0 : sm_at lo hi (0, 10, 0) a0) (hf : f_mo_commandsBy_L20 n a0 a1 a2 a3 h = some (r0, h')), sm_W l lo hi (d + 6) q_mo_commandsBy 20 [(0, .ref a0), (1, .int a1), (2, .int a2), (3, .int a3)] [] h (some (.int r0)) h' := by
  intro n
  induction n with
  | zero =>
    intro a0 a1 a2 a3 h e0 hf
    have z : (none : Option (Int32 × sm_H)) = some _ := hf
    cases z
  | succ n ih =>
    intro a0 a1 a2 a3 h e0 hf
    unfold f_mo_commandsBy_L20 at hf
    refine sm_iload_n 3 rfl d_mo_commandsBy_20 ?_
    refine sm_aload_n 0 rfl d_mo_commandsBy_21 ?_
    refine sm_getR (n := 1) fl_mo_7 e0 rfl d_mo_commandsBy_22 ?_
    refine sm_iconst (v := 1) (by decide) d_mo_commandsBy_25 ?_
    obtain ⟨c7, hf⟩ := sm_gdE hf
    refine sm_iald (sm_at_arr (sm_inner e0 0 rfl rfl rfl)) c7 d_mo_commandsBy_26 ?_
    refine sm_icmp_ge 54 d_mo_commandsBy_27 rfl (fun c8 => ?_) (fun c8 => ?_)
    · have hf := sm_ifT c8 hf
      refine sm_sub [0, 1, 2] rfl ?_
      exact w_mo_commandsBy_L54 l lo hi d _ _ _ _ e0 hf
    · have hf := sm_ifF c8 hf
      refine sm_aload_n 0 rfl d_mo_commandsBy_30 ?_
      refine sm_getR (n := 12) fl_mo_48 e0 rfl d_mo_commandsBy_31 ?_
      refine sm_iload_n 3 rfl d_mo_commandsBy_34 ?_
      obtain ⟨c9, hf⟩ := sm_gdE hf
      refine sm_iald (sm_at_arr (sm_inner e0 28 rfl rfl rfl)) c9 d_mo_commandsBy_35 ?_
      refine sm_iload_n 1 rfl d_mo_commandsBy_36 ?_
      refine sm_icmp_ne 46 d_mo_commandsBy_37 rfl (fun c10 => ?_) (fun c10 => ?_)
      · have hf := sm_ifF c10 hf
        refine sm_iload_n 2 rfl d_mo_commandsBy_46 ?_
        refine sm_sub [0, 1, 3] rfl ?_
        exact w_mo_commandsBy_L47 l lo hi d ih _ _ _ _ _ e0 hf
      · have hf := sm_ifT c10 hf
        refine sm_iload_n 2 rfl d_mo_commandsBy_40 ?_
        refine sm_iconst (v := 1) (by decide) d_mo_commandsBy_41 ?_
        refine sm_iadd d_mo_commandsBy_42 ?_
        refine sm_goto 47 d_mo_commandsBy_43 rfl ?_
        refine sm_sub [0, 1, 3] rfl ?_
        exact w_mo_commandsBy_L47 l lo hi d ih _ _ _ _ _ e0 hf
theorem m_mo_commandsBy (l : Launch) (lo hi d : Nat) {a0 : Nat} {a1 : Int32} {r0 : Int32} {h h' : sm_H} (e0 : sm_at lo hi (0, 10, 0) a0) (hf : f_mo_commandsBy a0 a1 h = some (r0, h')) : sm_Met l lo hi (d + 6) q_mo_commandsBy [.ref a0, .int a1] h (some (.int r0)) h' := by
  refine sm_Met.of (by decide +kernel) rfl ?_
  show sm_W l lo hi (d + 6) q_mo_commandsBy 0 [(0, .ref a0), (1, .int a1)] [] h (some (.int r0)) h'
  unfold f_mo_commandsBy at hf
  refine sm_iload_n 1 rfl d_mo_commandsBy_0 ?_
  refine sm_iconst (v := 0) (by decide) d_mo_commandsBy_1 ?_
  refine sm_iconst (v := 3) (by decide) d_mo_commandsBy_2 ?_
  obtain ⟨r1, g2, c3, hf⟩ := sm_b2E hf
  refine sm_callS (As := [.int a1, .int 0, .int 3]) (rv := some (.int r1)) (h1 := g2) cvs_mo_91 (m_mo_in l lo hi _ c3) rfl rfl d_mo_commandsBy_3 ?_
  refine sm_if_ne 12 d_mo_commandsBy_6 rfl (fun c4 => ?_) (fun c4 => ?_)
  · have hf := sm_ifF c4 hf
    refine sm_aload_n 0 rfl d_mo_commandsBy_12 ?_
    obtain ⟨g5, c6, hf⟩ := sm_bindE hf
    refine sm_callV (As := []) (rv := none) (h1 := g5) (c := 10) cvv_mo_406 rfl rfl e0 (m_mo_decide l lo hi _ e0 c6) rfl rfl d_mo_commandsBy_13 ?_
    refine sm_iconst (v := 0) (by decide) d_mo_commandsBy_16 ?_
    refine sm_istore_n (lv' := [(2, .int 0), (0, .ref a0), (1, .int a1)]) d_mo_commandsBy_17 rfl rfl ?_
    refine sm_iconst (v := 0) (by decide) d_mo_commandsBy_18 ?_
    refine sm_istore_n (lv' := [(3, .int 0), (2, .int 0), (0, .ref a0), (1, .int a1)]) d_mo_commandsBy_19 rfl rfl ?_
    refine sm_sub [2, 3, 1, 0] rfl ?_
    exact w_mo_commandsBy_L20 l lo hi d sm_N _ _ _ _ _ e0 hf
  · have hf := sm_ifT c4 hf
    refine sm_bipush (v := (-2)) (by decide) d_mo_commandsBy_9 ?_
    obtain ⟨rfl, rfl⟩ := sm_ret2 hf
    exact sm_iret d_mo_commandsBy_11 rfl
theorem d_mo_events_0 : decode q_mo_events.2.1 0 = .ok (.aload_n 0, 1) := by decide +kernel
theorem d_mo_events_1 : decode q_mo_events.2.1 1 = .ok (.getfield 16, 3) := by decide +kernel
theorem d_mo_events_4 : decode q_mo_events.2.1 4 = .ok (.bipush 9, 2) := by decide +kernel
theorem d_mo_events_6 : decode q_mo_events.2.1 6 = .ok (.iaload, 1) := by decide +kernel
theorem d_mo_events_7 : decode q_mo_events.2.1 7 = .ok (.ireturn, 1) := by decide +kernel
theorem m_mo_events (l : Launch) (lo hi d : Nat) {a0 : Nat} {r0 : Int32} {h h' : sm_H} (e0 : sm_at lo hi (0, 10, 0) a0) (hf : f_mo_events a0 h = some (r0, h')) : sm_Met l lo hi (d) q_mo_events [.ref a0] h (some (.int r0)) h' := by
  refine sm_Met.of (by decide +kernel) rfl ?_
  show sm_W l lo hi (d) q_mo_events 0 [(0, .ref a0)] [] h (some (.int r0)) h'
  unfold f_mo_events at hf
  refine sm_aload_n 0 rfl d_mo_events_0 ?_
  refine sm_getR (n := 3) fl_mo_16 e0 rfl d_mo_events_1 ?_
  refine sm_bipush (v := 9) (by decide) d_mo_events_4 ?_
  obtain ⟨c1, hf⟩ := sm_gdE hf
  refine sm_iald (sm_at_arr (sm_inner e0 2 rfl rfl rfl)) c1 d_mo_events_6 ?_
  obtain ⟨rfl, rfl⟩ := sm_ret2 hf
  exact sm_iret d_mo_events_7 rfl
theorem d_mo_event_0 : decode q_mo_event.2.1 0 = .ok (.iload_n 1, 1) := by decide +kernel
theorem d_mo_event_1 : decode q_mo_event.2.1 1 = .ok (.iconst 0, 1) := by decide +kernel
theorem d_mo_event_2 : decode q_mo_event.2.1 2 = .ok (.aload_n 0, 1) := by decide +kernel
theorem d_mo_event_3 : decode q_mo_event.2.1 3 = .ok (.getfield 16, 3) := by decide +kernel
theorem d_mo_event_6 : decode q_mo_event.2.1 6 = .ok (.bipush 9, 2) := by decide +kernel
theorem d_mo_event_8 : decode q_mo_event.2.1 8 = .ok (.iaload, 1) := by decide +kernel
theorem d_mo_event_9 : decode q_mo_event.2.1 9 = .ok (.iconst 1, 1) := by decide +kernel
theorem d_mo_event_10 : decode q_mo_event.2.1 10 = .ok (.isub, 1) := by decide +kernel
theorem d_mo_event_11 : decode q_mo_event.2.1 11 = .ok (.invokestatic 91, 3) := by decide +kernel
theorem d_mo_event_14 : decode q_mo_event.2.1 14 = .ok (.ifCond .ne 5, 3) := by decide +kernel
theorem d_mo_event_17 : decode q_mo_event.2.1 17 = .ok (.iconst (-1), 1) := by decide +kernel
theorem d_mo_event_18 : decode q_mo_event.2.1 18 = .ok (.ireturn, 1) := by decide +kernel
theorem d_mo_event_19 : decode q_mo_event.2.1 19 = .ok (.iload_n 2, 1) := by decide +kernel
theorem d_mo_event_20 : decode q_mo_event.2.1 20 = .ok (.iconst 0, 1) := by decide +kernel
theorem d_mo_event_21 : decode q_mo_event.2.1 21 = .ok (.iconst 2, 1) := by decide +kernel
theorem d_mo_event_22 : decode q_mo_event.2.1 22 = .ok (.invokestatic 91, 3) := by decide +kernel
theorem d_mo_event_25 : decode q_mo_event.2.1 25 = .ok (.ifCond .eq 30, 3) := by decide +kernel
theorem d_mo_event_28 : decode q_mo_event.2.1 28 = .ok (.aload_n 0, 1) := by decide +kernel
theorem d_mo_event_29 : decode q_mo_event.2.1 29 = .ok (.getfield 16, 3) := by decide +kernel
theorem d_mo_event_32 : decode q_mo_event.2.1 32 = .ok (.sipush 200, 3) := by decide +kernel
theorem d_mo_event_35 : decode q_mo_event.2.1 35 = .ok (.iconst 3, 1) := by decide +kernel
theorem d_mo_event_36 : decode q_mo_event.2.1 36 = .ok (.aload_n 0, 1) := by decide +kernel
theorem d_mo_event_37 : decode q_mo_event.2.1 37 = .ok (.getfield 16, 3) := by decide +kernel
theorem d_mo_event_40 : decode q_mo_event.2.1 40 = .ok (.bipush 9, 2) := by decide +kernel
theorem d_mo_event_42 : decode q_mo_event.2.1 42 = .ok (.iaload, 1) := by decide +kernel
theorem d_mo_event_43 : decode q_mo_event.2.1 43 = .ok (.iconst 1, 1) := by decide +kernel
theorem d_mo_event_44 : decode q_mo_event.2.1 44 = .ok (.isub, 1) := by decide +kernel
theorem d_mo_event_45 : decode q_mo_event.2.1 45 = .ok (.iload_n 1, 1) := by decide +kernel
theorem d_mo_event_46 : decode q_mo_event.2.1 46 = .ok (.isub, 1) := by decide +kernel
theorem d_mo_event_47 : decode q_mo_event.2.1 47 = .ok (.imul, 1) := by decide +kernel
theorem d_mo_event_48 : decode q_mo_event.2.1 48 = .ok (.iadd, 1) := by decide +kernel
theorem d_mo_event_49 : decode q_mo_event.2.1 49 = .ok (.iload_n 2, 1) := by decide +kernel
theorem d_mo_event_50 : decode q_mo_event.2.1 50 = .ok (.iadd, 1) := by decide +kernel
theorem d_mo_event_51 : decode q_mo_event.2.1 51 = .ok (.iaload, 1) := by decide +kernel
theorem d_mo_event_52 : decode q_mo_event.2.1 52 = .ok (.goto 5, 3) := by decide +kernel
theorem d_mo_event_55 : decode q_mo_event.2.1 55 = .ok (.bipush (-2), 2) := by decide +kernel
theorem d_mo_event_57 : decode q_mo_event.2.1 57 = .ok (.ireturn, 1) := by decide +kernel
theorem w_mo_event_L57 (l : Launch) (lo hi d : Nat) {h' : sm_H} {r0 : Int32} (s0 : Int32) (h : sm_H) (hf : f_mo_event_L57 s0 h = some (r0, h')) : sm_W l lo hi (d + 1) q_mo_event 57 [] [.int s0] h (some (.int r0)) h' := by
  unfold f_mo_event_L57 at hf
  obtain ⟨rfl, rfl⟩ := sm_ret2 hf
  exact sm_iret d_mo_event_57 rfl
theorem m_mo_event (l : Launch) (lo hi d : Nat) {a0 : Nat} {a1 : Int32} {a2 : Int32} {r0 : Int32} {h h' : sm_H} (e0 : sm_at lo hi (0, 10, 0) a0) (hf : f_mo_event a0 a1 a2 h = some (r0, h')) : sm_Met l lo hi (d + 1) q_mo_event [.ref a0, .int a1, .int a2] h (some (.int r0)) h' := by
  refine sm_Met.of (by decide +kernel) rfl ?_
  show sm_W l lo hi (d + 1) q_mo_event 0 [(0, .ref a0), (1, .int a1), (2, .int a2)] [] h (some (.int r0)) h'
  unfold f_mo_event at hf
  refine sm_iload_n 1 rfl d_mo_event_0 ?_
  refine sm_iconst (v := 0) (by decide) d_mo_event_1 ?_
  refine sm_aload_n 0 rfl d_mo_event_2 ?_
  refine sm_getR (n := 3) fl_mo_16 e0 rfl d_mo_event_3 ?_
  refine sm_bipush (v := 9) (by decide) d_mo_event_6 ?_
  obtain ⟨c1, hf⟩ := sm_gdE hf
  refine sm_iald (sm_at_arr (sm_inner e0 2 rfl rfl rfl)) c1 d_mo_event_8 ?_
  refine sm_iconst (v := 1) (by decide) d_mo_event_9 ?_
  refine sm_isub d_mo_event_10 ?_
  obtain ⟨r2, g3, c4, hf⟩ := sm_b2E hf
  refine sm_callS (As := [.int a1, .int 0, .int ((h (a0 + 3) (9 : Int32).toNatClampNeg) - 1)]) (rv := some (.int r2)) (h1 := g3) cvs_mo_91 (m_mo_in l lo hi _ c4) rfl rfl d_mo_event_11 ?_
  refine sm_if_ne 19 d_mo_event_14 rfl (fun c5 => ?_) (fun c5 => ?_)
  · have hf := sm_ifF c5 hf
    refine sm_iload_n 2 rfl d_mo_event_19 ?_
    refine sm_iconst (v := 0) (by decide) d_mo_event_20 ?_
    refine sm_iconst (v := 2) (by decide) d_mo_event_21 ?_
    obtain ⟨r6, g7, c8, hf⟩ := sm_b2E hf
    refine sm_callS (As := [.int a2, .int 0, .int 2]) (rv := some (.int r6)) (h1 := g7) cvs_mo_91 (m_mo_in l lo hi _ c8) rfl rfl d_mo_event_22 ?_
    refine sm_if_eq 55 d_mo_event_25 rfl (fun c9 => ?_) (fun c9 => ?_)
    · have hf := sm_ifT c9 hf
      refine sm_bipush (v := (-2)) (by decide) d_mo_event_55 ?_
      refine sm_sub [] rfl ?_
      exact w_mo_event_L57 l lo hi d _ _ hf
    · have hf := sm_ifF c9 hf
      refine sm_aload_n 0 rfl d_mo_event_28 ?_
      refine sm_getR (n := 3) fl_mo_16 e0 rfl d_mo_event_29 ?_
      refine sm_sipush (v := 200) (by decide) d_mo_event_32 ?_
      refine sm_iconst (v := 3) (by decide) d_mo_event_35 ?_
      refine sm_aload_n 0 rfl d_mo_event_36 ?_
      refine sm_getR (n := 3) fl_mo_16 e0 rfl d_mo_event_37 ?_
      refine sm_bipush (v := 9) (by decide) d_mo_event_40 ?_
      obtain ⟨c10, hf⟩ := sm_gdE hf
      refine sm_iald (sm_at_arr (sm_inner e0 2 rfl rfl rfl)) c10 d_mo_event_42 ?_
      refine sm_iconst (v := 1) (by decide) d_mo_event_43 ?_
      refine sm_isub d_mo_event_44 ?_
      refine sm_iload_n 1 rfl d_mo_event_45 ?_
      refine sm_isub d_mo_event_46 ?_
      refine sm_imul d_mo_event_47 ?_
      refine sm_iadd d_mo_event_48 ?_
      refine sm_iload_n 2 rfl d_mo_event_49 ?_
      refine sm_iadd d_mo_event_50 ?_
      obtain ⟨c11, hf⟩ := sm_gdE hf
      refine sm_iald (sm_at_arr (sm_inner e0 2 rfl rfl rfl)) c11 d_mo_event_51 ?_
      refine sm_goto 57 d_mo_event_52 rfl ?_
      refine sm_sub [] rfl ?_
      exact w_mo_event_L57 l lo hi d _ _ hf
  · have hf := sm_ifT c5 hf
    refine sm_iconst (v := (-1)) (by decide) d_mo_event_17 ?_
    obtain ⟨rfl, rfl⟩ := sm_ret2 hf
    exact sm_iret d_mo_event_18 rfl
theorem d_mo_putAside_0 : decode q_mo_putAside.2.1 0 = .ok (.iconst 0, 1) := by decide +kernel
theorem d_mo_putAside_1 : decode q_mo_putAside.2.1 1 = .ok (.istore_n 1, 1) := by decide +kernel
theorem d_mo_putAside_2 : decode q_mo_putAside.2.1 2 = .ok (.iload_n 1, 1) := by decide +kernel
theorem d_mo_putAside_3 : decode q_mo_putAside.2.1 3 = .ok (.sipush 350, 3) := by decide +kernel
theorem d_mo_putAside_6 : decode q_mo_putAside.2.1 6 = .ok (.if_icmp .ge 21, 3) := by decide +kernel
theorem d_mo_putAside_9 : decode q_mo_putAside.2.1 9 = .ok (.aload_n 0, 1) := by decide +kernel
theorem d_mo_putAside_10 : decode q_mo_putAside.2.1 10 = .ok (.getfield 19, 3) := by decide +kernel
theorem d_mo_putAside_13 : decode q_mo_putAside.2.1 13 = .ok (.iload_n 1, 1) := by decide +kernel
theorem d_mo_putAside_14 : decode q_mo_putAside.2.1 14 = .ok (.aload_n 0, 1) := by decide +kernel
theorem d_mo_putAside_15 : decode q_mo_putAside.2.1 15 = .ok (.getfield 16, 3) := by decide +kernel
theorem d_mo_putAside_18 : decode q_mo_putAside.2.1 18 = .ok (.iload_n 1, 1) := by decide +kernel
theorem d_mo_putAside_19 : decode q_mo_putAside.2.1 19 = .ok (.iaload, 1) := by decide +kernel
theorem d_mo_putAside_20 : decode q_mo_putAside.2.1 20 = .ok (.iastore, 1) := by decide +kernel
theorem d_mo_putAside_21 : decode q_mo_putAside.2.1 21 = .ok (.iinc 1 1, 3) := by decide +kernel
theorem d_mo_putAside_24 : decode q_mo_putAside.2.1 24 = .ok (.goto (-22), 3) := by decide +kernel
theorem d_mo_putAside_27 : decode q_mo_putAside.2.1 27 = .ok (.return_, 1) := by decide +kernel
theorem w_mo_putAside_L2 (l : Launch) (lo hi d : Nat) {h' : sm_H} : ∀ (n : Nat) (a0 : Nat) (a1 : Int32) (h : sm_H) (e0 : sm_at lo hi (0, 10, 0) a0) (hf : f_mo_putAside_L2 n a0 a1 h = some h'), sm_W l lo hi (d) q_mo_putAside 2 [(0, .ref a0), (1, .int a1)] [] h none h' := by
  intro n
  induction n with
  | zero =>
    intro a0 a1 h e0 hf
    have z : (none : Option sm_H) = some _ := hf
    cases z
  | succ n ih =>
    intro a0 a1 h e0 hf
    unfold f_mo_putAside_L2 at hf
    refine sm_iload_n 1 rfl d_mo_putAside_2 ?_
    refine sm_sipush (v := 350) (by decide) d_mo_putAside_3 ?_
    refine sm_icmp_ge 27 d_mo_putAside_6 rfl (fun c1 => ?_) (fun c1 => ?_)
    · have hf := sm_ifT c1 hf
      obtain rfl := sm_ret1 hf
      exact sm_vret d_mo_putAside_27 rfl
    · have hf := sm_ifF c1 hf
      refine sm_aload_n 0 rfl d_mo_putAside_9 ?_
      refine sm_getR (n := 4) fl_mo_19 e0 rfl d_mo_putAside_10 ?_
      refine sm_iload_n 1 rfl d_mo_putAside_13 ?_
      refine sm_aload_n 0 rfl d_mo_putAside_14 ?_
      refine sm_getR (n := 3) fl_mo_16 e0 rfl d_mo_putAside_15 ?_
      refine sm_iload_n 1 rfl d_mo_putAside_18 ?_
      obtain ⟨c2, hf⟩ := sm_gdE hf
      refine sm_iald (sm_at_arr (sm_inner e0 2 rfl rfl rfl)) c2 d_mo_putAside_19 ?_
      obtain ⟨c3, hf⟩ := sm_gdE hf
      refine sm_iast (sm_at_arr (sm_inner e0 3 rfl rfl rfl)) c3 d_mo_putAside_20 ?_
      refine sm_nmH (fun g4 w5 => ?_)
      have hf := sm_letV w5 hf
      obtain ⟨x6, w7⟩ : ∃ v : Int32, v = a1 + 1 := ⟨_, rfl⟩
      have hf := sm_letV w7 hf
      refine sm_iinc (v := x6) (lv' := [(1, .int x6), (0, .ref a0)]) 1 rfl (by rw [w7]; rfl) d_mo_putAside_21 rfl rfl ?_
      refine sm_goto 2 d_mo_putAside_24 rfl ?_
      refine sm_sub [1, 0] rfl ?_
      exact ih _ _ _ e0 hf
theorem m_mo_putAside (l : Launch) (lo hi d : Nat) {a0 : Nat} {h h' : sm_H} (e0 : sm_at lo hi (0, 10, 0) a0) (hf : f_mo_putAside a0 h = some h') : sm_Met l lo hi (d) q_mo_putAside [.ref a0] h none h' := by
  refine sm_Met.of (by decide +kernel) rfl ?_
  show sm_W l lo hi (d) q_mo_putAside 0 [(0, .ref a0)] [] h none h'
  unfold f_mo_putAside at hf
  refine sm_iconst (v := 0) (by decide) d_mo_putAside_0 ?_
  refine sm_istore_n (lv' := [(1, .int 0), (0, .ref a0)]) d_mo_putAside_1 rfl rfl ?_
  refine sm_sub [1, 0] rfl ?_
  exact w_mo_putAside_L2 l lo hi d sm_N _ _ _ e0 hf
theorem d_mo_putBack_0 : decode q_mo_putBack.2.1 0 = .ok (.iconst 0, 1) := by decide +kernel
theorem d_mo_putBack_1 : decode q_mo_putBack.2.1 1 = .ok (.istore_n 1, 1) := by decide +kernel
theorem d_mo_putBack_2 : decode q_mo_putBack.2.1 2 = .ok (.iload_n 1, 1) := by decide +kernel
theorem d_mo_putBack_3 : decode q_mo_putBack.2.1 3 = .ok (.sipush 350, 3) := by decide +kernel
theorem d_mo_putBack_6 : decode q_mo_putBack.2.1 6 = .ok (.if_icmp .ge 21, 3) := by decide +kernel
theorem d_mo_putBack_9 : decode q_mo_putBack.2.1 9 = .ok (.aload_n 0, 1) := by decide +kernel
theorem d_mo_putBack_10 : decode q_mo_putBack.2.1 10 = .ok (.getfield 16, 3) := by decide +kernel
theorem d_mo_putBack_13 : decode q_mo_putBack.2.1 13 = .ok (.iload_n 1, 1) := by decide +kernel
theorem d_mo_putBack_14 : decode q_mo_putBack.2.1 14 = .ok (.aload_n 0, 1) := by decide +kernel
theorem d_mo_putBack_15 : decode q_mo_putBack.2.1 15 = .ok (.getfield 19, 3) := by decide +kernel
theorem d_mo_putBack_18 : decode q_mo_putBack.2.1 18 = .ok (.iload_n 1, 1) := by decide +kernel
theorem d_mo_putBack_19 : decode q_mo_putBack.2.1 19 = .ok (.iaload, 1) := by decide +kernel
theorem d_mo_putBack_20 : decode q_mo_putBack.2.1 20 = .ok (.iastore, 1) := by decide +kernel
theorem d_mo_putBack_21 : decode q_mo_putBack.2.1 21 = .ok (.iinc 1 1, 3) := by decide +kernel
theorem d_mo_putBack_24 : decode q_mo_putBack.2.1 24 = .ok (.goto (-22), 3) := by decide +kernel
theorem d_mo_putBack_27 : decode q_mo_putBack.2.1 27 = .ok (.return_, 1) := by decide +kernel
theorem w_mo_putBack_L2 (l : Launch) (lo hi d : Nat) {h' : sm_H} : ∀ (n : Nat) (a0 : Nat) (a1 : Int32) (h : sm_H) (e0 : sm_at lo hi (0, 10, 0) a0) (hf : f_mo_putBack_L2 n a0 a1 h = some h'), sm_W l lo hi (d) q_mo_putBack 2 [(0, .ref a0), (1, .int a1)] [] h none h' := by
  intro n
  induction n with
  | zero =>
    intro a0 a1 h e0 hf
    have z : (none : Option sm_H) = some _ := hf
    cases z
  | succ n ih =>
    intro a0 a1 h e0 hf
    unfold f_mo_putBack_L2 at hf
    refine sm_iload_n 1 rfl d_mo_putBack_2 ?_
    refine sm_sipush (v := 350) (by decide) d_mo_putBack_3 ?_
    refine sm_icmp_ge 27 d_mo_putBack_6 rfl (fun c1 => ?_) (fun c1 => ?_)
    · have hf := sm_ifT c1 hf
      obtain rfl := sm_ret1 hf
      exact sm_vret d_mo_putBack_27 rfl
    · have hf := sm_ifF c1 hf
      refine sm_aload_n 0 rfl d_mo_putBack_9 ?_
      refine sm_getR (n := 3) fl_mo_16 e0 rfl d_mo_putBack_10 ?_
      refine sm_iload_n 1 rfl d_mo_putBack_13 ?_
      refine sm_aload_n 0 rfl d_mo_putBack_14 ?_
      refine sm_getR (n := 4) fl_mo_19 e0 rfl d_mo_putBack_15 ?_
      refine sm_iload_n 1 rfl d_mo_putBack_18 ?_
      obtain ⟨c2, hf⟩ := sm_gdE hf
      refine sm_iald (sm_at_arr (sm_inner e0 3 rfl rfl rfl)) c2 d_mo_putBack_19 ?_
      obtain ⟨c3, hf⟩ := sm_gdE hf
      refine sm_iast (sm_at_arr (sm_inner e0 2 rfl rfl rfl)) c3 d_mo_putBack_20 ?_
      refine sm_nmH (fun g4 w5 => ?_)
      have hf := sm_letV w5 hf
      obtain ⟨x6, w7⟩ : ∃ v : Int32, v = a1 + 1 := ⟨_, rfl⟩
      have hf := sm_letV w7 hf
      refine sm_iinc (v := x6) (lv' := [(1, .int x6), (0, .ref a0)]) 1 rfl (by rw [w7]; rfl) d_mo_putBack_21 rfl rfl ?_
      refine sm_goto 2 d_mo_putBack_24 rfl ?_
      refine sm_sub [1, 0] rfl ?_
      exact ih _ _ _ e0 hf
theorem m_mo_putBack (l : Launch) (lo hi d : Nat) {a0 : Nat} {h h' : sm_H} (e0 : sm_at lo hi (0, 10, 0) a0) (hf : f_mo_putBack a0 h = some h') : sm_Met l lo hi (d) q_mo_putBack [.ref a0] h none h' := by
  refine sm_Met.of (by decide +kernel) rfl ?_
  show sm_W l lo hi (d) q_mo_putBack 0 [(0, .ref a0)] [] h none h'
  unfold f_mo_putBack at hf
  refine sm_iconst (v := 0) (by decide) d_mo_putBack_0 ?_
  refine sm_istore_n (lv' := [(1, .int 0), (0, .ref a0)]) d_mo_putBack_1 rfl rfl ?_
  refine sm_sub [1, 0] rfl ?_
  exact w_mo_putBack_L2 l lo hi d sm_N _ _ _ e0 hf
theorem d_mo_allSmoke_0 : decode q_mo_allSmoke.2.1 0 = .ok (.aload_n 0, 1) := by decide +kernel
theorem d_mo_allSmoke_1 : decode q_mo_allSmoke.2.1 1 = .ok (.getfield 16, 3) := by decide +kernel
theorem d_mo_allSmoke_4 : decode q_mo_allSmoke.2.1 4 = .ok (.iconst 4, 1) := by decide +kernel
theorem d_mo_allSmoke_5 : decode q_mo_allSmoke.2.1 5 = .ok (.iaload, 1) := by decide +kernel
theorem d_mo_allSmoke_6 : decode q_mo_allSmoke.2.1 6 = .ok (.istore_n 1, 1) := by decide +kernel
theorem d_mo_allSmoke_7 : decode q_mo_allSmoke.2.1 7 = .ok (.iconst 0, 1) := by decide +kernel
theorem d_mo_allSmoke_8 : decode q_mo_allSmoke.2.1 8 = .ok (.istore_n 2, 1) := by decide +kernel
theorem d_mo_allSmoke_9 : decode q_mo_allSmoke.2.1 9 = .ok (.iload_n 2, 1) := by decide +kernel
theorem d_mo_allSmoke_10 : decode q_mo_allSmoke.2.1 10 = .ok (.aload_n 0, 1) := by decide +kernel
theorem d_mo_allSmoke_11 : decode q_mo_allSmoke.2.1 11 = .ok (.getfield 7, 3) := by decide +kernel
theorem d_mo_allSmoke_14 : decode q_mo_allSmoke.2.1 14 = .ok (.iconst 0, 1) := by decide +kernel
theorem d_mo_allSmoke_15 : decode q_mo_allSmoke.2.1 15 = .ok (.iaload, 1) := by decide +kernel
theorem d_mo_allSmoke_16 : decode q_mo_allSmoke.2.1 16 = .ok (.if_icmp .ge 18, 3) := by decide +kernel
theorem d_mo_allSmoke_19 : decode q_mo_allSmoke.2.1 19 = .ok (.iload_n 1, 1) := by decide +kernel
theorem d_mo_allSmoke_20 : decode q_mo_allSmoke.2.1 20 = .ok (.aload_n 0, 1) := by decide +kernel
theorem d_mo_allSmoke_21 : decode q_mo_allSmoke.2.1 21 = .ok (.iload_n 2, 1) := by decide +kernel
theorem d_mo_allSmoke_22 : decode q_mo_allSmoke.2.1 22 = .ok (.iconst 0, 1) := by decide +kernel
theorem d_mo_allSmoke_23 : decode q_mo_allSmoke.2.1 23 = .ok (.invokevirtual 314, 3) := by decide +kernel
theorem d_mo_allSmoke_26 : decode q_mo_allSmoke.2.1 26 = .ok (.iadd, 1) := by decide +kernel
theorem d_mo_allSmoke_27 : decode q_mo_allSmoke.2.1 27 = .ok (.istore_n 1, 1) := by decide +kernel
theorem d_mo_allSmoke_28 : decode q_mo_allSmoke.2.1 28 = .ok (.iinc 2 1, 3) := by decide +kernel
theorem d_mo_allSmoke_31 : decode q_mo_allSmoke.2.1 31 = .ok (.goto (-22), 3) := by decide +kernel
theorem d_mo_allSmoke_34 : decode q_mo_allSmoke.2.1 34 = .ok (.iload_n 1, 1) := by decide +kernel
theorem d_mo_allSmoke_35 : decode q_mo_allSmoke.2.1 35 = .ok (.ireturn, 1) := by decide +kernel
theorem w_mo_allSmoke_L34 (l : Launch) (lo hi d : Nat) {h' : sm_H} {r0 : Int32} (a1 : Int32) (h : sm_H) (hf : f_mo_allSmoke_L34 a1 h = some (r0, h')) : sm_W l lo hi (d + 1) q_mo_allSmoke 34 [(1, .int a1)] [] h (some (.int r0)) h' := by
  unfold f_mo_allSmoke_L34 at hf
  refine sm_iload_n 0 rfl d_mo_allSmoke_34 ?_
  obtain ⟨rfl, rfl⟩ := sm_ret2 hf
  exact sm_iret d_mo_allSmoke_35 rfl
theorem w_mo_allSmoke_L9 (l : Launch) (lo hi d : Nat) {h' : sm_H} {r0 : Int32} : ∀ (n : Nat) (a0 : Nat) (a1 : Int32) (a2 : Int32) (h : sm_H) (e0 : sm_at lo hi (0, 10, 0) a0) (hf : f_mo_allSmoke_L9 n a0 a1 a2 h = some (r0, h')), sm_W l lo hi (d + 1) q_mo_allSmoke 9 [(0, .ref a0), (1, .int a1), (2, .int a2)] [] h (some (.int r0)) h' := by
  intro n
  induction n with
  | zero =>
    intro a0 a1 a2 h e0 hf
    have z : (none : Option (Int32 × sm_H)) = some _ := hf
    cases z
  | succ n ih =>
    intro a0 a1 a2 h e0 hf
    unfold f_mo_allSmoke_L9 at hf
    refine sm_iload_n 2 rfl d_mo_allSmoke_9 ?_
    refine sm_aload_n 0 rfl d_mo_allSmoke_10 ?_
    refine sm_getR (n := 1) fl_mo_7 e0 rfl d_mo_allSmoke_11 ?_
    refine sm_iconst (v := 0) (by decide) d_mo_allSmoke_14 ?_
    obtain ⟨c4, hf⟩ := sm_gdE hf
    refine sm_iald (sm_at_arr (sm_inner e0 0 rfl rfl rfl)) c4 d_mo_allSmoke_15 ?_
    refine sm_icmp_ge 34 d_mo_allSmoke_16 rfl (fun c5 => ?_) (fun c5 => ?_)
    · have hf := sm_ifT c5 hf
      refine sm_sub [1] rfl ?_
      exact w_mo_allSmoke_L34 l lo hi d _ _ hf
    · have hf := sm_ifF c5 hf
      refine sm_iload_n 1 rfl d_mo_allSmoke_19 ?_
      refine sm_aload_n 0 rfl d_mo_allSmoke_20 ?_
      refine sm_iload_n 2 rfl d_mo_allSmoke_21 ?_
      refine sm_iconst (v := 0) (by decide) d_mo_allSmoke_22 ?_
      obtain ⟨r6, g7, c8, hf⟩ := sm_b2E hf
      refine sm_callV (As := [.int a2, .int 0]) (rv := some (.int r6)) (h1 := g7) (c := 10) cvv_mo_314 rfl rfl e0 (m_mo_zoneIs l lo hi _ e0 c8) rfl rfl d_mo_allSmoke_23 ?_
      refine sm_iadd d_mo_allSmoke_26 ?_
      refine sm_nmI (fun x9 w10 => ?_)
      have hf := sm_letV w10 hf
      refine sm_istore_n (lv' := [(1, .int x9), (0, .ref a0), (2, .int a2)]) d_mo_allSmoke_27 rfl rfl ?_
      obtain ⟨x11, w12⟩ : ∃ v : Int32, v = a2 + 1 := ⟨_, rfl⟩
      have hf := sm_letV w12 hf
      refine sm_iinc (v := x11) (lv' := [(2, .int x11), (1, .int x9), (0, .ref a0)]) 2 rfl (by rw [w12]; rfl) d_mo_allSmoke_28 rfl rfl ?_
      refine sm_goto 9 d_mo_allSmoke_31 rfl ?_
      refine sm_sub [2, 1, 0] rfl ?_
      exact ih _ _ _ _ e0 hf
theorem m_mo_allSmoke (l : Launch) (lo hi d : Nat) {a0 : Nat} {r0 : Int32} {h h' : sm_H} (e0 : sm_at lo hi (0, 10, 0) a0) (hf : f_mo_allSmoke a0 h = some (r0, h')) : sm_Met l lo hi (d + 1) q_mo_allSmoke [.ref a0] h (some (.int r0)) h' := by
  refine sm_Met.of (by decide +kernel) rfl ?_
  show sm_W l lo hi (d + 1) q_mo_allSmoke 0 [(0, .ref a0)] [] h (some (.int r0)) h'
  unfold f_mo_allSmoke at hf
  refine sm_aload_n 0 rfl d_mo_allSmoke_0 ?_
  refine sm_getR (n := 3) fl_mo_16 e0 rfl d_mo_allSmoke_1 ?_
  refine sm_iconst (v := 4) (by decide) d_mo_allSmoke_4 ?_
  obtain ⟨c1, hf⟩ := sm_gdE hf
  refine sm_iald (sm_at_arr (sm_inner e0 2 rfl rfl rfl)) c1 d_mo_allSmoke_5 ?_
  refine sm_nmI (fun x2 w3 => ?_)
  have hf := sm_letV w3 hf
  refine sm_istore_n (lv' := [(1, .int x2), (0, .ref a0)]) d_mo_allSmoke_6 rfl rfl ?_
  refine sm_iconst (v := 0) (by decide) d_mo_allSmoke_7 ?_
  refine sm_istore_n (lv' := [(2, .int 0), (1, .int x2), (0, .ref a0)]) d_mo_allSmoke_8 rfl rfl ?_
  refine sm_sub [2, 1, 0] rfl ?_
  exact w_mo_allSmoke_L9 l lo hi d sm_N _ _ _ _ e0 hf
theorem d_mo_smokeAfter_0 : decode q_mo_smokeAfter.2.1 0 = .ok (.aload_n 0, 1) := by decide +kernel
theorem d_mo_smokeAfter_1 : decode q_mo_smokeAfter.2.1 1 = .ok (.iload_n 1, 1) := by decide +kernel
theorem d_mo_smokeAfter_2 : decode q_mo_smokeAfter.2.1 2 = .ok (.invokevirtual 430, 3) := by decide +kernel
theorem d_mo_smokeAfter_5 : decode q_mo_smokeAfter.2.1 5 = .ok (.ifCond .ne 5, 3) := by decide +kernel
theorem d_mo_smokeAfter_8 : decode q_mo_smokeAfter.2.1 8 = .ok (.iconst (-1), 1) := by decide +kernel
theorem d_mo_smokeAfter_9 : decode q_mo_smokeAfter.2.1 9 = .ok (.ireturn, 1) := by decide +kernel
theorem d_mo_smokeAfter_10 : decode q_mo_smokeAfter.2.1 10 = .ok (.iload_n 2, 1) := by decide +kernel
theorem d_mo_smokeAfter_11 : decode q_mo_smokeAfter.2.1 11 = .ok (.iconst 0, 1) := by decide +kernel
theorem d_mo_smokeAfter_12 : decode q_mo_smokeAfter.2.1 12 = .ok (.sipush 200, 3) := by decide +kernel
theorem d_mo_smokeAfter_15 : decode q_mo_smokeAfter.2.1 15 = .ok (.invokestatic 91, 3) := by decide +kernel
theorem d_mo_smokeAfter_18 : decode q_mo_smokeAfter.2.1 18 = .ok (.ifCond .ne 6, 3) := by decide +kernel
theorem d_mo_smokeAfter_21 : decode q_mo_smokeAfter.2.1 21 = .ok (.bipush (-2), 2) := by decide +kernel
theorem d_mo_smokeAfter_23 : decode q_mo_smokeAfter.2.1 23 = .ok (.ireturn, 1) := by decide +kernel
theorem d_mo_smokeAfter_24 : decode q_mo_smokeAfter.2.1 24 = .ok (.aload_n 0, 1) := by decide +kernel
theorem d_mo_smokeAfter_25 : decode q_mo_smokeAfter.2.1 25 = .ok (.invokevirtual 450, 3) := by decide +kernel
theorem d_mo_smokeAfter_28 : decode q_mo_smokeAfter.2.1 28 = .ok (.aload_n 0, 1) := by decide +kernel
theorem d_mo_smokeAfter_29 : decode q_mo_smokeAfter.2.1 29 = .ok (.iload_n 2, 1) := by decide +kernel
theorem d_mo_smokeAfter_30 : decode q_mo_smokeAfter.2.1 30 = .ok (.invokevirtual 427, 3) := by decide +kernel
theorem d_mo_smokeAfter_33 : decode q_mo_smokeAfter.2.1 33 = .ok (.pop, 1) := by decide +kernel
theorem d_mo_smokeAfter_34 : decode q_mo_smokeAfter.2.1 34 = .ok (.aload_n 0, 1) := by decide +kernel
theorem d_mo_smokeAfter_35 : decode q_mo_smokeAfter.2.1 35 = .ok (.iload_n 1, 1) := by decide +kernel
theorem d_mo_smokeAfter_36 : decode q_mo_smokeAfter.2.1 36 = .ok (.iconst 0, 1) := by decide +kernel
theorem d_mo_smokeAfter_37 : decode q_mo_smokeAfter.2.1 37 = .ok (.invokevirtual 314, 3) := by decide +kernel
theorem d_mo_smokeAfter_40 : decode q_mo_smokeAfter.2.1 40 = .ok (.istore_n 3, 1) := by decide +kernel
theorem d_mo_smokeAfter_41 : decode q_mo_smokeAfter.2.1 41 = .ok (.aload_n 0, 1) := by decide +kernel
theorem d_mo_smokeAfter_42 : decode q_mo_smokeAfter.2.1 42 = .ok (.invokevirtual 453, 3) := by decide +kernel
theorem d_mo_smokeAfter_45 : decode q_mo_smokeAfter.2.1 45 = .ok (.iload_n 3, 1) := by decide +kernel
theorem d_mo_smokeAfter_46 : decode q_mo_smokeAfter.2.1 46 = .ok (.ireturn, 1) := by decide +kernel
theorem m_mo_smokeAfter (l : Launch) (lo hi d : Nat) {a0 : Nat} {a1 : Int32} {a2 : Int32} {r0 : Int32} {h h' : sm_H} (e0 : sm_at lo hi (0, 10, 0) a0) (hf : f_mo_smokeAfter a0 a1 a2 h = some (r0, h')) : sm_Met l lo hi (d + 8) q_mo_smokeAfter [.ref a0, .int a1, .int a2] h (some (.int r0)) h' := by
  refine sm_Met.of (by decide +kernel) rfl ?_
  show sm_W l lo hi (d + 8) q_mo_smokeAfter 0 [(0, .ref a0), (1, .int a1), (2, .int a2)] [] h (some (.int r0)) h'
  unfold f_mo_smokeAfter at hf
  refine sm_aload_n 0 rfl d_mo_smokeAfter_0 ?_
  refine sm_iload_n 1 rfl d_mo_smokeAfter_1 ?_
  obtain ⟨r1, g2, c3, hf⟩ := sm_b2E hf
  refine sm_callV (As := [.int a1]) (rv := some (.int r1)) (h1 := g2) (c := 10) cvv_mo_430 rfl rfl e0 (m_mo_isZone l lo hi _ e0 c3) rfl rfl d_mo_smokeAfter_2 ?_
  refine sm_if_ne 10 d_mo_smokeAfter_5 rfl (fun c4 => ?_) (fun c4 => ?_)
  · have hf := sm_ifF c4 hf
    refine sm_iload_n 2 rfl d_mo_smokeAfter_10 ?_
    refine sm_iconst (v := 0) (by decide) d_mo_smokeAfter_11 ?_
    refine sm_sipush (v := 200) (by decide) d_mo_smokeAfter_12 ?_
    obtain ⟨r5, g6, c7, hf⟩ := sm_b2E hf
    refine sm_callS (As := [.int a2, .int 0, .int 200]) (rv := some (.int r5)) (h1 := g6) cvs_mo_91 (m_mo_in l lo hi _ c7) rfl rfl d_mo_smokeAfter_15 ?_
    refine sm_if_ne 24 d_mo_smokeAfter_18 rfl (fun c8 => ?_) (fun c8 => ?_)
    · have hf := sm_ifF c8 hf
      refine sm_aload_n 0 rfl d_mo_smokeAfter_24 ?_
      obtain ⟨g9, c10, hf⟩ := sm_bindE hf
      refine sm_callV (As := []) (rv := none) (h1 := g9) (c := 10) cvv_mo_450 rfl rfl e0 (m_mo_putAside l lo hi _ e0 c10) rfl rfl d_mo_smokeAfter_25 ?_
      refine sm_aload_n 0 rfl d_mo_smokeAfter_28 ?_
      refine sm_iload_n 2 rfl d_mo_smokeAfter_29 ?_
      obtain ⟨r11, g12, c13, hf⟩ := sm_b2E hf
      refine sm_callV (As := [.int a2]) (rv := some (.int r11)) (h1 := g12) (c := 10) cvv_mo_427 rfl rfl e0 (m_mo_passTicks l lo hi _ e0 c13) rfl rfl d_mo_smokeAfter_30 ?_
      refine sm_pop rfl d_mo_smokeAfter_33 ?_
      refine sm_aload_n 0 rfl d_mo_smokeAfter_34 ?_
      refine sm_iload_n 1 rfl d_mo_smokeAfter_35 ?_
      refine sm_iconst (v := 0) (by decide) d_mo_smokeAfter_36 ?_
      obtain ⟨r14, g15, c16, hf⟩ := sm_b2E hf
      refine sm_callV (As := [.int a1, .int 0]) (rv := some (.int r14)) (h1 := g15) (c := 10) cvv_mo_314 rfl rfl e0 (m_mo_zoneIs l lo hi _ e0 c16) rfl rfl d_mo_smokeAfter_37 ?_
      refine sm_istore_n (lv' := [(3, .int r14), (0, .ref a0), (1, .int a1), (2, .int a2)]) d_mo_smokeAfter_40 rfl rfl ?_
      refine sm_aload_n 1 rfl d_mo_smokeAfter_41 ?_
      obtain ⟨g17, c18, hf⟩ := sm_bindE hf
      refine sm_callV (As := []) (rv := none) (h1 := g17) (c := 10) cvv_mo_453 rfl rfl e0 (m_mo_putBack l lo hi _ e0 c18) rfl rfl d_mo_smokeAfter_42 ?_
      refine sm_iload_n 0 rfl d_mo_smokeAfter_45 ?_
      obtain ⟨rfl, rfl⟩ := sm_ret2 hf
      exact sm_iret d_mo_smokeAfter_46 rfl
    · have hf := sm_ifT c8 hf
      refine sm_bipush (v := (-2)) (by decide) d_mo_smokeAfter_21 ?_
      obtain ⟨rfl, rfl⟩ := sm_ret2 hf
      exact sm_iret d_mo_smokeAfter_23 rfl
  · have hf := sm_ifT c4 hf
    refine sm_iconst (v := (-1)) (by decide) d_mo_smokeAfter_8 ?_
    obtain ⟨rfl, rfl⟩ := sm_ret2 hf
    exact sm_iret d_mo_smokeAfter_9 rfl
theorem d_mo_allSmokeAfter_0 : decode q_mo_allSmokeAfter.2.1 0 = .ok (.iload_n 1, 1) := by decide +kernel
theorem d_mo_allSmokeAfter_1 : decode q_mo_allSmokeAfter.2.1 1 = .ok (.iconst 0, 1) := by decide +kernel
theorem d_mo_allSmokeAfter_2 : decode q_mo_allSmokeAfter.2.1 2 = .ok (.sipush 200, 3) := by decide +kernel
theorem d_mo_allSmokeAfter_5 : decode q_mo_allSmokeAfter.2.1 5 = .ok (.invokestatic 91, 3) := by decide +kernel
theorem d_mo_allSmokeAfter_8 : decode q_mo_allSmokeAfter.2.1 8 = .ok (.ifCond .ne 6, 3) := by decide +kernel
theorem d_mo_allSmokeAfter_11 : decode q_mo_allSmokeAfter.2.1 11 = .ok (.bipush (-2), 2) := by decide +kernel
theorem d_mo_allSmokeAfter_13 : decode q_mo_allSmokeAfter.2.1 13 = .ok (.ireturn, 1) := by decide +kernel
theorem d_mo_allSmokeAfter_14 : decode q_mo_allSmokeAfter.2.1 14 = .ok (.aload_n 0, 1) := by decide +kernel
theorem d_mo_allSmokeAfter_15 : decode q_mo_allSmokeAfter.2.1 15 = .ok (.invokevirtual 450, 3) := by decide +kernel
theorem d_mo_allSmokeAfter_18 : decode q_mo_allSmokeAfter.2.1 18 = .ok (.aload_n 0, 1) := by decide +kernel
theorem d_mo_allSmokeAfter_19 : decode q_mo_allSmokeAfter.2.1 19 = .ok (.iload_n 1, 1) := by decide +kernel
theorem d_mo_allSmokeAfter_20 : decode q_mo_allSmokeAfter.2.1 20 = .ok (.invokevirtual 427, 3) := by decide +kernel
theorem d_mo_allSmokeAfter_23 : decode q_mo_allSmokeAfter.2.1 23 = .ok (.pop, 1) := by decide +kernel
theorem d_mo_allSmokeAfter_24 : decode q_mo_allSmokeAfter.2.1 24 = .ok (.aload_n 0, 1) := by decide +kernel
theorem d_mo_allSmokeAfter_25 : decode q_mo_allSmokeAfter.2.1 25 = .ok (.invokevirtual 456, 3) := by decide +kernel
theorem d_mo_allSmokeAfter_28 : decode q_mo_allSmokeAfter.2.1 28 = .ok (.istore_n 2, 1) := by decide +kernel
theorem d_mo_allSmokeAfter_29 : decode q_mo_allSmokeAfter.2.1 29 = .ok (.aload_n 0, 1) := by decide +kernel
theorem d_mo_allSmokeAfter_30 : decode q_mo_allSmokeAfter.2.1 30 = .ok (.invokevirtual 453, 3) := by decide +kernel
theorem d_mo_allSmokeAfter_33 : decode q_mo_allSmokeAfter.2.1 33 = .ok (.iload_n 2, 1) := by decide +kernel
theorem d_mo_allSmokeAfter_34 : decode q_mo_allSmokeAfter.2.1 34 = .ok (.ireturn, 1) := by decide +kernel
theorem m_mo_allSmokeAfter (l : Launch) (lo hi d : Nat) {a0 : Nat} {a1 : Int32} {r0 : Int32} {h h' : sm_H} (e0 : sm_at lo hi (0, 10, 0) a0) (hf : f_mo_allSmokeAfter a0 a1 h = some (r0, h')) : sm_Met l lo hi (d + 8) q_mo_allSmokeAfter [.ref a0, .int a1] h (some (.int r0)) h' := by
  refine sm_Met.of (by decide +kernel) rfl ?_
  show sm_W l lo hi (d + 8) q_mo_allSmokeAfter 0 [(0, .ref a0), (1, .int a1)] [] h (some (.int r0)) h'
  unfold f_mo_allSmokeAfter at hf
  refine sm_iload_n 1 rfl d_mo_allSmokeAfter_0 ?_
  refine sm_iconst (v := 0) (by decide) d_mo_allSmokeAfter_1 ?_
  refine sm_sipush (v := 200) (by decide) d_mo_allSmokeAfter_2 ?_
  obtain ⟨r1, g2, c3, hf⟩ := sm_b2E hf
  refine sm_callS (As := [.int a1, .int 0, .int 200]) (rv := some (.int r1)) (h1 := g2) cvs_mo_91 (m_mo_in l lo hi _ c3) rfl rfl d_mo_allSmokeAfter_5 ?_
  refine sm_if_ne 14 d_mo_allSmokeAfter_8 rfl (fun c4 => ?_) (fun c4 => ?_)
  · have hf := sm_ifF c4 hf
    refine sm_aload_n 0 rfl d_mo_allSmokeAfter_14 ?_
    obtain ⟨g5, c6, hf⟩ := sm_bindE hf
    refine sm_callV (As := []) (rv := none) (h1 := g5) (c := 10) cvv_mo_450 rfl rfl e0 (m_mo_putAside l lo hi _ e0 c6) rfl rfl d_mo_allSmokeAfter_15 ?_
    refine sm_aload_n 0 rfl d_mo_allSmokeAfter_18 ?_
    refine sm_iload_n 1 rfl d_mo_allSmokeAfter_19 ?_
    obtain ⟨r7, g8, c9, hf⟩ := sm_b2E hf
    refine sm_callV (As := [.int a1]) (rv := some (.int r7)) (h1 := g8) (c := 10) cvv_mo_427 rfl rfl e0 (m_mo_passTicks l lo hi _ e0 c9) rfl rfl d_mo_allSmokeAfter_20 ?_
    refine sm_pop rfl d_mo_allSmokeAfter_23 ?_
    refine sm_aload_n 0 rfl d_mo_allSmokeAfter_24 ?_
    obtain ⟨r10, g11, c12, hf⟩ := sm_b2E hf
    refine sm_callV (As := []) (rv := some (.int r10)) (h1 := g11) (c := 10) cvv_mo_456 rfl rfl e0 (m_mo_allSmoke l lo hi _ e0 c12) rfl rfl d_mo_allSmokeAfter_25 ?_
    refine sm_istore_n (lv' := [(2, .int r10), (0, .ref a0), (1, .int a1)]) d_mo_allSmokeAfter_28 rfl rfl ?_
    refine sm_aload_n 1 rfl d_mo_allSmokeAfter_29 ?_
    obtain ⟨g13, c14, hf⟩ := sm_bindE hf
    refine sm_callV (As := []) (rv := none) (h1 := g13) (c := 10) cvv_mo_453 rfl rfl e0 (m_mo_putBack l lo hi _ e0 c14) rfl rfl d_mo_allSmokeAfter_30 ?_
    refine sm_iload_n 0 rfl d_mo_allSmokeAfter_33 ?_
    obtain ⟨rfl, rfl⟩ := sm_ret2 hf
    exact sm_iret d_mo_allSmokeAfter_34 rfl
  · have hf := sm_ifT c4 hf
    refine sm_bipush (v := (-2)) (by decide) d_mo_allSmokeAfter_11 ?_
    obtain ⟨rfl, rfl⟩ := sm_ret2 hf
    exact sm_iret d_mo_allSmokeAfter_13 rfl
theorem d_mo_pressureAfter_0 : decode q_mo_pressureAfter.2.1 0 = .ok (.iload_n 1, 1) := by decide +kernel
theorem d_mo_pressureAfter_1 : decode q_mo_pressureAfter.2.1 1 = .ok (.iconst 0, 1) := by decide +kernel
theorem d_mo_pressureAfter_2 : decode q_mo_pressureAfter.2.1 2 = .ok (.sipush 200, 3) := by decide +kernel
theorem d_mo_pressureAfter_5 : decode q_mo_pressureAfter.2.1 5 = .ok (.invokestatic 91, 3) := by decide +kernel
theorem d_mo_pressureAfter_8 : decode q_mo_pressureAfter.2.1 8 = .ok (.ifCond .ne 6, 3) := by decide +kernel
theorem d_mo_pressureAfter_11 : decode q_mo_pressureAfter.2.1 11 = .ok (.bipush (-2), 2) := by decide +kernel
theorem d_mo_pressureAfter_13 : decode q_mo_pressureAfter.2.1 13 = .ok (.ireturn, 1) := by decide +kernel
theorem d_mo_pressureAfter_14 : decode q_mo_pressureAfter.2.1 14 = .ok (.aload_n 0, 1) := by decide +kernel
theorem d_mo_pressureAfter_15 : decode q_mo_pressureAfter.2.1 15 = .ok (.invokevirtual 450, 3) := by decide +kernel
theorem d_mo_pressureAfter_18 : decode q_mo_pressureAfter.2.1 18 = .ok (.aload_n 0, 1) := by decide +kernel
theorem d_mo_pressureAfter_19 : decode q_mo_pressureAfter.2.1 19 = .ok (.iload_n 1, 1) := by decide +kernel
theorem d_mo_pressureAfter_20 : decode q_mo_pressureAfter.2.1 20 = .ok (.invokevirtual 427, 3) := by decide +kernel
theorem d_mo_pressureAfter_23 : decode q_mo_pressureAfter.2.1 23 = .ok (.pop, 1) := by decide +kernel
theorem d_mo_pressureAfter_24 : decode q_mo_pressureAfter.2.1 24 = .ok (.aload_n 0, 1) := by decide +kernel
theorem d_mo_pressureAfter_25 : decode q_mo_pressureAfter.2.1 25 = .ok (.getfield 16, 3) := by decide +kernel
theorem d_mo_pressureAfter_28 : decode q_mo_pressureAfter.2.1 28 = .ok (.iconst 3, 1) := by decide +kernel
theorem d_mo_pressureAfter_29 : decode q_mo_pressureAfter.2.1 29 = .ok (.iaload, 1) := by decide +kernel
theorem d_mo_pressureAfter_30 : decode q_mo_pressureAfter.2.1 30 = .ok (.istore_n 2, 1) := by decide +kernel
theorem d_mo_pressureAfter_31 : decode q_mo_pressureAfter.2.1 31 = .ok (.aload_n 0, 1) := by decide +kernel
theorem d_mo_pressureAfter_32 : decode q_mo_pressureAfter.2.1 32 = .ok (.invokevirtual 453, 3) := by decide +kernel
theorem d_mo_pressureAfter_35 : decode q_mo_pressureAfter.2.1 35 = .ok (.iload_n 2, 1) := by decide +kernel
theorem d_mo_pressureAfter_36 : decode q_mo_pressureAfter.2.1 36 = .ok (.ireturn, 1) := by decide +kernel
theorem m_mo_pressureAfter (l : Launch) (lo hi d : Nat) {a0 : Nat} {a1 : Int32} {r0 : Int32} {h h' : sm_H} (e0 : sm_at lo hi (0, 10, 0) a0) (hf : f_mo_pressureAfter a0 a1 h = some (r0, h')) : sm_Met l lo hi (d + 8) q_mo_pressureAfter [.ref a0, .int a1] h (some (.int r0)) h' := by
  refine sm_Met.of (by decide +kernel) rfl ?_
  show sm_W l lo hi (d + 8) q_mo_pressureAfter 0 [(0, .ref a0), (1, .int a1)] [] h (some (.int r0)) h'
  unfold f_mo_pressureAfter at hf
  refine sm_iload_n 1 rfl d_mo_pressureAfter_0 ?_
  refine sm_iconst (v := 0) (by decide) d_mo_pressureAfter_1 ?_
  refine sm_sipush (v := 200) (by decide) d_mo_pressureAfter_2 ?_
  obtain ⟨r1, g2, c3, hf⟩ := sm_b2E hf
  refine sm_callS (As := [.int a1, .int 0, .int 200]) (rv := some (.int r1)) (h1 := g2) cvs_mo_91 (m_mo_in l lo hi _ c3) rfl rfl d_mo_pressureAfter_5 ?_
  refine sm_if_ne 14 d_mo_pressureAfter_8 rfl (fun c4 => ?_) (fun c4 => ?_)
  · have hf := sm_ifF c4 hf
    refine sm_aload_n 0 rfl d_mo_pressureAfter_14 ?_
    obtain ⟨g5, c6, hf⟩ := sm_bindE hf
    refine sm_callV (As := []) (rv := none) (h1 := g5) (c := 10) cvv_mo_450 rfl rfl e0 (m_mo_putAside l lo hi _ e0 c6) rfl rfl d_mo_pressureAfter_15 ?_
    refine sm_aload_n 0 rfl d_mo_pressureAfter_18 ?_
    refine sm_iload_n 1 rfl d_mo_pressureAfter_19 ?_
    obtain ⟨r7, g8, c9, hf⟩ := sm_b2E hf
    refine sm_callV (As := [.int a1]) (rv := some (.int r7)) (h1 := g8) (c := 10) cvv_mo_427 rfl rfl e0 (m_mo_passTicks l lo hi _ e0 c9) rfl rfl d_mo_pressureAfter_20 ?_
    refine sm_pop rfl d_mo_pressureAfter_23 ?_
    refine sm_aload_n 0 rfl d_mo_pressureAfter_24 ?_
    refine sm_getR (n := 3) fl_mo_16 e0 rfl d_mo_pressureAfter_25 ?_
    refine sm_iconst (v := 3) (by decide) d_mo_pressureAfter_28 ?_
    obtain ⟨c10, hf⟩ := sm_gdE hf
    refine sm_iald (sm_at_arr (sm_inner e0 2 rfl rfl rfl)) c10 d_mo_pressureAfter_29 ?_
    refine sm_nmI (fun x11 w12 => ?_)
    have hf := sm_letV w12 hf
    refine sm_istore_n (lv' := [(2, .int x11), (0, .ref a0), (1, .int a1)]) d_mo_pressureAfter_30 rfl rfl ?_
    refine sm_aload_n 1 rfl d_mo_pressureAfter_31 ?_
    obtain ⟨g13, c14, hf⟩ := sm_bindE hf
    refine sm_callV (As := []) (rv := none) (h1 := g13) (c := 10) cvv_mo_453 rfl rfl e0 (m_mo_putBack l lo hi _ e0 c14) rfl rfl d_mo_pressureAfter_32 ?_
    refine sm_iload_n 0 rfl d_mo_pressureAfter_35 ?_
    obtain ⟨rfl, rfl⟩ := sm_ret2 hf
    exact sm_iret d_mo_pressureAfter_36 rfl
  · have hf := sm_ifT c4 hf
    refine sm_bipush (v := (-2)) (by decide) d_mo_pressureAfter_11 ?_
    obtain ⟨rfl, rfl⟩ := sm_ret2 hf
    exact sm_iret d_mo_pressureAfter_13 rfl
theorem d_mo_isBelow_0 : decode q_mo_isBelow.2.1 0 = .ok (.iload_n 1, 1) := by decide +kernel
theorem d_mo_isBelow_1 : decode q_mo_isBelow.2.1 1 = .ok (.istore 4, 2) := by decide +kernel
theorem d_mo_isBelow_3 : decode q_mo_isBelow.2.1 3 = .ok (.iload 4, 2) := by decide +kernel
theorem d_mo_isBelow_5 : decode q_mo_isBelow.2.1 5 = .ok (.iload_n 2, 1) := by decide +kernel
theorem d_mo_isBelow_6 : decode q_mo_isBelow.2.1 6 = .ok (.if_icmp .gt 22, 3) := by decide +kernel
theorem d_mo_isBelow_9 : decode q_mo_isBelow.2.1 9 = .ok (.aload_n 0, 1) := by decide +kernel
theorem d_mo_isBelow_10 : decode q_mo_isBelow.2.1 10 = .ok (.iload 4, 2) := by decide +kernel
theorem d_mo_isBelow_12 : decode q_mo_isBelow.2.1 12 = .ok (.iconst 0, 1) := by decide +kernel
theorem d_mo_isBelow_13 : decode q_mo_isBelow.2.1 13 = .ok (.invokevirtual 314, 3) := by decide +kernel
theorem d_mo_isBelow_16 : decode q_mo_isBelow.2.1 16 = .ok (.iload_n 3, 1) := by decide +kernel
theorem d_mo_isBelow_17 : decode q_mo_isBelow.2.1 17 = .ok (.if_icmp .lt 5, 3) := by decide +kernel
theorem d_mo_isBelow_20 : decode q_mo_isBelow.2.1 20 = .ok (.iconst 0, 1) := by decide +kernel
theorem d_mo_isBelow_21 : decode q_mo_isBelow.2.1 21 = .ok (.ireturn, 1) := by decide +kernel
theorem d_mo_isBelow_22 : decode q_mo_isBelow.2.1 22 = .ok (.iinc 4 1, 3) := by decide +kernel
theorem d_mo_isBelow_25 : decode q_mo_isBelow.2.1 25 = .ok (.goto (-22), 3) := by decide +kernel
theorem d_mo_isBelow_28 : decode q_mo_isBelow.2.1 28 = .ok (.iconst 1, 1) := by decide +kernel
theorem d_mo_isBelow_29 : decode q_mo_isBelow.2.1 29 = .ok (.ireturn, 1) := by decide +kernel
theorem w_mo_isBelow_L3 (l : Launch) (lo hi d : Nat) {h' : sm_H} {r0 : Int32} : ∀ (n : Nat) (a0 : Nat) (a2 : Int32) (a3 : Int32) (a4 : Int32) (h : sm_H) (e0 : sm_at lo hi (0, 10, 0) a0) (hf : f_mo_isBelow_L3 n a0 a2 a3 a4 h = some (r0, h')), sm_W l lo hi (d + 1) q_mo_isBelow 3 [(0, .ref a0), (2, .int a2), (3, .int a3), (4, .int a4)] [] h (some (.int r0)) h' := by
  intro n
  induction n with
  | zero =>
    intro a0 a2 a3 a4 h e0 hf
    have z : (none : Option (Int32 × sm_H)) = some _ := hf
    cases z
  | succ n ih =>
    intro a0 a2 a3 a4 h e0 hf
    unfold f_mo_isBelow_L3 at hf
    refine sm_iload 3 rfl d_mo_isBelow_3 ?_
    refine sm_iload_n 1 rfl d_mo_isBelow_5 ?_
    refine sm_icmp_gt 28 d_mo_isBelow_6 rfl (fun c1 => ?_) (fun c1 => ?_)
    · have hf := sm_ifT c1 hf
      refine sm_iconst (v := 1) (by decide) d_mo_isBelow_28 ?_
      obtain ⟨rfl, rfl⟩ := sm_ret2 hf
      exact sm_bret (by decide) d_mo_isBelow_29 rfl
    · have hf := sm_ifF c1 hf
      refine sm_aload_n 0 rfl d_mo_isBelow_9 ?_
      refine sm_iload 3 rfl d_mo_isBelow_10 ?_
      refine sm_iconst (v := 0) (by decide) d_mo_isBelow_12 ?_
      obtain ⟨r2, g3, c4, hf⟩ := sm_b2E hf
      refine sm_callV (As := [.int a4, .int 0]) (rv := some (.int r2)) (h1 := g3) (c := 10) cvv_mo_314 rfl rfl e0 (m_mo_zoneIs l lo hi _ e0 c4) rfl rfl d_mo_isBelow_13 ?_
      refine sm_iload_n 2 rfl d_mo_isBelow_16 ?_
      refine sm_icmp_lt 22 d_mo_isBelow_17 rfl (fun c5 => ?_) (fun c5 => ?_)
      · have hf := sm_ifT c5 hf
        obtain ⟨x6, w7⟩ : ∃ v : Int32, v = a4 + 1 := ⟨_, rfl⟩
        have hf := sm_letV w7 hf
        refine sm_iinc (v := x6) (lv' := [(4, .int x6), (0, .ref a0), (2, .int a2), (3, .int a3)]) 3 rfl (by rw [w7]; rfl) d_mo_isBelow_22 rfl rfl ?_
        refine sm_goto 3 d_mo_isBelow_25 rfl ?_
        refine sm_sub [1, 2, 3, 0] rfl ?_
        exact ih _ _ _ _ _ e0 hf
      · have hf := sm_ifF c5 hf
        refine sm_iconst (v := 0) (by decide) d_mo_isBelow_20 ?_
        obtain ⟨rfl, rfl⟩ := sm_ret2 hf
        exact sm_bret (by decide) d_mo_isBelow_21 rfl
theorem m_mo_isBelow (l : Launch) (lo hi d : Nat) {a0 : Nat} {a1 : Int32} {a2 : Int32} {a3 : Int32} {r0 : Int32} {h h' : sm_H} (e0 : sm_at lo hi (0, 10, 0) a0) (hf : f_mo_isBelow a0 a1 a2 a3 h = some (r0, h')) : sm_Met l lo hi (d + 1) q_mo_isBelow [.ref a0, .int a1, .int a2, .int a3] h (some (.int r0)) h' := by
  refine sm_Met.of (by decide +kernel) rfl ?_
  show sm_W l lo hi (d + 1) q_mo_isBelow 0 [(0, .ref a0), (1, .int a1), (2, .int a2), (3, .int a3)] [] h (some (.int r0)) h'
  unfold f_mo_isBelow at hf
  refine sm_iload_n 1 rfl d_mo_isBelow_0 ?_
  refine sm_istore (lv' := [(4, .int a1), (0, .ref a0), (1, .int a1), (2, .int a2), (3, .int a3)]) d_mo_isBelow_1 rfl rfl ?_
  refine sm_sub [1, 3, 4, 0] rfl ?_
  exact w_mo_isBelow_L3 l lo hi d sm_N _ _ _ _ _ e0 hf
theorem d_mo_ticksUntil_0 : decode q_mo_ticksUntil.2.1 0 = .ok (.iconst 0, 1) := by decide +kernel
theorem d_mo_ticksUntil_1 : decode q_mo_ticksUntil.2.1 1 = .ok (.istore 4, 2) := by decide +kernel
theorem d_mo_ticksUntil_3 : decode q_mo_ticksUntil.2.1 3 = .ok (.iload 4, 2) := by decide +kernel
theorem d_mo_ticksUntil_5 : decode q_mo_ticksUntil.2.1 5 = .ok (.sipush 200, 3) := by decide +kernel
theorem d_mo_ticksUntil_8 : decode q_mo_ticksUntil.2.1 8 = .ok (.if_icmp .gt 33, 3) := by decide +kernel
theorem d_mo_ticksUntil_11 : decode q_mo_ticksUntil.2.1 11 = .ok (.aload_n 0, 1) := by decide +kernel
theorem d_mo_ticksUntil_12 : decode q_mo_ticksUntil.2.1 12 = .ok (.iload_n 1, 1) := by decide +kernel
theorem d_mo_ticksUntil_13 : decode q_mo_ticksUntil.2.1 13 = .ok (.iload_n 2, 1) := by decide +kernel
theorem d_mo_ticksUntil_14 : decode q_mo_ticksUntil.2.1 14 = .ok (.iload_n 3, 1) := by decide +kernel
theorem d_mo_ticksUntil_15 : decode q_mo_ticksUntil.2.1 15 = .ok (.invokevirtual 459, 3) := by decide +kernel
theorem d_mo_ticksUntil_18 : decode q_mo_ticksUntil.2.1 18 = .ok (.ifCond .eq 6, 3) := by decide +kernel
theorem d_mo_ticksUntil_21 : decode q_mo_ticksUntil.2.1 21 = .ok (.iload 4, 2) := by decide +kernel
theorem d_mo_ticksUntil_23 : decode q_mo_ticksUntil.2.1 23 = .ok (.ireturn, 1) := by decide +kernel
theorem d_mo_ticksUntil_24 : decode q_mo_ticksUntil.2.1 24 = .ok (.aload_n 0, 1) := by decide +kernel
theorem d_mo_ticksUntil_25 : decode q_mo_ticksUntil.2.1 25 = .ok (.iconst 1, 1) := by decide +kernel
theorem d_mo_ticksUntil_26 : decode q_mo_ticksUntil.2.1 26 = .ok (.invokevirtual 427, 3) := by decide +kernel
theorem d_mo_ticksUntil_29 : decode q_mo_ticksUntil.2.1 29 = .ok (.ifCond .ne 6, 3) := by decide +kernel
theorem d_mo_ticksUntil_32 : decode q_mo_ticksUntil.2.1 32 = .ok (.bipush (-4), 2) := by decide +kernel
theorem d_mo_ticksUntil_34 : decode q_mo_ticksUntil.2.1 34 = .ok (.ireturn, 1) := by decide +kernel
theorem d_mo_ticksUntil_35 : decode q_mo_ticksUntil.2.1 35 = .ok (.iinc 4 1, 3) := by decide +kernel
theorem d_mo_ticksUntil_38 : decode q_mo_ticksUntil.2.1 38 = .ok (.goto (-35), 3) := by decide +kernel
theorem d_mo_ticksUntil_41 : decode q_mo_ticksUntil.2.1 41 = .ok (.bipush (-4), 2) := by decide +kernel
theorem d_mo_ticksUntil_43 : decode q_mo_ticksUntil.2.1 43 = .ok (.ireturn, 1) := by decide +kernel
theorem w_mo_ticksUntil_L41 (l : Launch) (lo hi d : Nat) {h' : sm_H} {r0 : Int32} (h : sm_H) (hf : f_mo_ticksUntil_L41 h = some (r0, h')) : sm_W l lo hi (d + 8) q_mo_ticksUntil 41 [] [] h (some (.int r0)) h' := by
  unfold f_mo_ticksUntil_L41 at hf
  refine sm_bipush (v := (-4)) (by decide) d_mo_ticksUntil_41 ?_
  obtain ⟨rfl, rfl⟩ := sm_ret2 hf
  exact sm_iret d_mo_ticksUntil_43 rfl
theorem w_mo_ticksUntil_L32 (l : Launch) (lo hi d : Nat) {h' : sm_H} {r0 : Int32} (h : sm_H) (hf : f_mo_ticksUntil_L32 h = some (r0, h')) : sm_W l lo hi (d + 8) q_mo_ticksUntil 32 [] [] h (some (.int r0)) h' := by
  unfold f_mo_ticksUntil_L32 at hf
  refine sm_bipush (v := (-4)) (by decide) d_mo_ticksUntil_32 ?_
  obtain ⟨rfl, rfl⟩ := sm_ret2 hf
  exact sm_iret d_mo_ticksUntil_34 rfl
theorem w_mo_ticksUntil_L21 (l : Launch) (lo hi d : Nat) {h' : sm_H} {r0 : Int32} (a4 : Int32) (h : sm_H) (hf : f_mo_ticksUntil_L21 a4 h = some (r0, h')) : sm_W l lo hi (d + 8) q_mo_ticksUntil 21 [(4, .int a4)] [] h (some (.int r0)) h' := by
  unfold f_mo_ticksUntil_L21 at hf
  refine sm_iload 0 rfl d_mo_ticksUntil_21 ?_
  obtain ⟨rfl, rfl⟩ := sm_ret2 hf
  exact sm_iret d_mo_ticksUntil_23 rfl
theorem w_mo_ticksUntil_L3 (l : Launch) (lo hi d : Nat) {h' : sm_H} {r0 : Int32} : ∀ (n : Nat) (a0 : Nat) (a1 : Int32) (a2 : Int32) (a3 : Int32) (a4 : Int32) (h : sm_H) (e0 : sm_at lo hi (0, 10, 0) a0) (hf : f_mo_ticksUntil_L3 n a0 a1 a2 a3 a4 h = some (r0, h')), sm_W l lo hi (d + 8) q_mo_ticksUntil 3 [(0, .ref a0), (1, .int a1), (2, .int a2), (3, .int a3), (4, .int a4)] [] h (some (.int r0)) h' := by
  intro n
  induction n with
  | zero =>
    intro a0 a1 a2 a3 a4 h e0 hf
    have z : (none : Option (Int32 × sm_H)) = some _ := hf
    cases z
  | succ n ih =>
    intro a0 a1 a2 a3 a4 h e0 hf
    unfold f_mo_ticksUntil_L3 at hf
    refine sm_iload 4 rfl d_mo_ticksUntil_3 ?_
    refine sm_sipush (v := 200) (by decide) d_mo_ticksUntil_5 ?_
    refine sm_icmp_gt 41 d_mo_ticksUntil_8 rfl (fun c1 => ?_) (fun c1 => ?_)
    · have hf := sm_ifT c1 hf
      refine sm_sub [] rfl ?_
      exact w_mo_ticksUntil_L41 l lo hi d _ hf
    · have hf := sm_ifF c1 hf
      refine sm_aload_n 0 rfl d_mo_ticksUntil_11 ?_
      refine sm_iload_n 1 rfl d_mo_ticksUntil_12 ?_
      refine sm_iload_n 2 rfl d_mo_ticksUntil_13 ?_
      refine sm_iload_n 3 rfl d_mo_ticksUntil_14 ?_
      obtain ⟨r2, g3, c4, hf⟩ := sm_b2E hf
      refine sm_callV (As := [.int a1, .int a2, .int a3]) (rv := some (.int r2)) (h1 := g3) (c := 10) cvv_mo_459 rfl rfl e0 (m_mo_isBelow l lo hi _ e0 c4) rfl rfl d_mo_ticksUntil_15 ?_
      refine sm_if_eq 24 d_mo_ticksUntil_18 rfl (fun c5 => ?_) (fun c5 => ?_)
      · have hf := sm_ifT c5 hf
        refine sm_aload_n 0 rfl d_mo_ticksUntil_24 ?_
        refine sm_iconst (v := 1) (by decide) d_mo_ticksUntil_25 ?_
        obtain ⟨r6, g7, c8, hf⟩ := sm_b2E hf
        refine sm_callV (As := [.int 1]) (rv := some (.int r6)) (h1 := g7) (c := 10) cvv_mo_427 rfl rfl e0 (m_mo_passTicks l lo hi _ e0 c8) rfl rfl d_mo_ticksUntil_26 ?_
        refine sm_if_ne 35 d_mo_ticksUntil_29 rfl (fun c9 => ?_) (fun c9 => ?_)
        · have hf := sm_ifF c9 hf
          obtain ⟨x10, w11⟩ : ∃ v : Int32, v = a4 + 1 := ⟨_, rfl⟩
          have hf := sm_letV w11 hf
          refine sm_iinc (v := x10) (lv' := [(4, .int x10), (0, .ref a0), (1, .int a1), (2, .int a2), (3, .int a3)]) 4 rfl (by rw [w11]; rfl) d_mo_ticksUntil_35 rfl rfl ?_
          refine sm_goto 3 d_mo_ticksUntil_38 rfl ?_
          refine sm_sub [1, 2, 3, 4, 0] rfl ?_
          exact ih _ _ _ _ _ _ e0 hf
        · have hf := sm_ifT c9 hf
          refine sm_sub [] rfl ?_
          exact w_mo_ticksUntil_L32 l lo hi d _ hf
      · have hf := sm_ifF c5 hf
        refine sm_sub [4] rfl ?_
        exact w_mo_ticksUntil_L21 l lo hi d _ _ hf
theorem m_mo_ticksUntil (l : Launch) (lo hi d : Nat) {a0 : Nat} {a1 : Int32} {a2 : Int32} {a3 : Int32} {r0 : Int32} {h h' : sm_H} (e0 : sm_at lo hi (0, 10, 0) a0) (hf : f_mo_ticksUntil a0 a1 a2 a3 h = some (r0, h')) : sm_Met l lo hi (d + 8) q_mo_ticksUntil [.ref a0, .int a1, .int a2, .int a3] h (some (.int r0)) h' := by
  refine sm_Met.of (by decide +kernel) rfl ?_
  show sm_W l lo hi (d + 8) q_mo_ticksUntil 0 [(0, .ref a0), (1, .int a1), (2, .int a2), (3, .int a3)] [] h (some (.int r0)) h'
  unfold f_mo_ticksUntil at hf
  refine sm_iconst (v := 0) (by decide) d_mo_ticksUntil_0 ?_
  refine sm_istore (lv' := [(4, .int 0), (0, .ref a0), (1, .int a1), (2, .int a2), (3, .int a3)]) d_mo_ticksUntil_1 rfl rfl ?_
  refine sm_sub [1, 2, 3, 4, 0] rfl ?_
  exact w_mo_ticksUntil_L3 l lo hi d sm_N _ _ _ _ _ _ e0 hf
theorem d_mo_clearAfter_0 : decode q_mo_clearAfter.2.1 0 = .ok (.iload_n 1, 1) := by decide +kernel
theorem d_mo_clearAfter_1 : decode q_mo_clearAfter.2.1 1 = .ok (.iconst 1, 1) := by decide +kernel
theorem d_mo_clearAfter_2 : decode q_mo_clearAfter.2.1 2 = .ok (.sipush 1000, 3) := by decide +kernel
theorem d_mo_clearAfter_5 : decode q_mo_clearAfter.2.1 5 = .ok (.invokestatic 91, 3) := by decide +kernel
theorem d_mo_clearAfter_8 : decode q_mo_clearAfter.2.1 8 = .ok (.ifCond .ne 6, 3) := by decide +kernel
theorem d_mo_clearAfter_11 : decode q_mo_clearAfter.2.1 11 = .ok (.bipush (-2), 2) := by decide +kernel
theorem d_mo_clearAfter_13 : decode q_mo_clearAfter.2.1 13 = .ok (.ireturn, 1) := by decide +kernel
theorem d_mo_clearAfter_14 : decode q_mo_clearAfter.2.1 14 = .ok (.aload_n 0, 1) := by decide +kernel
theorem d_mo_clearAfter_15 : decode q_mo_clearAfter.2.1 15 = .ok (.invokevirtual 450, 3) := by decide +kernel
theorem d_mo_clearAfter_18 : decode q_mo_clearAfter.2.1 18 = .ok (.aload_n 0, 1) := by decide +kernel
theorem d_mo_clearAfter_19 : decode q_mo_clearAfter.2.1 19 = .ok (.iconst 0, 1) := by decide +kernel
theorem d_mo_clearAfter_20 : decode q_mo_clearAfter.2.1 20 = .ok (.aload_n 0, 1) := by decide +kernel
theorem d_mo_clearAfter_21 : decode q_mo_clearAfter.2.1 21 = .ok (.getfield 7, 3) := by decide +kernel
theorem d_mo_clearAfter_24 : decode q_mo_clearAfter.2.1 24 = .ok (.iconst 0, 1) := by decide +kernel
theorem d_mo_clearAfter_25 : decode q_mo_clearAfter.2.1 25 = .ok (.iaload, 1) := by decide +kernel
theorem d_mo_clearAfter_26 : decode q_mo_clearAfter.2.1 26 = .ok (.iconst 1, 1) := by decide +kernel
theorem d_mo_clearAfter_27 : decode q_mo_clearAfter.2.1 27 = .ok (.isub, 1) := by decide +kernel
theorem d_mo_clearAfter_28 : decode q_mo_clearAfter.2.1 28 = .ok (.iload_n 1, 1) := by decide +kernel
theorem d_mo_clearAfter_29 : decode q_mo_clearAfter.2.1 29 = .ok (.invokevirtual 462, 3) := by decide +kernel
theorem d_mo_clearAfter_32 : decode q_mo_clearAfter.2.1 32 = .ok (.istore_n 2, 1) := by decide +kernel
theorem d_mo_clearAfter_33 : decode q_mo_clearAfter.2.1 33 = .ok (.aload_n 0, 1) := by decide +kernel
theorem d_mo_clearAfter_34 : decode q_mo_clearAfter.2.1 34 = .ok (.invokevirtual 453, 3) := by decide +kernel
theorem d_mo_clearAfter_37 : decode q_mo_clearAfter.2.1 37 = .ok (.iload_n 2, 1) := by decide +kernel
theorem d_mo_clearAfter_38 : decode q_mo_clearAfter.2.1 38 = .ok (.ireturn, 1) := by decide +kernel
theorem m_mo_clearAfter (l : Launch) (lo hi d : Nat) {a0 : Nat} {a1 : Int32} {r0 : Int32} {h h' : sm_H} (e0 : sm_at lo hi (0, 10, 0) a0) (hf : f_mo_clearAfter a0 a1 h = some (r0, h')) : sm_Met l lo hi (d + 9) q_mo_clearAfter [.ref a0, .int a1] h (some (.int r0)) h' := by
  refine sm_Met.of (by decide +kernel) rfl ?_
  show sm_W l lo hi (d + 9) q_mo_clearAfter 0 [(0, .ref a0), (1, .int a1)] [] h (some (.int r0)) h'
  unfold f_mo_clearAfter at hf
  refine sm_iload_n 1 rfl d_mo_clearAfter_0 ?_
  refine sm_iconst (v := 1) (by decide) d_mo_clearAfter_1 ?_
  refine sm_sipush (v := 1000) (by decide) d_mo_clearAfter_2 ?_
  obtain ⟨r1, g2, c3, hf⟩ := sm_b2E hf
  refine sm_callS (As := [.int a1, .int 1, .int 1000]) (rv := some (.int r1)) (h1 := g2) cvs_mo_91 (m_mo_in l lo hi _ c3) rfl rfl d_mo_clearAfter_5 ?_
  refine sm_if_ne 14 d_mo_clearAfter_8 rfl (fun c4 => ?_) (fun c4 => ?_)
  · have hf := sm_ifF c4 hf
    refine sm_aload_n 0 rfl d_mo_clearAfter_14 ?_
    obtain ⟨g5, c6, hf⟩ := sm_bindE hf
    refine sm_callV (As := []) (rv := none) (h1 := g5) (c := 10) cvv_mo_450 rfl rfl e0 (m_mo_putAside l lo hi _ e0 c6) rfl rfl d_mo_clearAfter_15 ?_
    refine sm_aload_n 0 rfl d_mo_clearAfter_18 ?_
    refine sm_iconst (v := 0) (by decide) d_mo_clearAfter_19 ?_
    refine sm_aload_n 0 rfl d_mo_clearAfter_20 ?_
    refine sm_getR (n := 1) fl_mo_7 e0 rfl d_mo_clearAfter_21 ?_
    refine sm_iconst (v := 0) (by decide) d_mo_clearAfter_24 ?_
    obtain ⟨c7, hf⟩ := sm_gdE hf
    refine sm_iald (sm_at_arr (sm_inner e0 0 rfl rfl rfl)) c7 d_mo_clearAfter_25 ?_
    refine sm_iconst (v := 1) (by decide) d_mo_clearAfter_26 ?_
    refine sm_isub d_mo_clearAfter_27 ?_
    refine sm_iload_n 1 rfl d_mo_clearAfter_28 ?_
    obtain ⟨r8, g9, c10, hf⟩ := sm_b2E hf
    refine sm_callV (As := [.int 0, .int ((g5 (a0 + 1) (0 : Int32).toNatClampNeg) - 1), .int a1]) (rv := some (.int r8)) (h1 := g9) (c := 10) cvv_mo_462 rfl rfl e0 (m_mo_ticksUntil l lo hi _ e0 c10) rfl rfl d_mo_clearAfter_29 ?_
    refine sm_istore_n (lv' := [(2, .int r8), (0, .ref a0), (1, .int a1)]) d_mo_clearAfter_32 rfl rfl ?_
    refine sm_aload_n 1 rfl d_mo_clearAfter_33 ?_
    obtain ⟨g11, c12, hf⟩ := sm_bindE hf
    refine sm_callV (As := []) (rv := none) (h1 := g11) (c := 10) cvv_mo_453 rfl rfl e0 (m_mo_putBack l lo hi _ e0 c12) rfl rfl d_mo_clearAfter_34 ?_
    refine sm_iload_n 0 rfl d_mo_clearAfter_37 ?_
    obtain ⟨rfl, rfl⟩ := sm_ret2 hf
    exact sm_iret d_mo_clearAfter_38 rfl
  · have hf := sm_ifT c4 hf
    refine sm_bipush (v := (-2)) (by decide) d_mo_clearAfter_11 ?_
    obtain ⟨rfl, rfl⟩ := sm_ret2 hf
    exact sm_iret d_mo_clearAfter_13 rfl
theorem d_mo_smokeWith_0 : decode q_mo_smokeWith.2.1 0 = .ok (.aload_n 0, 1) := by decide +kernel
theorem d_mo_smokeWith_1 : decode q_mo_smokeWith.2.1 1 = .ok (.invokevirtual 450, 3) := by decide +kernel
theorem d_mo_smokeWith_4 : decode q_mo_smokeWith.2.1 4 = .ok (.aload_n 0, 1) := by decide +kernel
theorem d_mo_smokeWith_5 : decode q_mo_smokeWith.2.1 5 = .ok (.getfield 16, 3) := by decide +kernel
theorem d_mo_smokeWith_8 : decode q_mo_smokeWith.2.1 8 = .ok (.iconst 1, 1) := by decide +kernel
theorem d_mo_smokeWith_9 : decode q_mo_smokeWith.2.1 9 = .ok (.iconst 1, 1) := by decide +kernel
theorem d_mo_smokeWith_10 : decode q_mo_smokeWith.2.1 10 = .ok (.iastore, 1) := by decide +kernel
theorem d_mo_smokeWith_11 : decode q_mo_smokeWith.2.1 11 = .ok (.iload_n 1, 1) := by decide +kernel
theorem d_mo_smokeWith_12 : decode q_mo_smokeWith.2.1 12 = .ok (.ifCond .lt 23, 3) := by decide +kernel
theorem d_mo_smokeWith_15 : decode q_mo_smokeWith.2.1 15 = .ok (.iload_n 1, 1) := by decide +kernel
theorem d_mo_smokeWith_16 : decode q_mo_smokeWith.2.1 16 = .ok (.aload_n 0, 1) := by decide +kernel
theorem d_mo_smokeWith_17 : decode q_mo_smokeWith.2.1 17 = .ok (.getfield 7, 3) := by decide +kernel
theorem d_mo_smokeWith_20 : decode q_mo_smokeWith.2.1 20 = .ok (.iconst 1, 1) := by decide +kernel
theorem d_mo_smokeWith_21 : decode q_mo_smokeWith.2.1 21 = .ok (.iaload, 1) := by decide +kernel
theorem d_mo_smokeWith_22 : decode q_mo_smokeWith.2.1 22 = .ok (.if_icmp .ge 13, 3) := by decide +kernel
theorem d_mo_smokeWith_25 : decode q_mo_smokeWith.2.1 25 = .ok (.aload_n 0, 1) := by decide +kernel
theorem d_mo_smokeWith_26 : decode q_mo_smokeWith.2.1 26 = .ok (.iload_n 1, 1) := by decide +kernel
theorem d_mo_smokeWith_27 : decode q_mo_smokeWith.2.1 27 = .ok (.iconst 2, 1) := by decide +kernel
theorem d_mo_smokeWith_28 : decode q_mo_smokeWith.2.1 28 = .ok (.iload_n 2, 1) := by decide +kernel
theorem d_mo_smokeWith_29 : decode q_mo_smokeWith.2.1 29 = .ok (.invokevirtual 77, 3) := by decide +kernel
theorem d_mo_smokeWith_32 : decode q_mo_smokeWith.2.1 32 = .ok (.goto 21, 3) := by decide +kernel
theorem d_mo_smokeWith_35 : decode q_mo_smokeWith.2.1 35 = .ok (.iload_n 1, 1) := by decide +kernel
theorem d_mo_smokeWith_36 : decode q_mo_smokeWith.2.1 36 = .ok (.ifCond .lt 17, 3) := by decide +kernel
theorem d_mo_smokeWith_39 : decode q_mo_smokeWith.2.1 39 = .ok (.aload_n 0, 1) := by decide +kernel
theorem d_mo_smokeWith_40 : decode q_mo_smokeWith.2.1 40 = .ok (.iload_n 1, 1) := by decide +kernel
theorem d_mo_smokeWith_41 : decode q_mo_smokeWith.2.1 41 = .ok (.aload_n 0, 1) := by decide +kernel
theorem d_mo_smokeWith_42 : decode q_mo_smokeWith.2.1 42 = .ok (.getfield 7, 3) := by decide +kernel
theorem d_mo_smokeWith_45 : decode q_mo_smokeWith.2.1 45 = .ok (.iconst 1, 1) := by decide +kernel
theorem d_mo_smokeWith_46 : decode q_mo_smokeWith.2.1 46 = .ok (.iaload, 1) := by decide +kernel
theorem d_mo_smokeWith_47 : decode q_mo_smokeWith.2.1 47 = .ok (.isub, 1) := by decide +kernel
theorem d_mo_smokeWith_48 : decode q_mo_smokeWith.2.1 48 = .ok (.iconst 2, 1) := by decide +kernel
theorem d_mo_smokeWith_49 : decode q_mo_smokeWith.2.1 49 = .ok (.iload_n 2, 1) := by decide +kernel
theorem d_mo_smokeWith_50 : decode q_mo_smokeWith.2.1 50 = .ok (.invokevirtual 373, 3) := by decide +kernel
theorem d_mo_smokeWith_53 : decode q_mo_smokeWith.2.1 53 = .ok (.aload_n 0, 1) := by decide +kernel
theorem d_mo_smokeWith_54 : decode q_mo_smokeWith.2.1 54 = .ok (.iload_n 3, 1) := by decide +kernel
theorem d_mo_smokeWith_55 : decode q_mo_smokeWith.2.1 55 = .ok (.invokevirtual 427, 3) := by decide +kernel
theorem d_mo_smokeWith_58 : decode q_mo_smokeWith.2.1 58 = .ok (.pop, 1) := by decide +kernel
theorem d_mo_smokeWith_59 : decode q_mo_smokeWith.2.1 59 = .ok (.aload_n 0, 1) := by decide +kernel
theorem d_mo_smokeWith_60 : decode q_mo_smokeWith.2.1 60 = .ok (.invokevirtual 456, 3) := by decide +kernel
theorem d_mo_smokeWith_63 : decode q_mo_smokeWith.2.1 63 = .ok (.istore 4, 2) := by decide +kernel
theorem d_mo_smokeWith_65 : decode q_mo_smokeWith.2.1 65 = .ok (.aload_n 0, 1) := by decide +kernel
theorem d_mo_smokeWith_66 : decode q_mo_smokeWith.2.1 66 = .ok (.invokevirtual 453, 3) := by decide +kernel
theorem d_mo_smokeWith_69 : decode q_mo_smokeWith.2.1 69 = .ok (.iload 4, 2) := by decide +kernel
theorem d_mo_smokeWith_71 : decode q_mo_smokeWith.2.1 71 = .ok (.ireturn, 1) := by decide +kernel
theorem w_mo_smokeWith_L53 (l : Launch) (lo hi d : Nat) {h' : sm_H} {r0 : Int32} (a0 : Nat) (a3 : Int32) (h : sm_H) (e0 : sm_at lo hi (0, 10, 0) a0) (hf : f_mo_smokeWith_L53 a0 a3 h = some (r0, h')) : sm_W l lo hi (d + 8) q_mo_smokeWith 53 [(0, .ref a0), (3, .int a3)] [] h (some (.int r0)) h' := by
  unfold f_mo_smokeWith_L53 at hf
  refine sm_aload_n 0 rfl d_mo_smokeWith_53 ?_
  refine sm_iload_n 1 rfl d_mo_smokeWith_54 ?_
  obtain ⟨r15, g16, c17, hf⟩ := sm_b2E hf
  refine sm_callV (As := [.int a3]) (rv := some (.int r15)) (h1 := g16) (c := 10) cvv_mo_427 rfl rfl e0 (m_mo_passTicks l lo hi _ e0 c17) rfl rfl d_mo_smokeWith_55 ?_
  refine sm_pop rfl d_mo_smokeWith_58 ?_
  refine sm_aload_n 0 rfl d_mo_smokeWith_59 ?_
  obtain ⟨r18, g19, c20, hf⟩ := sm_b2E hf
  refine sm_callV (As := []) (rv := some (.int r18)) (h1 := g19) (c := 10) cvv_mo_456 rfl rfl e0 (m_mo_allSmoke l lo hi _ e0 c20) rfl rfl d_mo_smokeWith_60 ?_
  refine sm_istore (lv' := [(4, .int r18), (0, .ref a0), (3, .int a3)]) d_mo_smokeWith_63 rfl rfl ?_
  refine sm_aload_n 1 rfl d_mo_smokeWith_65 ?_
  obtain ⟨g21, c22, hf⟩ := sm_bindE hf
  refine sm_callV (As := []) (rv := none) (h1 := g21) (c := 10) cvv_mo_453 rfl rfl e0 (m_mo_putBack l lo hi _ e0 c22) rfl rfl d_mo_smokeWith_66 ?_
  refine sm_iload 0 rfl d_mo_smokeWith_69 ?_
  obtain ⟨rfl, rfl⟩ := sm_ret2 hf
  exact sm_iret d_mo_smokeWith_71 rfl
theorem w_mo_smokeWith_L35 (l : Launch) (lo hi d : Nat) {h' : sm_H} {r0 : Int32} (a0 : Nat) (a1 : Int32) (a2 : Int32) (a3 : Int32) (h : sm_H) (e0 : sm_at lo hi (0, 10, 0) a0) (hf : f_mo_smokeWith_L35 a0 a1 a2 a3 h = some (r0, h')) : sm_W l lo hi (d + 8) q_mo_smokeWith 35 [(0, .ref a0), (1, .int a1), (2, .int a2), (3, .int a3)] [] h (some (.int r0)) h' := by
  unfold f_mo_smokeWith_L35 at hf
  refine sm_iload_n 1 rfl d_mo_smokeWith_35 ?_
  refine sm_if_lt 53 d_mo_smokeWith_36 rfl (fun c11 => ?_) (fun c11 => ?_)
  · have hf := sm_ifT c11 hf
    refine sm_sub [0, 3] rfl ?_
    exact w_mo_smokeWith_L53 l lo hi d _ _ _ e0 hf
  · have hf := sm_ifF c11 hf
    refine sm_aload_n 0 rfl d_mo_smokeWith_39 ?_
    refine sm_iload_n 1 rfl d_mo_smokeWith_40 ?_
    refine sm_aload_n 0 rfl d_mo_smokeWith_41 ?_
    refine sm_getR (n := 1) fl_mo_7 e0 rfl d_mo_smokeWith_42 ?_
    refine sm_iconst (v := 1) (by decide) d_mo_smokeWith_45 ?_
    obtain ⟨c12, hf⟩ := sm_gdE hf
    refine sm_iald (sm_at_arr (sm_inner e0 0 rfl rfl rfl)) c12 d_mo_smokeWith_46 ?_
    refine sm_isub d_mo_smokeWith_47 ?_
    refine sm_iconst (v := 2) (by decide) d_mo_smokeWith_48 ?_
    refine sm_iload_n 2 rfl d_mo_smokeWith_49 ?_
    obtain ⟨g13, c14, hf⟩ := sm_bindE hf
    refine sm_callV (As := [.int (a1 - (h (a0 + 1) (1 : Int32).toNatClampNeg)), .int 2, .int a2]) (rv := none) (h1 := g13) (c := 10) cvv_mo_373 rfl rfl e0 (m_mo_putFan l lo hi _ e0 c14) rfl rfl d_mo_smokeWith_50 ?_
    refine sm_sub [0, 3] rfl ?_
    exact w_mo_smokeWith_L53 l lo hi d _ _ _ e0 hf
theorem m_mo_smokeWith (l : Launch) (lo hi d : Nat) {a0 : Nat} {a1 : Int32} {a2 : Int32} {a3 : Int32} {r0 : Int32} {h h' : sm_H} (e0 : sm_at lo hi (0, 10, 0) a0) (hf : f_mo_smokeWith a0 a1 a2 a3 h = some (r0, h')) : sm_Met l lo hi (d + 8) q_mo_smokeWith [.ref a0, .int a1, .int a2, .int a3] h (some (.int r0)) h' := by
  refine sm_Met.of (by decide +kernel) rfl ?_
  show sm_W l lo hi (d + 8) q_mo_smokeWith 0 [(0, .ref a0), (1, .int a1), (2, .int a2), (3, .int a3)] [] h (some (.int r0)) h'
  unfold f_mo_smokeWith at hf
  refine sm_aload_n 0 rfl d_mo_smokeWith_0 ?_
  obtain ⟨g1, c2, hf⟩ := sm_bindE hf
  refine sm_callV (As := []) (rv := none) (h1 := g1) (c := 10) cvv_mo_450 rfl rfl e0 (m_mo_putAside l lo hi _ e0 c2) rfl rfl d_mo_smokeWith_1 ?_
  refine sm_aload_n 0 rfl d_mo_smokeWith_4 ?_
  refine sm_getR (n := 3) fl_mo_16 e0 rfl d_mo_smokeWith_5 ?_
  refine sm_iconst (v := 1) (by decide) d_mo_smokeWith_8 ?_
  refine sm_iconst (v := 1) (by decide) d_mo_smokeWith_9 ?_
  obtain ⟨c3, hf⟩ := sm_gdE hf
  refine sm_iast (sm_at_arr (sm_inner e0 2 rfl rfl rfl)) c3 d_mo_smokeWith_10 ?_
  refine sm_nmH (fun g4 w5 => ?_)
  have hf := sm_letV w5 hf
  refine sm_iload_n 1 rfl d_mo_smokeWith_11 ?_
  refine sm_if_lt 35 d_mo_smokeWith_12 rfl (fun c6 => ?_) (fun c6 => ?_)
  · have hf := sm_ifT c6 hf
    exact w_mo_smokeWith_L35 l lo hi d _ _ _ _ _ e0 hf
  · have hf := sm_ifF c6 hf
    refine sm_iload_n 1 rfl d_mo_smokeWith_15 ?_
    refine sm_aload_n 0 rfl d_mo_smokeWith_16 ?_
    refine sm_getR (n := 1) fl_mo_7 e0 rfl d_mo_smokeWith_17 ?_
    refine sm_iconst (v := 1) (by decide) d_mo_smokeWith_20 ?_
    obtain ⟨c7, hf⟩ := sm_gdE hf
    refine sm_iald (sm_at_arr (sm_inner e0 0 rfl rfl rfl)) c7 d_mo_smokeWith_21 ?_
    refine sm_icmp_ge 35 d_mo_smokeWith_22 rfl (fun c8 => ?_) (fun c8 => ?_)
    · have hf := sm_ifT c8 hf
      exact w_mo_smokeWith_L35 l lo hi d _ _ _ _ _ e0 hf
    · have hf := sm_ifF c8 hf
      refine sm_aload_n 0 rfl d_mo_smokeWith_25 ?_
      refine sm_iload_n 1 rfl d_mo_smokeWith_26 ?_
      refine sm_iconst (v := 2) (by decide) d_mo_smokeWith_27 ?_
      refine sm_iload_n 2 rfl d_mo_smokeWith_28 ?_
      obtain ⟨g9, c10, hf⟩ := sm_bindE hf
      refine sm_callV (As := [.int a1, .int 2, .int a2]) (rv := none) (h1 := g9) (c := 10) cvv_mo_77 rfl rfl e0 (m_mo_put l lo hi _ e0 c10) rfl rfl d_mo_smokeWith_29 ?_
      refine sm_goto 53 d_mo_smokeWith_32 rfl ?_
      refine sm_sub [0, 3] rfl ?_
      exact w_mo_smokeWith_L53 l lo hi d _ _ _ e0 hf
theorem d_mo_bestSwitch_0 : decode q_mo_bestSwitch.2.1 0 = .ok (.iload_n 1, 1) := by decide +kernel
theorem d_mo_bestSwitch_1 : decode q_mo_bestSwitch.2.1 1 = .ok (.iconst 1, 1) := by decide +kernel
theorem d_mo_bestSwitch_2 : decode q_mo_bestSwitch.2.1 2 = .ok (.bipush 60, 2) := by decide +kernel
theorem d_mo_bestSwitch_4 : decode q_mo_bestSwitch.2.1 4 = .ok (.invokestatic 91, 3) := by decide +kernel
theorem d_mo_bestSwitch_7 : decode q_mo_bestSwitch.2.1 7 = .ok (.ifCond .ne 6, 3) := by decide +kernel
theorem d_mo_bestSwitch_10 : decode q_mo_bestSwitch.2.1 10 = .ok (.bipush (-2), 2) := by decide +kernel
theorem d_mo_bestSwitch_12 : decode q_mo_bestSwitch.2.1 12 = .ok (.ireturn, 1) := by decide +kernel
theorem d_mo_bestSwitch_13 : decode q_mo_bestSwitch.2.1 13 = .ok (.iconst 0, 1) := by decide +kernel
theorem d_mo_bestSwitch_14 : decode q_mo_bestSwitch.2.1 14 = .ok (.istore_n 2, 1) := by decide +kernel
theorem d_mo_bestSwitch_15 : decode q_mo_bestSwitch.2.1 15 = .ok (.aload_n 0, 1) := by decide +kernel
theorem d_mo_bestSwitch_16 : decode q_mo_bestSwitch.2.1 16 = .ok (.iconst (-1), 1) := by decide +kernel
theorem d_mo_bestSwitch_17 : decode q_mo_bestSwitch.2.1 17 = .ok (.iconst 0, 1) := by decide +kernel
theorem d_mo_bestSwitch_18 : decode q_mo_bestSwitch.2.1 18 = .ok (.iload_n 1, 1) := by decide +kernel
theorem d_mo_bestSwitch_19 : decode q_mo_bestSwitch.2.1 19 = .ok (.invokevirtual 465, 3) := by decide +kernel
theorem d_mo_bestSwitch_22 : decode q_mo_bestSwitch.2.1 22 = .ok (.istore_n 3, 1) := by decide +kernel
theorem d_mo_bestSwitch_23 : decode q_mo_bestSwitch.2.1 23 = .ok (.iconst 0, 1) := by decide +kernel
theorem d_mo_bestSwitch_24 : decode q_mo_bestSwitch.2.1 24 = .ok (.istore 4, 2) := by decide +kernel
theorem d_mo_bestSwitch_26 : decode q_mo_bestSwitch.2.1 26 = .ok (.iload 4, 2) := by decide +kernel
theorem d_mo_bestSwitch_28 : decode q_mo_bestSwitch.2.1 28 = .ok (.aload_n 0, 1) := by decide +kernel
theorem d_mo_bestSwitch_29 : decode q_mo_bestSwitch.2.1 29 = .ok (.getfield 7, 3) := by decide +kernel
theorem d_mo_bestSwitch_32 : decode q_mo_bestSwitch.2.1 32 = .ok (.iconst 1, 1) := by decide +kernel
theorem d_mo_bestSwitch_33 : decode q_mo_bestSwitch.2.1 33 = .ok (.iaload, 1) := by decide +kernel
theorem d_mo_bestSwitch_34 : decode q_mo_bestSwitch.2.1 34 = .ok (.aload_n 0, 1) := by decide +kernel
theorem d_mo_bestSwitch_35 : decode q_mo_bestSwitch.2.1 35 = .ok (.getfield 7, 3) := by decide +kernel
theorem d_mo_bestSwitch_38 : decode q_mo_bestSwitch.2.1 38 = .ok (.iconst 2, 1) := by decide +kernel
theorem d_mo_bestSwitch_39 : decode q_mo_bestSwitch.2.1 39 = .ok (.iaload, 1) := by decide +kernel
theorem d_mo_bestSwitch_40 : decode q_mo_bestSwitch.2.1 40 = .ok (.iadd, 1) := by decide +kernel
theorem d_mo_bestSwitch_41 : decode q_mo_bestSwitch.2.1 41 = .ok (.if_icmp .ge 55, 3) := by decide +kernel
theorem d_mo_bestSwitch_44 : decode q_mo_bestSwitch.2.1 44 = .ok (.iconst 1, 1) := by decide +kernel
theorem d_mo_bestSwitch_45 : decode q_mo_bestSwitch.2.1 45 = .ok (.istore 5, 2) := by decide +kernel
theorem d_mo_bestSwitch_47 : decode q_mo_bestSwitch.2.1 47 = .ok (.iload 5, 2) := by decide +kernel
theorem d_mo_bestSwitch_49 : decode q_mo_bestSwitch.2.1 49 = .ok (.iconst 2, 1) := by decide +kernel
theorem d_mo_bestSwitch_50 : decode q_mo_bestSwitch.2.1 50 = .ok (.if_icmp .gt 40, 3) := by decide +kernel
theorem d_mo_bestSwitch_53 : decode q_mo_bestSwitch.2.1 53 = .ok (.aload_n 0, 1) := by decide +kernel
theorem d_mo_bestSwitch_54 : decode q_mo_bestSwitch.2.1 54 = .ok (.iload 4, 2) := by decide +kernel
theorem d_mo_bestSwitch_56 : decode q_mo_bestSwitch.2.1 56 = .ok (.iload 5, 2) := by decide +kernel
theorem d_mo_bestSwitch_58 : decode q_mo_bestSwitch.2.1 58 = .ok (.iload_n 1, 1) := by decide +kernel
theorem d_mo_bestSwitch_59 : decode q_mo_bestSwitch.2.1 59 = .ok (.invokevirtual 465, 3) := by decide +kernel
theorem d_mo_bestSwitch_62 : decode q_mo_bestSwitch.2.1 62 = .ok (.istore 6, 2) := by decide +kernel
theorem d_mo_bestSwitch_64 : decode q_mo_bestSwitch.2.1 64 = .ok (.iload 6, 2) := by decide +kernel
theorem d_mo_bestSwitch_66 : decode q_mo_bestSwitch.2.1 66 = .ok (.iload_n 3, 1) := by decide +kernel
theorem d_mo_bestSwitch_67 : decode q_mo_bestSwitch.2.1 67 = .ok (.if_icmp .ge 17, 3) := by decide +kernel
theorem d_mo_bestSwitch_70 : decode q_mo_bestSwitch.2.1 70 = .ok (.iload 6, 2) := by decide +kernel
theorem d_mo_bestSwitch_72 : decode q_mo_bestSwitch.2.1 72 = .ok (.istore_n 3, 1) := by decide +kernel
theorem d_mo_bestSwitch_73 : decode q_mo_bestSwitch.2.1 73 = .ok (.bipush 10, 2) := by decide +kernel
theorem d_mo_bestSwitch_75 : decode q_mo_bestSwitch.2.1 75 = .ok (.iconst 1, 1) := by decide +kernel
theorem d_mo_bestSwitch_76 : decode q_mo_bestSwitch.2.1 76 = .ok (.iload 4, 2) := by decide +kernel
theorem d_mo_bestSwitch_78 : decode q_mo_bestSwitch.2.1 78 = .ok (.iadd, 1) := by decide +kernel
theorem d_mo_bestSwitch_79 : decode q_mo_bestSwitch.2.1 79 = .ok (.imul, 1) := by decide +kernel
theorem d_mo_bestSwitch_80 : decode q_mo_bestSwitch.2.1 80 = .ok (.iload 5, 2) := by decide +kernel
theorem d_mo_bestSwitch_82 : decode q_mo_bestSwitch.2.1 82 = .ok (.iadd, 1) := by decide +kernel
theorem d_mo_bestSwitch_83 : decode q_mo_bestSwitch.2.1 83 = .ok (.istore_n 2, 1) := by decide +kernel
theorem d_mo_bestSwitch_84 : decode q_mo_bestSwitch.2.1 84 = .ok (.iinc 5 1, 3) := by decide +kernel
theorem d_mo_bestSwitch_87 : decode q_mo_bestSwitch.2.1 87 = .ok (.goto (-40), 3) := by decide +kernel
theorem d_mo_bestSwitch_90 : decode q_mo_bestSwitch.2.1 90 = .ok (.iinc 4 1, 3) := by decide +kernel
theorem d_mo_bestSwitch_93 : decode q_mo_bestSwitch.2.1 93 = .ok (.goto (-67), 3) := by decide +kernel
theorem d_mo_bestSwitch_96 : decode q_mo_bestSwitch.2.1 96 = .ok (.iload_n 2, 1) := by decide +kernel
theorem d_mo_bestSwitch_97 : decode q_mo_bestSwitch.2.1 97 = .ok (.ireturn, 1) := by decide +kernel
theorem w_mo_bestSwitch_L96 (l : Launch) (lo hi d : Nat) {h' : sm_H} {r0 : Int32} (a2 : Int32) (h : sm_H) (hf : f_mo_bestSwitch_L96 a2 h = some (r0, h')) : sm_W l lo hi (d + 9) q_mo_bestSwitch 96 [(2, .int a2)] [] h (some (.int r0)) h' := by
  unfold f_mo_bestSwitch_L96 at hf
  refine sm_iload_n 0 rfl d_mo_bestSwitch_96 ?_
  obtain ⟨rfl, rfl⟩ := sm_ret2 hf
  exact sm_iret d_mo_bestSwitch_97 rfl
theorem w_mo_bestSwitch_L90 (l : Launch) (lo hi d : Nat) {k26 : Nat → Int32 → Int32 → Int32 → Int32 → sm_H → Option (Int32 × sm_H)} {h' : sm_H} {r0 : Int32} (hk26 : ∀ (a0 : Nat) (a1 : Int32) (a2 : Int32) (a3 : Int32) (a4 : Int32) (h : sm_H) (_ : sm_at lo hi (0, 10, 0) a0) , k26 a0 a1 a2 a3 a4 h = some (r0, h') → sm_W l lo hi (d + 9) q_mo_bestSwitch 26 [(0, .ref a0), (1, .int a1), (2, .int a2), (3, .int a3), (4, .int a4)] [] h (some (.int r0)) h') (a0 : Nat) (a1 : Int32) (a2 : Int32) (a3 : Int32) (a4 : Int32) (h : sm_H) (e0 : sm_at lo hi (0, 10, 0) a0) (hf : f_mo_bestSwitch_L90 k26 a0 a1 a2 a3 a4 h = some (r0, h')) : sm_W l lo hi (d + 9) q_mo_bestSwitch 90 [(0, .ref a0), (1, .int a1), (2, .int a2), (3, .int a3), (4, .int a4)] [] h (some (.int r0)) h' := by
  unfold f_mo_bestSwitch_L90 at hf
  obtain ⟨x20, w21⟩ : ∃ v : Int32, v = a4 + 1 := ⟨_, rfl⟩
  have hf := sm_letV w21 hf
  refine sm_iinc (v := x20) (lv' := [(4, .int x20), (0, .ref a0), (1, .int a1), (2, .int a2), (3, .int a3)]) 4 rfl (by rw [w21]; rfl) d_mo_bestSwitch_90 rfl rfl ?_
  refine sm_goto 26 d_mo_bestSwitch_93 rfl ?_
  refine sm_sub [1, 2, 3, 4, 0] rfl ?_
  exact hk26 _ _ _ _ _ _ e0 hf
theorem w_mo_bestSwitch_L84 (l : Launch) (lo hi d : Nat) {k47 : Nat → Int32 → Int32 → Int32 → Int32 → Int32 → sm_H → Option (Int32 × sm_H)} {h' : sm_H} {r0 : Int32} (hk47 : ∀ (a0 : Nat) (a1 : Int32) (a2 : Int32) (a3 : Int32) (a4 : Int32) (a5 : Int32) (h : sm_H) (_ : sm_at lo hi (0, 10, 0) a0) , k47 a0 a1 a2 a3 a4 a5 h = some (r0, h') → sm_W l lo hi (d + 9) q_mo_bestSwitch 47 [(0, .ref a0), (1, .int a1), (2, .int a2), (3, .int a3), (4, .int a4), (5, .int a5)] [] h (some (.int r0)) h') (a0 : Nat) (a1 : Int32) (a2 : Int32) (a3 : Int32) (a4 : Int32) (a5 : Int32) (h : sm_H) (e0 : sm_at lo hi (0, 10, 0) a0) (hf : f_mo_bestSwitch_L84 k47 a0 a1 a2 a3 a4 a5 h = some (r0, h')) : sm_W l lo hi (d + 9) q_mo_bestSwitch 84 [(0, .ref a0), (1, .int a1), (2, .int a2), (3, .int a3), (4, .int a4), (5, .int a5)] [] h (some (.int r0)) h' := by
  unfold f_mo_bestSwitch_L84 at hf
  obtain ⟨x18, w19⟩ : ∃ v : Int32, v = a5 + 1 := ⟨_, rfl⟩
  have hf := sm_letV w19 hf
  refine sm_iinc (v := x18) (lv' := [(5, .int x18), (0, .ref a0), (1, .int a1), (2, .int a2), (3, .int a3), (4, .int a4)]) 5 rfl (by rw [w19]; rfl) d_mo_bestSwitch_84 rfl rfl ?_
  refine sm_goto 47 d_mo_bestSwitch_87 rfl ?_
  refine sm_sub [1, 2, 3, 4, 5, 0] rfl ?_
  exact hk47 _ _ _ _ _ _ _ e0 hf
theorem w_mo_bestSwitch_L47 (l : Launch) (lo hi d : Nat) {k26 : Nat → Int32 → Int32 → Int32 → Int32 → sm_H → Option (Int32 × sm_H)} {h' : sm_H} {r0 : Int32} (hk26 : ∀ (a0 : Nat) (a1 : Int32) (a2 : Int32) (a3 : Int32) (a4 : Int32) (h : sm_H) (_ : sm_at lo hi (0, 10, 0) a0) , k26 a0 a1 a2 a3 a4 h = some (r0, h') → sm_W l lo hi (d + 9) q_mo_bestSwitch 26 [(0, .ref a0), (1, .int a1), (2, .int a2), (3, .int a3), (4, .int a4)] [] h (some (.int r0)) h') : ∀ (n : Nat) (a0 : Nat) (a1 : Int32) (a2 : Int32) (a3 : Int32) (a4 : Int32) (a5 : Int32) (h : sm_H) (e0 : sm_at lo hi (0, 10, 0) a0) (hf : f_mo_bestSwitch_L47 k26 n a0 a1 a2 a3 a4 a5 h = some (r0, h')), sm_W l lo hi (d + 9) q_mo_bestSwitch 47 [(0, .ref a0), (1, .int a1), (2, .int a2), (3, .int a3), (4, .int a4), (5, .int a5)] [] h (some (.int r0)) h' := by
  intro n
  induction n with
  | zero =>
    intro a0 a1 a2 a3 a4 a5 h e0 hf
    have z : (none : Option (Int32 × sm_H)) = some _ := hf
    cases z
  | succ n ih =>
    intro a0 a1 a2 a3 a4 a5 h e0 hf
    unfold f_mo_bestSwitch_L47 at hf
    refine sm_iload 5 rfl d_mo_bestSwitch_47 ?_
    refine sm_iconst (v := 2) (by decide) d_mo_bestSwitch_49 ?_
    refine sm_icmp_gt 90 d_mo_bestSwitch_50 rfl (fun c11 => ?_) (fun c11 => ?_)
    · have hf := sm_ifT c11 hf
      refine sm_sub [0, 1, 2, 3, 4] rfl ?_
      exact w_mo_bestSwitch_L90 l lo hi d hk26 _ _ _ _ _ _ e0 hf
    · have hf := sm_ifF c11 hf
      refine sm_aload_n 0 rfl d_mo_bestSwitch_53 ?_
      refine sm_iload 4 rfl d_mo_bestSwitch_54 ?_
      refine sm_iload 5 rfl d_mo_bestSwitch_56 ?_
      refine sm_iload_n 1 rfl d_mo_bestSwitch_58 ?_
      obtain ⟨r12, g13, c14, hf⟩ := sm_b2E hf
      refine sm_callV (As := [.int a4, .int a5, .int a1]) (rv := some (.int r12)) (h1 := g13) (c := 10) cvv_mo_465 rfl rfl e0 (m_mo_smokeWith l lo hi _ e0 c14) rfl rfl d_mo_bestSwitch_59 ?_
      refine sm_istore (lv' := [(6, .int r12), (0, .ref a0), (1, .int a1), (2, .int a2), (3, .int a3), (4, .int a4), (5, .int a5)]) d_mo_bestSwitch_62 rfl rfl ?_
      refine sm_iload 0 rfl d_mo_bestSwitch_64 ?_
      refine sm_iload_n 4 rfl d_mo_bestSwitch_66 ?_
      refine sm_icmp_ge 84 d_mo_bestSwitch_67 rfl (fun c15 => ?_) (fun c15 => ?_)
      · have hf := sm_ifT c15 hf
        refine sm_sub [1, 2, 3, 4, 5, 6] rfl ?_
        exact w_mo_bestSwitch_L84 l lo hi d ih _ _ _ _ _ _ _ e0 hf
      · have hf := sm_ifF c15 hf
        refine sm_iload 0 rfl d_mo_bestSwitch_70 ?_
        refine sm_istore_n (lv' := [(3, .int r12), (6, .int r12), (0, .ref a0), (1, .int a1), (2, .int a2), (4, .int a4), (5, .int a5)]) d_mo_bestSwitch_72 rfl rfl ?_
        refine sm_bipush (v := 10) (by decide) d_mo_bestSwitch_73 ?_
        refine sm_iconst (v := 1) (by decide) d_mo_bestSwitch_75 ?_
        refine sm_iload 5 rfl d_mo_bestSwitch_76 ?_
        refine sm_iadd d_mo_bestSwitch_78 ?_
        refine sm_imul d_mo_bestSwitch_79 ?_
        refine sm_iload 6 rfl d_mo_bestSwitch_80 ?_
        refine sm_iadd d_mo_bestSwitch_82 ?_
        refine sm_nmI (fun x16 w17 => ?_)
        have hf := sm_letV w17 hf
        refine sm_istore_n (lv' := [(2, .int x16), (3, .int r12), (6, .int r12), (0, .ref a0), (1, .int a1), (4, .int a4), (5, .int a5)]) d_mo_bestSwitch_83 rfl rfl ?_
        refine sm_sub [3, 4, 0, 1, 5, 6] rfl ?_
        exact w_mo_bestSwitch_L84 l lo hi d ih _ _ _ _ _ _ _ e0 hf
theorem w_mo_bestSwitch_L26 (l : Launch) (lo hi d : Nat) {h' : sm_H} {r0 : Int32} : ∀ (n : Nat) (a0 : Nat) (a1 : Int32) (a2 : Int32) (a3 : Int32) (a4 : Int32) (h : sm_H) (e0 : sm_at lo hi (0, 10, 0) a0) (hf : f_mo_bestSwitch_L26 n a0 a1 a2 a3 a4 h = some (r0, h')), sm_W l lo hi (d + 9) q_mo_bestSwitch 26 [(0, .ref a0), (1, .int a1), (2, .int a2), (3, .int a3), (4, .int a4)] [] h (some (.int r0)) h' := by
  intro n
  induction n with
  | zero =>
    intro a0 a1 a2 a3 a4 h e0 hf
    have z : (none : Option (Int32 × sm_H)) = some _ := hf
    cases z
  | succ n ih =>
    intro a0 a1 a2 a3 a4 h e0 hf
    unfold f_mo_bestSwitch_L26 at hf
    refine sm_iload 4 rfl d_mo_bestSwitch_26 ?_
    refine sm_aload_n 0 rfl d_mo_bestSwitch_28 ?_
    refine sm_getR (n := 1) fl_mo_7 e0 rfl d_mo_bestSwitch_29 ?_
    refine sm_iconst (v := 1) (by decide) d_mo_bestSwitch_32 ?_
    obtain ⟨c8, hf⟩ := sm_gdE hf
    refine sm_iald (sm_at_arr (sm_inner e0 0 rfl rfl rfl)) c8 d_mo_bestSwitch_33 ?_
    refine sm_aload_n 0 rfl d_mo_bestSwitch_34 ?_
    refine sm_getR (n := 1) fl_mo_7 e0 rfl d_mo_bestSwitch_35 ?_
    refine sm_iconst (v := 2) (by decide) d_mo_bestSwitch_38 ?_
    obtain ⟨c9, hf⟩ := sm_gdE hf
    refine sm_iald (sm_at_arr (sm_inner e0 0 rfl rfl rfl)) c9 d_mo_bestSwitch_39 ?_
    refine sm_iadd d_mo_bestSwitch_40 ?_
    refine sm_icmp_ge 96 d_mo_bestSwitch_41 rfl (fun c10 => ?_) (fun c10 => ?_)
    · have hf := sm_ifT c10 hf
      refine sm_sub [2] rfl ?_
      exact w_mo_bestSwitch_L96 l lo hi d _ _ hf
    · have hf := sm_ifF c10 hf
      refine sm_iconst (v := 1) (by decide) d_mo_bestSwitch_44 ?_
      refine sm_istore (lv' := [(5, .int 1), (0, .ref a0), (1, .int a1), (2, .int a2), (3, .int a3), (4, .int a4)]) d_mo_bestSwitch_45 rfl rfl ?_
      refine sm_sub [1, 2, 3, 4, 5, 0] rfl ?_
      exact w_mo_bestSwitch_L47 l lo hi d ih sm_N _ _ _ _ _ _ _ e0 hf
theorem m_mo_bestSwitch (l : Launch) (lo hi d : Nat) {a0 : Nat} {a1 : Int32} {r0 : Int32} {h h' : sm_H} (e0 : sm_at lo hi (0, 10, 0) a0) (hf : f_mo_bestSwitch a0 a1 h = some (r0, h')) : sm_Met l lo hi (d + 9) q_mo_bestSwitch [.ref a0, .int a1] h (some (.int r0)) h' := by
  refine sm_Met.of (by decide +kernel) rfl ?_
  show sm_W l lo hi (d + 9) q_mo_bestSwitch 0 [(0, .ref a0), (1, .int a1)] [] h (some (.int r0)) h'
  unfold f_mo_bestSwitch at hf
  refine sm_iload_n 1 rfl d_mo_bestSwitch_0 ?_
  refine sm_iconst (v := 1) (by decide) d_mo_bestSwitch_1 ?_
  refine sm_bipush (v := 60) (by decide) d_mo_bestSwitch_2 ?_
  obtain ⟨r1, g2, c3, hf⟩ := sm_b2E hf
  refine sm_callS (As := [.int a1, .int 1, .int 60]) (rv := some (.int r1)) (h1 := g2) cvs_mo_91 (m_mo_in l lo hi _ c3) rfl rfl d_mo_bestSwitch_4 ?_
  refine sm_if_ne 13 d_mo_bestSwitch_7 rfl (fun c4 => ?_) (fun c4 => ?_)
  · have hf := sm_ifF c4 hf
    refine sm_iconst (v := 0) (by decide) d_mo_bestSwitch_13 ?_
    refine sm_istore_n (lv' := [(2, .int 0), (0, .ref a0), (1, .int a1)]) d_mo_bestSwitch_14 rfl rfl ?_
    refine sm_aload_n 1 rfl d_mo_bestSwitch_15 ?_
    refine sm_iconst (v := (-1)) (by decide) d_mo_bestSwitch_16 ?_
    refine sm_iconst (v := 0) (by decide) d_mo_bestSwitch_17 ?_
    refine sm_iload_n 2 rfl d_mo_bestSwitch_18 ?_
    obtain ⟨r5, g6, c7, hf⟩ := sm_b2E hf
    refine sm_callV (As := [.int (-1), .int 0, .int a1]) (rv := some (.int r5)) (h1 := g6) (c := 10) cvv_mo_465 rfl rfl e0 (m_mo_smokeWith l lo hi _ e0 c7) rfl rfl d_mo_bestSwitch_19 ?_
    refine sm_istore_n (lv' := [(3, .int r5), (2, .int 0), (0, .ref a0), (1, .int a1)]) d_mo_bestSwitch_22 rfl rfl ?_
    refine sm_iconst (v := 0) (by decide) d_mo_bestSwitch_23 ?_
    refine sm_istore (lv' := [(4, .int 0), (3, .int r5), (2, .int 0), (0, .ref a0), (1, .int a1)]) d_mo_bestSwitch_24 rfl rfl ?_
    refine sm_sub [3, 4, 2, 1, 0] rfl ?_
    exact w_mo_bestSwitch_L26 l lo hi d sm_N _ _ _ _ _ _ e0 hf
  · have hf := sm_ifT c4 hf
    refine sm_bipush (v := (-2)) (by decide) d_mo_bestSwitch_10 ?_
    obtain ⟨rfl, rfl⟩ := sm_ret2 hf
    exact sm_iret d_mo_bestSwitch_12 rfl
theorem d_mo_openAll_0 : decode q_mo_openAll.2.1 0 = .ok (.aload_n 0, 1) := by decide +kernel
theorem d_mo_openAll_1 : decode q_mo_openAll.2.1 1 = .ok (.getfield 16, 3) := by decide +kernel
theorem d_mo_openAll_4 : decode q_mo_openAll.2.1 4 = .ok (.iconst 1, 1) := by decide +kernel
theorem d_mo_openAll_5 : decode q_mo_openAll.2.1 5 = .ok (.iconst 1, 1) := by decide +kernel
theorem d_mo_openAll_6 : decode q_mo_openAll.2.1 6 = .ok (.iastore, 1) := by decide +kernel
theorem d_mo_openAll_7 : decode q_mo_openAll.2.1 7 = .ok (.iconst 0, 1) := by decide +kernel
theorem d_mo_openAll_8 : decode q_mo_openAll.2.1 8 = .ok (.istore_n 2, 1) := by decide +kernel
theorem d_mo_openAll_9 : decode q_mo_openAll.2.1 9 = .ok (.iconst 0, 1) := by decide +kernel
theorem d_mo_openAll_10 : decode q_mo_openAll.2.1 10 = .ok (.istore_n 3, 1) := by decide +kernel
theorem d_mo_openAll_11 : decode q_mo_openAll.2.1 11 = .ok (.iload_n 3, 1) := by decide +kernel
theorem d_mo_openAll_12 : decode q_mo_openAll.2.1 12 = .ok (.aload_n 0, 1) := by decide +kernel
theorem d_mo_openAll_13 : decode q_mo_openAll.2.1 13 = .ok (.getfield 7, 3) := by decide +kernel
theorem d_mo_openAll_16 : decode q_mo_openAll.2.1 16 = .ok (.iconst 1, 1) := by decide +kernel
theorem d_mo_openAll_17 : decode q_mo_openAll.2.1 17 = .ok (.iaload, 1) := by decide +kernel
theorem d_mo_openAll_18 : decode q_mo_openAll.2.1 18 = .ok (.if_icmp .ge 32, 3) := by decide +kernel
theorem d_mo_openAll_21 : decode q_mo_openAll.2.1 21 = .ok (.aload_n 0, 1) := by decide +kernel
theorem d_mo_openAll_22 : decode q_mo_openAll.2.1 22 = .ok (.iload_n 3, 1) := by decide +kernel
theorem d_mo_openAll_23 : decode q_mo_openAll.2.1 23 = .ok (.iconst 1, 1) := by decide +kernel
theorem d_mo_openAll_24 : decode q_mo_openAll.2.1 24 = .ok (.invokevirtual 73, 3) := by decide +kernel
theorem d_mo_openAll_27 : decode q_mo_openAll.2.1 27 = .ok (.iload_n 1, 1) := by decide +kernel
theorem d_mo_openAll_28 : decode q_mo_openAll.2.1 28 = .ok (.if_icmp .ne 16, 3) := by decide +kernel
theorem d_mo_openAll_31 : decode q_mo_openAll.2.1 31 = .ok (.aload_n 0, 1) := by decide +kernel
theorem d_mo_openAll_32 : decode q_mo_openAll.2.1 32 = .ok (.iload_n 3, 1) := by decide +kernel
theorem d_mo_openAll_33 : decode q_mo_openAll.2.1 33 = .ok (.iconst 2, 1) := by decide +kernel
theorem d_mo_openAll_34 : decode q_mo_openAll.2.1 34 = .ok (.iconst 1, 1) := by decide +kernel
theorem d_mo_openAll_35 : decode q_mo_openAll.2.1 35 = .ok (.invokevirtual 77, 3) := by decide +kernel
theorem d_mo_openAll_38 : decode q_mo_openAll.2.1 38 = .ok (.iload_n 2, 1) := by decide +kernel
theorem d_mo_openAll_39 : decode q_mo_openAll.2.1 39 = .ok (.iconst 1, 1) := by decide +kernel
theorem d_mo_openAll_40 : decode q_mo_openAll.2.1 40 = .ok (.iload_n 3, 1) := by decide +kernel
theorem d_mo_openAll_41 : decode q_mo_openAll.2.1 41 = .ok (.ishl, 1) := by decide +kernel
theorem d_mo_openAll_42 : decode q_mo_openAll.2.1 42 = .ok (.ior, 1) := by decide +kernel
theorem d_mo_openAll_43 : decode q_mo_openAll.2.1 43 = .ok (.istore_n 2, 1) := by decide +kernel
theorem d_mo_openAll_44 : decode q_mo_openAll.2.1 44 = .ok (.iinc 3 1, 3) := by decide +kernel
theorem d_mo_openAll_47 : decode q_mo_openAll.2.1 47 = .ok (.goto (-36), 3) := by decide +kernel
theorem d_mo_openAll_50 : decode q_mo_openAll.2.1 50 = .ok (.iconst 0, 1) := by decide +kernel
theorem d_mo_openAll_51 : decode q_mo_openAll.2.1 51 = .ok (.istore_n 3, 1) := by decide +kernel
theorem d_mo_openAll_52 : decode q_mo_openAll.2.1 52 = .ok (.iload_n 3, 1) := by decide +kernel
theorem d_mo_openAll_53 : decode q_mo_openAll.2.1 53 = .ok (.aload_n 0, 1) := by decide +kernel
theorem d_mo_openAll_54 : decode q_mo_openAll.2.1 54 = .ok (.getfield 7, 3) := by decide +kernel
theorem d_mo_openAll_57 : decode q_mo_openAll.2.1 57 = .ok (.iconst 2, 1) := by decide +kernel
theorem d_mo_openAll_58 : decode q_mo_openAll.2.1 58 = .ok (.iaload, 1) := by decide +kernel
theorem d_mo_openAll_59 : decode q_mo_openAll.2.1 59 = .ok (.if_icmp .ge 27, 3) := by decide +kernel
theorem d_mo_openAll_62 : decode q_mo_openAll.2.1 62 = .ok (.aload_n 0, 1) := by decide +kernel
theorem d_mo_openAll_63 : decode q_mo_openAll.2.1 63 = .ok (.iload_n 3, 1) := by decide +kernel
theorem d_mo_openAll_64 : decode q_mo_openAll.2.1 64 = .ok (.iconst 3, 1) := by decide +kernel
theorem d_mo_openAll_65 : decode q_mo_openAll.2.1 65 = .ok (.invokevirtual 320, 3) := by decide +kernel
theorem d_mo_openAll_68 : decode q_mo_openAll.2.1 68 = .ok (.iload_n 2, 1) := by decide +kernel
theorem d_mo_openAll_69 : decode q_mo_openAll.2.1 69 = .ok (.iand, 1) := by decide +kernel
theorem d_mo_openAll_70 : decode q_mo_openAll.2.1 70 = .ok (.ifCond .eq 10, 3) := by decide +kernel
theorem d_mo_openAll_73 : decode q_mo_openAll.2.1 73 = .ok (.aload_n 0, 1) := by decide +kernel
theorem d_mo_openAll_74 : decode q_mo_openAll.2.1 74 = .ok (.iload_n 3, 1) := by decide +kernel
theorem d_mo_openAll_75 : decode q_mo_openAll.2.1 75 = .ok (.iconst 2, 1) := by decide +kernel
theorem d_mo_openAll_76 : decode q_mo_openAll.2.1 76 = .ok (.iconst 1, 1) := by decide +kernel
theorem d_mo_openAll_77 : decode q_mo_openAll.2.1 77 = .ok (.invokevirtual 373, 3) := by decide +kernel
theorem d_mo_openAll_80 : decode q_mo_openAll.2.1 80 = .ok (.iinc 3 1, 3) := by decide +kernel
theorem d_mo_openAll_83 : decode q_mo_openAll.2.1 83 = .ok (.goto (-31), 3) := by decide +kernel
theorem d_mo_openAll_86 : decode q_mo_openAll.2.1 86 = .ok (.return_, 1) := by decide +kernel
theorem w_mo_openAll_L80 (l : Launch) (lo hi d : Nat) {k52 : Nat → Int32 → Int32 → sm_H → Option sm_H} {h' : sm_H} (hk52 : ∀ (a0 : Nat) (a2 : Int32) (a3 : Int32) (h : sm_H) (_ : sm_at lo hi (0, 10, 0) a0) , k52 a0 a2 a3 h = some h' → sm_W l lo hi (d + 1) q_mo_openAll 52 [(0, .ref a0), (2, .int a2), (3, .int a3)] [] h none h') (a0 : Nat) (a2 : Int32) (a3 : Int32) (h : sm_H) (e0 : sm_at lo hi (0, 10, 0) a0) (hf : f_mo_openAll_L80 k52 a0 a2 a3 h = some h') : sm_W l lo hi (d + 1) q_mo_openAll 80 [(0, .ref a0), (2, .int a2), (3, .int a3)] [] h none h' := by
  unfold f_mo_openAll_L80 at hf
  obtain ⟨x24, w25⟩ : ∃ v : Int32, v = a3 + 1 := ⟨_, rfl⟩
  have hf := sm_letV w25 hf
  refine sm_iinc (v := x24) (lv' := [(3, .int x24), (0, .ref a0), (2, .int a2)]) 2 rfl (by rw [w25]; rfl) d_mo_openAll_80 rfl rfl ?_
  refine sm_goto 52 d_mo_openAll_83 rfl ?_
  refine sm_sub [1, 2, 0] rfl ?_
  exact hk52 _ _ _ _ e0 hf
theorem w_mo_openAll_L52 (l : Launch) (lo hi d : Nat) {h' : sm_H} : ∀ (n : Nat) (a0 : Nat) (a2 : Int32) (a3 : Int32) (h : sm_H) (e0 : sm_at lo hi (0, 10, 0) a0) (hf : f_mo_openAll_L52 n a0 a2 a3 h = some h'), sm_W l lo hi (d + 1) q_mo_openAll 52 [(0, .ref a0), (2, .int a2), (3, .int a3)] [] h none h' := by
  intro n
  induction n with
  | zero =>
    intro a0 a2 a3 h e0 hf
    have z : (none : Option sm_H) = some _ := hf
    cases z
  | succ n ih =>
    intro a0 a2 a3 h e0 hf
    unfold f_mo_openAll_L52 at hf
    refine sm_iload_n 2 rfl d_mo_openAll_52 ?_
    refine sm_aload_n 0 rfl d_mo_openAll_53 ?_
    refine sm_getR (n := 1) fl_mo_7 e0 rfl d_mo_openAll_54 ?_
    refine sm_iconst (v := 2) (by decide) d_mo_openAll_57 ?_
    obtain ⟨c16, hf⟩ := sm_gdE hf
    refine sm_iald (sm_at_arr (sm_inner e0 0 rfl rfl rfl)) c16 d_mo_openAll_58 ?_
    refine sm_icmp_ge 86 d_mo_openAll_59 rfl (fun c17 => ?_) (fun c17 => ?_)
    · have hf := sm_ifT c17 hf
      obtain rfl := sm_ret1 hf
      exact sm_vret d_mo_openAll_86 rfl
    · have hf := sm_ifF c17 hf
      refine sm_aload_n 0 rfl d_mo_openAll_62 ?_
      refine sm_iload_n 2 rfl d_mo_openAll_63 ?_
      refine sm_iconst (v := 3) (by decide) d_mo_openAll_64 ?_
      obtain ⟨r18, g19, c20, hf⟩ := sm_b2E hf
      refine sm_callV (As := [.int a3, .int 3]) (rv := some (.int r18)) (h1 := g19) (c := 10) cvv_mo_320 rfl rfl e0 (m_mo_fanOf l lo hi _ e0 c20) rfl rfl d_mo_openAll_65 ?_
      refine sm_iload_n 1 rfl d_mo_openAll_68 ?_
      refine sm_iand d_mo_openAll_69 ?_
      refine sm_if_eq 80 d_mo_openAll_70 rfl (fun c21 => ?_) (fun c21 => ?_)
      · have hf := sm_ifT c21 hf
        exact w_mo_openAll_L80 l lo hi d ih _ _ _ _ e0 hf
      · have hf := sm_ifF c21 hf
        refine sm_aload_n 0 rfl d_mo_openAll_73 ?_
        refine sm_iload_n 2 rfl d_mo_openAll_74 ?_
        refine sm_iconst (v := 2) (by decide) d_mo_openAll_75 ?_
        refine sm_iconst (v := 1) (by decide) d_mo_openAll_76 ?_
        obtain ⟨g22, c23, hf⟩ := sm_bindE hf
        refine sm_callV (As := [.int a3, .int 2, .int 1]) (rv := none) (h1 := g22) (c := 10) cvv_mo_373 rfl rfl e0 (m_mo_putFan l lo hi _ e0 c23) rfl rfl d_mo_openAll_77 ?_
        exact w_mo_openAll_L80 l lo hi d ih _ _ _ _ e0 hf
theorem w_mo_openAll_L50 (l : Launch) (lo hi d : Nat) {h' : sm_H} (a0 : Nat) (a2 : Int32) (h : sm_H) (e0 : sm_at lo hi (0, 10, 0) a0) (hf : f_mo_openAll_L50 a0 a2 h = some h') : sm_W l lo hi (d + 1) q_mo_openAll 50 [(0, .ref a0), (2, .int a2)] [] h none h' := by
  unfold f_mo_openAll_L50 at hf
  refine sm_iconst (v := 0) (by decide) d_mo_openAll_50 ?_
  refine sm_istore_n (lv' := [(3, .int 0), (0, .ref a0), (2, .int a2)]) d_mo_openAll_51 rfl rfl ?_
  refine sm_sub [1, 2, 0] rfl ?_
  exact w_mo_openAll_L52 l lo hi d sm_N _ _ _ _ e0 hf
theorem w_mo_openAll_L44 (l : Launch) (lo hi d : Nat) {k11 : Nat → Int32 → Int32 → Int32 → sm_H → Option sm_H} {h' : sm_H} (hk11 : ∀ (a0 : Nat) (a1 : Int32) (a2 : Int32) (a3 : Int32) (h : sm_H) (_ : sm_at lo hi (0, 10, 0) a0) , k11 a0 a1 a2 a3 h = some h' → sm_W l lo hi (d + 1) q_mo_openAll 11 [(0, .ref a0), (1, .int a1), (2, .int a2), (3, .int a3)] [] h none h') (a0 : Nat) (a1 : Int32) (a2 : Int32) (a3 : Int32) (h : sm_H) (e0 : sm_at lo hi (0, 10, 0) a0) (hf : f_mo_openAll_L44 k11 a0 a1 a2 a3 h = some h') : sm_W l lo hi (d + 1) q_mo_openAll 44 [(0, .ref a0), (1, .int a1), (2, .int a2), (3, .int a3)] [] h none h' := by
  unfold f_mo_openAll_L44 at hf
  obtain ⟨x14, w15⟩ : ∃ v : Int32, v = a3 + 1 := ⟨_, rfl⟩
  have hf := sm_letV w15 hf
  refine sm_iinc (v := x14) (lv' := [(3, .int x14), (0, .ref a0), (1, .int a1), (2, .int a2)]) 3 rfl (by rw [w15]; rfl) d_mo_openAll_44 rfl rfl ?_
  refine sm_goto 11 d_mo_openAll_47 rfl ?_
  refine sm_sub [1, 2, 3, 0] rfl ?_
  exact hk11 _ _ _ _ _ e0 hf
theorem w_mo_openAll_L11 (l : Launch) (lo hi d : Nat) {h' : sm_H} : ∀ (n : Nat) (a0 : Nat) (a1 : Int32) (a2 : Int32) (a3 : Int32) (h : sm_H) (e0 : sm_at lo hi (0, 10, 0) a0) (hf : f_mo_openAll_L11 n a0 a1 a2 a3 h = some h'), sm_W l lo hi (d + 1) q_mo_openAll 11 [(0, .ref a0), (1, .int a1), (2, .int a2), (3, .int a3)] [] h none h' := by
  intro n
  induction n with
  | zero =>
    intro a0 a1 a2 a3 h e0 hf
    have z : (none : Option sm_H) = some _ := hf
    cases z
  | succ n ih =>
    intro a0 a1 a2 a3 h e0 hf
    unfold f_mo_openAll_L11 at hf
    refine sm_iload_n 3 rfl d_mo_openAll_11 ?_
    refine sm_aload_n 0 rfl d_mo_openAll_12 ?_
    refine sm_getR (n := 1) fl_mo_7 e0 rfl d_mo_openAll_13 ?_
    refine sm_iconst (v := 1) (by decide) d_mo_openAll_16 ?_
    obtain ⟨c4, hf⟩ := sm_gdE hf
    refine sm_iald (sm_at_arr (sm_inner e0 0 rfl rfl rfl)) c4 d_mo_openAll_17 ?_
    refine sm_icmp_ge 50 d_mo_openAll_18 rfl (fun c5 => ?_) (fun c5 => ?_)
    · have hf := sm_ifT c5 hf
      refine sm_sub [0, 2] rfl ?_
      exact w_mo_openAll_L50 l lo hi d _ _ _ e0 hf
    · have hf := sm_ifF c5 hf
      refine sm_aload_n 0 rfl d_mo_openAll_21 ?_
      refine sm_iload_n 3 rfl d_mo_openAll_22 ?_
      refine sm_iconst (v := 1) (by decide) d_mo_openAll_23 ?_
      obtain ⟨r6, g7, c8, hf⟩ := sm_b2E hf
      refine sm_callV (As := [.int a3, .int 1]) (rv := some (.int r6)) (h1 := g7) (c := 10) cvv_mo_73 rfl rfl e0 (m_mo_damperOf l lo hi _ e0 c8) rfl rfl d_mo_openAll_24 ?_
      refine sm_iload_n 1 rfl d_mo_openAll_27 ?_
      refine sm_icmp_ne 44 d_mo_openAll_28 rfl (fun c9 => ?_) (fun c9 => ?_)
      · have hf := sm_ifF c9 hf
        exact w_mo_openAll_L44 l lo hi d ih _ _ _ _ _ e0 hf
      · have hf := sm_ifT c9 hf
        refine sm_aload_n 0 rfl d_mo_openAll_31 ?_
        refine sm_iload_n 3 rfl d_mo_openAll_32 ?_
        refine sm_iconst (v := 2) (by decide) d_mo_openAll_33 ?_
        refine sm_iconst (v := 1) (by decide) d_mo_openAll_34 ?_
        obtain ⟨g10, c11, hf⟩ := sm_bindE hf
        refine sm_callV (As := [.int a3, .int 2, .int 1]) (rv := none) (h1 := g10) (c := 10) cvv_mo_77 rfl rfl e0 (m_mo_put l lo hi _ e0 c11) rfl rfl d_mo_openAll_35 ?_
        refine sm_iload_n 2 rfl d_mo_openAll_38 ?_
        refine sm_iconst (v := 1) (by decide) d_mo_openAll_39 ?_
        refine sm_iload_n 3 rfl d_mo_openAll_40 ?_
        refine sm_ishl d_mo_openAll_41 ?_
        refine sm_ior d_mo_openAll_42 ?_
        refine sm_nmI (fun x12 w13 => ?_)
        have hf := sm_letV w13 hf
        refine sm_istore_n (lv' := [(2, .int x12), (0, .ref a0), (1, .int a1), (3, .int a3)]) d_mo_openAll_43 rfl rfl ?_
        refine sm_sub [1, 2, 0, 3] rfl ?_
        exact w_mo_openAll_L44 l lo hi d ih _ _ _ _ _ e0 hf
theorem m_mo_openAll (l : Launch) (lo hi d : Nat) {a0 : Nat} {a1 : Int32} {h h' : sm_H} (e0 : sm_at lo hi (0, 10, 0) a0) (hf : f_mo_openAll a0 a1 h = some h') : sm_Met l lo hi (d + 1) q_mo_openAll [.ref a0, .int a1] h none h' := by
  refine sm_Met.of (by decide +kernel) rfl ?_
  show sm_W l lo hi (d + 1) q_mo_openAll 0 [(0, .ref a0), (1, .int a1)] [] h none h'
  unfold f_mo_openAll at hf
  refine sm_aload_n 0 rfl d_mo_openAll_0 ?_
  refine sm_getR (n := 3) fl_mo_16 e0 rfl d_mo_openAll_1 ?_
  refine sm_iconst (v := 1) (by decide) d_mo_openAll_4 ?_
  refine sm_iconst (v := 1) (by decide) d_mo_openAll_5 ?_
  obtain ⟨c1, hf⟩ := sm_gdE hf
  refine sm_iast (sm_at_arr (sm_inner e0 2 rfl rfl rfl)) c1 d_mo_openAll_6 ?_
  refine sm_nmH (fun g2 w3 => ?_)
  have hf := sm_letV w3 hf
  refine sm_iconst (v := 0) (by decide) d_mo_openAll_7 ?_
  refine sm_istore_n (lv' := [(2, .int 0), (0, .ref a0), (1, .int a1)]) d_mo_openAll_8 rfl rfl ?_
  refine sm_iconst (v := 0) (by decide) d_mo_openAll_9 ?_
  refine sm_istore_n (lv' := [(3, .int 0), (2, .int 0), (0, .ref a0), (1, .int a1)]) d_mo_openAll_10 rfl rfl ?_
  refine sm_sub [2, 3, 1, 0] rfl ?_
  exact w_mo_openAll_L11 l lo hi d sm_N _ _ _ _ _ e0 hf
theorem d_mo_purgeTime_0 : decode q_mo_purgeTime.2.1 0 = .ok (.aload_n 0, 1) := by decide +kernel
theorem d_mo_purgeTime_1 : decode q_mo_purgeTime.2.1 1 = .ok (.iload_n 1, 1) := by decide +kernel
theorem d_mo_purgeTime_2 : decode q_mo_purgeTime.2.1 2 = .ok (.invokevirtual 430, 3) := by decide +kernel
theorem d_mo_purgeTime_5 : decode q_mo_purgeTime.2.1 5 = .ok (.ifCond .ne 5, 3) := by decide +kernel
theorem d_mo_purgeTime_8 : decode q_mo_purgeTime.2.1 8 = .ok (.iconst (-1), 1) := by decide +kernel
theorem d_mo_purgeTime_9 : decode q_mo_purgeTime.2.1 9 = .ok (.ireturn, 1) := by decide +kernel
theorem d_mo_purgeTime_10 : decode q_mo_purgeTime.2.1 10 = .ok (.aload_n 0, 1) := by decide +kernel
theorem d_mo_purgeTime_11 : decode q_mo_purgeTime.2.1 11 = .ok (.invokevirtual 450, 3) := by decide +kernel
theorem d_mo_purgeTime_14 : decode q_mo_purgeTime.2.1 14 = .ok (.aload_n 0, 1) := by decide +kernel
theorem d_mo_purgeTime_15 : decode q_mo_purgeTime.2.1 15 = .ok (.iload_n 1, 1) := by decide +kernel
theorem d_mo_purgeTime_16 : decode q_mo_purgeTime.2.1 16 = .ok (.invokevirtual 468, 3) := by decide +kernel
theorem d_mo_purgeTime_19 : decode q_mo_purgeTime.2.1 19 = .ok (.aload_n 0, 1) := by decide +kernel
theorem d_mo_purgeTime_20 : decode q_mo_purgeTime.2.1 20 = .ok (.iload_n 1, 1) := by decide +kernel
theorem d_mo_purgeTime_21 : decode q_mo_purgeTime.2.1 21 = .ok (.iload_n 1, 1) := by decide +kernel
theorem d_mo_purgeTime_22 : decode q_mo_purgeTime.2.1 22 = .ok (.bipush 100, 2) := by decide +kernel
theorem d_mo_purgeTime_24 : decode q_mo_purgeTime.2.1 24 = .ok (.invokevirtual 462, 3) := by decide +kernel
theorem d_mo_purgeTime_27 : decode q_mo_purgeTime.2.1 27 = .ok (.istore_n 2, 1) := by decide +kernel
theorem d_mo_purgeTime_28 : decode q_mo_purgeTime.2.1 28 = .ok (.aload_n 0, 1) := by decide +kernel
theorem d_mo_purgeTime_29 : decode q_mo_purgeTime.2.1 29 = .ok (.invokevirtual 453, 3) := by decide +kernel
theorem d_mo_purgeTime_32 : decode q_mo_purgeTime.2.1 32 = .ok (.iload_n 2, 1) := by decide +kernel
theorem d_mo_purgeTime_33 : decode q_mo_purgeTime.2.1 33 = .ok (.ireturn, 1) := by decide +kernel
theorem m_mo_purgeTime (l : Launch) (lo hi d : Nat) {a0 : Nat} {a1 : Int32} {r0 : Int32} {h h' : sm_H} (e0 : sm_at lo hi (0, 10, 0) a0) (hf : f_mo_purgeTime a0 a1 h = some (r0, h')) : sm_Met l lo hi (d + 9) q_mo_purgeTime [.ref a0, .int a1] h (some (.int r0)) h' := by
  refine sm_Met.of (by decide +kernel) rfl ?_
  show sm_W l lo hi (d + 9) q_mo_purgeTime 0 [(0, .ref a0), (1, .int a1)] [] h (some (.int r0)) h'
  unfold f_mo_purgeTime at hf
  refine sm_aload_n 0 rfl d_mo_purgeTime_0 ?_
  refine sm_iload_n 1 rfl d_mo_purgeTime_1 ?_
  obtain ⟨r1, g2, c3, hf⟩ := sm_b2E hf
  refine sm_callV (As := [.int a1]) (rv := some (.int r1)) (h1 := g2) (c := 10) cvv_mo_430 rfl rfl e0 (m_mo_isZone l lo hi _ e0 c3) rfl rfl d_mo_purgeTime_2 ?_
  refine sm_if_ne 10 d_mo_purgeTime_5 rfl (fun c4 => ?_) (fun c4 => ?_)
  · have hf := sm_ifF c4 hf
    refine sm_aload_n 0 rfl d_mo_purgeTime_10 ?_
    obtain ⟨g5, c6, hf⟩ := sm_bindE hf
    refine sm_callV (As := []) (rv := none) (h1 := g5) (c := 10) cvv_mo_450 rfl rfl e0 (m_mo_putAside l lo hi _ e0 c6) rfl rfl d_mo_purgeTime_11 ?_
    refine sm_aload_n 0 rfl d_mo_purgeTime_14 ?_
    refine sm_iload_n 1 rfl d_mo_purgeTime_15 ?_
    obtain ⟨g7, c8, hf⟩ := sm_bindE hf
    refine sm_callV (As := [.int a1]) (rv := none) (h1 := g7) (c := 10) cvv_mo_468 rfl rfl e0 (m_mo_openAll l lo hi _ e0 c8) rfl rfl d_mo_purgeTime_16 ?_
    refine sm_aload_n 0 rfl d_mo_purgeTime_19 ?_
    refine sm_iload_n 1 rfl d_mo_purgeTime_20 ?_
    refine sm_iload_n 1 rfl d_mo_purgeTime_21 ?_
    refine sm_bipush (v := 100) (by decide) d_mo_purgeTime_22 ?_
    obtain ⟨r9, g10, c11, hf⟩ := sm_b2E hf
    refine sm_callV (As := [.int a1, .int a1, .int 100]) (rv := some (.int r9)) (h1 := g10) (c := 10) cvv_mo_462 rfl rfl e0 (m_mo_ticksUntil l lo hi _ e0 c11) rfl rfl d_mo_purgeTime_24 ?_
    refine sm_istore_n (lv' := [(2, .int r9), (0, .ref a0), (1, .int a1)]) d_mo_purgeTime_27 rfl rfl ?_
    refine sm_aload_n 1 rfl d_mo_purgeTime_28 ?_
    obtain ⟨g12, c13, hf⟩ := sm_bindE hf
    refine sm_callV (As := []) (rv := none) (h1 := g12) (c := 10) cvv_mo_453 rfl rfl e0 (m_mo_putBack l lo hi _ e0 c13) rfl rfl d_mo_purgeTime_29 ?_
    refine sm_iload_n 0 rfl d_mo_purgeTime_32 ?_
    obtain ⟨rfl, rfl⟩ := sm_ret2 hf
    exact sm_iret d_mo_purgeTime_33 rfl
  · have hf := sm_ifT c4 hf
    refine sm_iconst (v := (-1)) (by decide) d_mo_purgeTime_8 ?_
    obtain ⟨rfl, rfl⟩ := sm_ret2 hf
    exact sm_iret d_mo_purgeTime_9 rfl
theorem d_mo_fullFlow_0 : decode q_mo_fullFlow.2.1 0 = .ok (.iconst 0, 1) := by decide +kernel
theorem d_mo_fullFlow_1 : decode q_mo_fullFlow.2.1 1 = .ok (.istore_n 1, 1) := by decide +kernel
theorem d_mo_fullFlow_2 : decode q_mo_fullFlow.2.1 2 = .ok (.iconst 0, 1) := by decide +kernel
theorem d_mo_fullFlow_3 : decode q_mo_fullFlow.2.1 3 = .ok (.istore_n 2, 1) := by decide +kernel
theorem d_mo_fullFlow_4 : decode q_mo_fullFlow.2.1 4 = .ok (.iload_n 2, 1) := by decide +kernel
theorem d_mo_fullFlow_5 : decode q_mo_fullFlow.2.1 5 = .ok (.aload_n 0, 1) := by decide +kernel
theorem d_mo_fullFlow_6 : decode q_mo_fullFlow.2.1 6 = .ok (.getfield 7, 3) := by decide +kernel
theorem d_mo_fullFlow_9 : decode q_mo_fullFlow.2.1 9 = .ok (.iconst 2, 1) := by decide +kernel
theorem d_mo_fullFlow_10 : decode q_mo_fullFlow.2.1 10 = .ok (.iaload, 1) := by decide +kernel
theorem d_mo_fullFlow_11 : decode q_mo_fullFlow.2.1 11 = .ok (.if_icmp .ge 32, 3) := by decide +kernel
theorem d_mo_fullFlow_14 : decode q_mo_fullFlow.2.1 14 = .ok (.aload_n 0, 1) := by decide +kernel
theorem d_mo_fullFlow_15 : decode q_mo_fullFlow.2.1 15 = .ok (.iload_n 2, 1) := by decide +kernel
theorem d_mo_fullFlow_16 : decode q_mo_fullFlow.2.1 16 = .ok (.iconst 0, 1) := by decide +kernel
theorem d_mo_fullFlow_17 : decode q_mo_fullFlow.2.1 17 = .ok (.invokevirtual 320, 3) := by decide +kernel
theorem d_mo_fullFlow_20 : decode q_mo_fullFlow.2.1 20 = .ok (.iconst 2, 1) := by decide +kernel
theorem d_mo_fullFlow_21 : decode q_mo_fullFlow.2.1 21 = .ok (.if_icmp .ne 14, 3) := by decide +kernel
theorem d_mo_fullFlow_24 : decode q_mo_fullFlow.2.1 24 = .ok (.iload_n 1, 1) := by decide +kernel
theorem d_mo_fullFlow_25 : decode q_mo_fullFlow.2.1 25 = .ok (.aload_n 0, 1) := by decide +kernel
theorem d_mo_fullFlow_26 : decode q_mo_fullFlow.2.1 26 = .ok (.iload_n 2, 1) := by decide +kernel
theorem d_mo_fullFlow_27 : decode q_mo_fullFlow.2.1 27 = .ok (.iconst 1, 1) := by decide +kernel
theorem d_mo_fullFlow_28 : decode q_mo_fullFlow.2.1 28 = .ok (.invokevirtual 320, 3) := by decide +kernel
theorem d_mo_fullFlow_31 : decode q_mo_fullFlow.2.1 31 = .ok (.iadd, 1) := by decide +kernel
theorem d_mo_fullFlow_32 : decode q_mo_fullFlow.2.1 32 = .ok (.goto 4, 3) := by decide +kernel
theorem d_mo_fullFlow_35 : decode q_mo_fullFlow.2.1 35 = .ok (.iload_n 1, 1) := by decide +kernel
theorem d_mo_fullFlow_36 : decode q_mo_fullFlow.2.1 36 = .ok (.istore_n 1, 1) := by decide +kernel
theorem d_mo_fullFlow_37 : decode q_mo_fullFlow.2.1 37 = .ok (.iinc 2 1, 3) := by decide +kernel
theorem d_mo_fullFlow_40 : decode q_mo_fullFlow.2.1 40 = .ok (.goto (-36), 3) := by decide +kernel
theorem d_mo_fullFlow_43 : decode q_mo_fullFlow.2.1 43 = .ok (.iload_n 1, 1) := by decide +kernel
theorem d_mo_fullFlow_44 : decode q_mo_fullFlow.2.1 44 = .ok (.ireturn, 1) := by decide +kernel
theorem w_mo_fullFlow_L43 (l : Launch) (lo hi d : Nat) {h' : sm_H} {r0 : Int32} (a1 : Int32) (h : sm_H) (hf : f_mo_fullFlow_L43 a1 h = some (r0, h')) : sm_W l lo hi (d + 1) q_mo_fullFlow 43 [(1, .int a1)] [] h (some (.int r0)) h' := by
  unfold f_mo_fullFlow_L43 at hf
  refine sm_iload_n 0 rfl d_mo_fullFlow_43 ?_
  obtain ⟨rfl, rfl⟩ := sm_ret2 hf
  exact sm_iret d_mo_fullFlow_44 rfl
theorem w_mo_fullFlow_L36 (l : Launch) (lo hi d : Nat) {k4 : Nat → Int32 → Int32 → sm_H → Option (Int32 × sm_H)} {h' : sm_H} {r0 : Int32} (hk4 : ∀ (a0 : Nat) (a1 : Int32) (a2 : Int32) (h : sm_H) (_ : sm_at lo hi (0, 10, 0) a0) , k4 a0 a1 a2 h = some (r0, h') → sm_W l lo hi (d + 1) q_mo_fullFlow 4 [(0, .ref a0), (1, .int a1), (2, .int a2)] [] h (some (.int r0)) h') (a0 : Nat) (a2 : Int32) (s0 : Int32) (h : sm_H) (e0 : sm_at lo hi (0, 10, 0) a0) (hf : f_mo_fullFlow_L36 k4 a0 a2 s0 h = some (r0, h')) : sm_W l lo hi (d + 1) q_mo_fullFlow 36 [(0, .ref a0), (2, .int a2)] [.int s0] h (some (.int r0)) h' := by
  unfold f_mo_fullFlow_L36 at hf
  refine sm_istore_n (lv' := [(1, .int s0), (0, .ref a0), (2, .int a2)]) d_mo_fullFlow_36 rfl rfl ?_
  obtain ⟨x10, w11⟩ : ∃ v : Int32, v = a2 + 1 := ⟨_, rfl⟩
  have hf := sm_letV w11 hf
  refine sm_iinc (v := x10) (lv' := [(2, .int x10), (1, .int s0), (0, .ref a0)]) 2 rfl (by rw [w11]; rfl) d_mo_fullFlow_37 rfl rfl ?_
  refine sm_goto 4 d_mo_fullFlow_40 rfl ?_
  refine sm_sub [2, 1, 0] rfl ?_
  exact hk4 _ _ _ _ e0 hf
theorem w_mo_fullFlow_L4 (l : Launch) (lo hi d : Nat) {h' : sm_H} {r0 : Int32} : ∀ (n : Nat) (a0 : Nat) (a1 : Int32) (a2 : Int32) (h : sm_H) (e0 : sm_at lo hi (0, 10, 0) a0) (hf : f_mo_fullFlow_L4 n a0 a1 a2 h = some (r0, h')), sm_W l lo hi (d + 1) q_mo_fullFlow 4 [(0, .ref a0), (1, .int a1), (2, .int a2)] [] h (some (.int r0)) h' := by
  intro n
  induction n with
  | zero =>
    intro a0 a1 a2 h e0 hf
    have z : (none : Option (Int32 × sm_H)) = some _ := hf
    cases z
  | succ n ih =>
    intro a0 a1 a2 h e0 hf
    unfold f_mo_fullFlow_L4 at hf
    refine sm_iload_n 2 rfl d_mo_fullFlow_4 ?_
    refine sm_aload_n 0 rfl d_mo_fullFlow_5 ?_
    refine sm_getR (n := 1) fl_mo_7 e0 rfl d_mo_fullFlow_6 ?_
    refine sm_iconst (v := 2) (by decide) d_mo_fullFlow_9 ?_
    obtain ⟨c1, hf⟩ := sm_gdE hf
    refine sm_iald (sm_at_arr (sm_inner e0 0 rfl rfl rfl)) c1 d_mo_fullFlow_10 ?_
    refine sm_icmp_ge 43 d_mo_fullFlow_11 rfl (fun c2 => ?_) (fun c2 => ?_)
    · have hf := sm_ifT c2 hf
      refine sm_sub [1] rfl ?_
      exact w_mo_fullFlow_L43 l lo hi d _ _ hf
    · have hf := sm_ifF c2 hf
      refine sm_aload_n 0 rfl d_mo_fullFlow_14 ?_
      refine sm_iload_n 2 rfl d_mo_fullFlow_15 ?_
      refine sm_iconst (v := 0) (by decide) d_mo_fullFlow_16 ?_
      obtain ⟨r3, g4, c5, hf⟩ := sm_b2E hf
      refine sm_callV (As := [.int a2, .int 0]) (rv := some (.int r3)) (h1 := g4) (c := 10) cvv_mo_320 rfl rfl e0 (m_mo_fanOf l lo hi _ e0 c5) rfl rfl d_mo_fullFlow_17 ?_
      refine sm_iconst (v := 2) (by decide) d_mo_fullFlow_20 ?_
      refine sm_icmp_ne 35 d_mo_fullFlow_21 rfl (fun c6 => ?_) (fun c6 => ?_)
      · have hf := sm_ifF c6 hf
        refine sm_iload_n 1 rfl d_mo_fullFlow_35 ?_
        refine sm_sub [0, 2] rfl ?_
        exact w_mo_fullFlow_L36 l lo hi d ih _ _ _ _ e0 hf
      · have hf := sm_ifT c6 hf
        refine sm_iload_n 1 rfl d_mo_fullFlow_24 ?_
        refine sm_aload_n 0 rfl d_mo_fullFlow_25 ?_
        refine sm_iload_n 2 rfl d_mo_fullFlow_26 ?_
        refine sm_iconst (v := 1) (by decide) d_mo_fullFlow_27 ?_
        obtain ⟨r7, g8, c9, hf⟩ := sm_b2E hf
        refine sm_callV (As := [.int a2, .int 1]) (rv := some (.int r7)) (h1 := g8) (c := 10) cvv_mo_320 rfl rfl e0 (m_mo_fanOf l lo hi _ e0 c9) rfl rfl d_mo_fullFlow_28 ?_
        refine sm_iadd d_mo_fullFlow_31 ?_
        refine sm_goto 36 d_mo_fullFlow_32 rfl ?_
        refine sm_sub [0, 2] rfl ?_
        exact w_mo_fullFlow_L36 l lo hi d ih _ _ _ _ e0 hf
theorem m_mo_fullFlow (l : Launch) (lo hi d : Nat) {a0 : Nat} {r0 : Int32} {h h' : sm_H} (e0 : sm_at lo hi (0, 10, 0) a0) (hf : f_mo_fullFlow a0 h = some (r0, h')) : sm_Met l lo hi (d + 1) q_mo_fullFlow [.ref a0] h (some (.int r0)) h' := by
  refine sm_Met.of (by decide +kernel) rfl ?_
  show sm_W l lo hi (d + 1) q_mo_fullFlow 0 [(0, .ref a0)] [] h (some (.int r0)) h'
  unfold f_mo_fullFlow at hf
  refine sm_iconst (v := 0) (by decide) d_mo_fullFlow_0 ?_
  refine sm_istore_n (lv' := [(1, .int 0), (0, .ref a0)]) d_mo_fullFlow_1 rfl rfl ?_
  refine sm_iconst (v := 0) (by decide) d_mo_fullFlow_2 ?_
  refine sm_istore_n (lv' := [(2, .int 0), (1, .int 0), (0, .ref a0)]) d_mo_fullFlow_3 rfl rfl ?_
  refine sm_sub [2, 1, 0] rfl ?_
  exact w_mo_fullFlow_L4 l lo hi d sm_N _ _ _ _ e0 hf
theorem d_mo_pressureOf_0 : decode q_mo_pressureOf.2.1 0 = .ok (.aload_n 0, 1) := by decide +kernel
theorem d_mo_pressureOf_1 : decode q_mo_pressureOf.2.1 1 = .ok (.invokevirtual 471, 3) := by decide +kernel
theorem d_mo_pressureOf_4 : decode q_mo_pressureOf.2.1 4 = .ok (.aload_n 0, 1) := by decide +kernel
theorem d_mo_pressureOf_5 : decode q_mo_pressureOf.2.1 5 = .ok (.iload_n 1, 1) := by decide +kernel
theorem d_mo_pressureOf_6 : decode q_mo_pressureOf.2.1 6 = .ok (.invokevirtual 385, 3) := by decide +kernel
theorem d_mo_pressureOf_9 : decode q_mo_pressureOf.2.1 9 = .ok (.invokestatic 388, 3) := by decide +kernel
theorem d_mo_pressureOf_12 : decode q_mo_pressureOf.2.1 12 = .ok (.ireturn, 1) := by decide +kernel
theorem m_mo_pressureOf (l : Launch) (lo hi d : Nat) {a0 : Nat} {a1 : Int32} {r0 : Int32} {h h' : sm_H} (e0 : sm_at lo hi (0, 10, 0) a0) (hf : f_mo_pressureOf a0 a1 h = some (r0, h')) : sm_Met l lo hi (d + 2) q_mo_pressureOf [.ref a0, .int a1] h (some (.int r0)) h' := by
  refine sm_Met.of (by decide +kernel) rfl ?_
  show sm_W l lo hi (d + 2) q_mo_pressureOf 0 [(0, .ref a0), (1, .int a1)] [] h (some (.int r0)) h'
  unfold f_mo_pressureOf at hf
  refine sm_aload_n 0 rfl d_mo_pressureOf_0 ?_
  obtain ⟨r1, g2, c3, hf⟩ := sm_b2E hf
  refine sm_callV (As := []) (rv := some (.int r1)) (h1 := g2) (c := 10) cvv_mo_471 rfl rfl e0 (m_mo_fullFlow l lo hi _ e0 c3) rfl rfl d_mo_pressureOf_1 ?_
  refine sm_aload_n 0 rfl d_mo_pressureOf_4 ?_
  refine sm_iload_n 1 rfl d_mo_pressureOf_5 ?_
  obtain ⟨r4, g5, c6, hf⟩ := sm_b2E hf
  refine sm_callV (As := [.int a1]) (rv := some (.int r4)) (h1 := g5) (c := 10) cvv_mo_385 rfl rfl e0 (m_mo_areaOf l lo hi _ e0 c6) rfl rfl d_mo_pressureOf_6 ?_
  obtain ⟨r7, g8, c9, hf⟩ := sm_b2E hf
  refine sm_callS (As := [.int r1, .int r4]) (rv := some (.int r7)) (h1 := g8) cvs_mo_388 (m_mo_pressureBy l lo hi _ c9) rfl rfl d_mo_pressureOf_9 ?_
  obtain ⟨rfl, rfl⟩ := sm_ret2 hf
  exact sm_iret d_mo_pressureOf_12 rfl
theorem d_mo_pressureWith_0 : decode q_mo_pressureWith.2.1 0 = .ok (.iload_n 1, 1) := by decide +kernel
theorem d_mo_pressureWith_1 : decode q_mo_pressureWith.2.1 1 = .ok (.iconst 0, 1) := by decide +kernel
theorem d_mo_pressureWith_2 : decode q_mo_pressureWith.2.1 2 = .ok (.iconst 1, 1) := by decide +kernel
theorem d_mo_pressureWith_3 : decode q_mo_pressureWith.2.1 3 = .ok (.aload_n 0, 1) := by decide +kernel
theorem d_mo_pressureWith_4 : decode q_mo_pressureWith.2.1 4 = .ok (.getfield 7, 3) := by decide +kernel
theorem d_mo_pressureWith_7 : decode q_mo_pressureWith.2.1 7 = .ok (.iconst 3, 1) := by decide +kernel
theorem d_mo_pressureWith_8 : decode q_mo_pressureWith.2.1 8 = .ok (.iaload, 1) := by decide +kernel
theorem d_mo_pressureWith_9 : decode q_mo_pressureWith.2.1 9 = .ok (.ishl, 1) := by decide +kernel
theorem d_mo_pressureWith_10 : decode q_mo_pressureWith.2.1 10 = .ok (.iconst 1, 1) := by decide +kernel
theorem d_mo_pressureWith_11 : decode q_mo_pressureWith.2.1 11 = .ok (.isub, 1) := by decide +kernel
theorem d_mo_pressureWith_12 : decode q_mo_pressureWith.2.1 12 = .ok (.invokestatic 91, 3) := by decide +kernel
theorem d_mo_pressureWith_15 : decode q_mo_pressureWith.2.1 15 = .ok (.ifCond .eq 11, 3) := by decide +kernel
theorem d_mo_pressureWith_18 : decode q_mo_pressureWith.2.1 18 = .ok (.aload_n 0, 1) := by decide +kernel
theorem d_mo_pressureWith_19 : decode q_mo_pressureWith.2.1 19 = .ok (.iload_n 1, 1) := by decide +kernel
theorem d_mo_pressureWith_20 : decode q_mo_pressureWith.2.1 20 = .ok (.invokevirtual 474, 3) := by decide +kernel
theorem d_mo_pressureWith_23 : decode q_mo_pressureWith.2.1 23 = .ok (.goto 5, 3) := by decide +kernel
theorem d_mo_pressureWith_26 : decode q_mo_pressureWith.2.1 26 = .ok (.bipush (-2), 2) := by decide +kernel
theorem d_mo_pressureWith_28 : decode q_mo_pressureWith.2.1 28 = .ok (.ireturn, 1) := by decide +kernel
theorem w_mo_pressureWith_L28 (l : Launch) (lo hi d : Nat) {h' : sm_H} {r0 : Int32} (s0 : Int32) (h : sm_H) (hf : f_mo_pressureWith_L28 s0 h = some (r0, h')) : sm_W l lo hi (d + 3) q_mo_pressureWith 28 [] [.int s0] h (some (.int r0)) h' := by
  unfold f_mo_pressureWith_L28 at hf
  obtain ⟨rfl, rfl⟩ := sm_ret2 hf
  exact sm_iret d_mo_pressureWith_28 rfl
theorem m_mo_pressureWith (l : Launch) (lo hi d : Nat) {a0 : Nat} {a1 : Int32} {r0 : Int32} {h h' : sm_H} (e0 : sm_at lo hi (0, 10, 0) a0) (hf : f_mo_pressureWith a0 a1 h = some (r0, h')) : sm_Met l lo hi (d + 3) q_mo_pressureWith [.ref a0, .int a1] h (some (.int r0)) h' := by
  refine sm_Met.of (by decide +kernel) rfl ?_
  show sm_W l lo hi (d + 3) q_mo_pressureWith 0 [(0, .ref a0), (1, .int a1)] [] h (some (.int r0)) h'
  unfold f_mo_pressureWith at hf
  refine sm_iload_n 1 rfl d_mo_pressureWith_0 ?_
  refine sm_iconst (v := 0) (by decide) d_mo_pressureWith_1 ?_
  refine sm_iconst (v := 1) (by decide) d_mo_pressureWith_2 ?_
  refine sm_aload_n 0 rfl d_mo_pressureWith_3 ?_
  refine sm_getR (n := 1) fl_mo_7 e0 rfl d_mo_pressureWith_4 ?_
  refine sm_iconst (v := 3) (by decide) d_mo_pressureWith_7 ?_
  obtain ⟨c1, hf⟩ := sm_gdE hf
  refine sm_iald (sm_at_arr (sm_inner e0 0 rfl rfl rfl)) c1 d_mo_pressureWith_8 ?_
  refine sm_ishl d_mo_pressureWith_9 ?_
  refine sm_iconst (v := 1) (by decide) d_mo_pressureWith_10 ?_
  refine sm_isub d_mo_pressureWith_11 ?_
  obtain ⟨r2, g3, c4, hf⟩ := sm_b2E hf
  refine sm_callS (As := [.int a1, .int 0, .int ((1 <<< ((h (a0 + 1) (3 : Int32).toNatClampNeg) &&& 31)) - 1)]) (rv := some (.int r2)) (h1 := g3) cvs_mo_91 (m_mo_in l lo hi _ c4) rfl rfl d_mo_pressureWith_12 ?_
  refine sm_if_eq 26 d_mo_pressureWith_15 rfl (fun c5 => ?_) (fun c5 => ?_)
  · have hf := sm_ifT c5 hf
    refine sm_bipush (v := (-2)) (by decide) d_mo_pressureWith_26 ?_
    refine sm_sub [] rfl ?_
    exact w_mo_pressureWith_L28 l lo hi d _ _ hf
  · have hf := sm_ifF c5 hf
    refine sm_aload_n 0 rfl d_mo_pressureWith_18 ?_
    refine sm_iload_n 1 rfl d_mo_pressureWith_19 ?_
    obtain ⟨r6, g7, c8, hf⟩ := sm_b2E hf
    refine sm_callV (As := [.int a1]) (rv := some (.int r6)) (h1 := g7) (c := 10) cvv_mo_474 rfl rfl e0 (m_mo_pressureOf l lo hi _ e0 c8) rfl rfl d_mo_pressureWith_20 ?_
    refine sm_goto 28 d_mo_pressureWith_23 rfl ?_
    refine sm_sub [] rfl ?_
    exact w_mo_pressureWith_L28 l lo hi d _ _ hf
theorem d_mo_bits_0 : decode q_mo_bits.2.1 0 = .ok (.iconst 0, 1) := by decide +kernel
theorem d_mo_bits_1 : decode q_mo_bits.2.1 1 = .ok (.istore_n 1, 1) := by decide +kernel
theorem d_mo_bits_2 : decode q_mo_bits.2.1 2 = .ok (.iconst 0, 1) := by decide +kernel
theorem d_mo_bits_3 : decode q_mo_bits.2.1 3 = .ok (.istore_n 2, 1) := by decide +kernel
theorem d_mo_bits_4 : decode q_mo_bits.2.1 4 = .ok (.iload_n 2, 1) := by decide +kernel
theorem d_mo_bits_5 : decode q_mo_bits.2.1 5 = .ok (.bipush 10, 2) := by decide +kernel
theorem d_mo_bits_7 : decode q_mo_bits.2.1 7 = .ok (.if_icmp .ge 17, 3) := by decide +kernel
theorem d_mo_bits_10 : decode q_mo_bits.2.1 10 = .ok (.iload_n 1, 1) := by decide +kernel
theorem d_mo_bits_11 : decode q_mo_bits.2.1 11 = .ok (.iload_n 0, 1) := by decide +kernel
theorem d_mo_bits_12 : decode q_mo_bits.2.1 12 = .ok (.iload_n 2, 1) := by decide +kernel
theorem d_mo_bits_13 : decode q_mo_bits.2.1 13 = .ok (.ishr, 1) := by decide +kernel
theorem d_mo_bits_14 : decode q_mo_bits.2.1 14 = .ok (.iconst 1, 1) := by decide +kernel
theorem d_mo_bits_15 : decode q_mo_bits.2.1 15 = .ok (.iand, 1) := by decide +kernel
theorem d_mo_bits_16 : decode q_mo_bits.2.1 16 = .ok (.iadd, 1) := by decide +kernel
theorem d_mo_bits_17 : decode q_mo_bits.2.1 17 = .ok (.istore_n 1, 1) := by decide +kernel
theorem d_mo_bits_18 : decode q_mo_bits.2.1 18 = .ok (.iinc 2 1, 3) := by decide +kernel
theorem d_mo_bits_21 : decode q_mo_bits.2.1 21 = .ok (.goto (-17), 3) := by decide +kernel
theorem d_mo_bits_24 : decode q_mo_bits.2.1 24 = .ok (.iload_n 1, 1) := by decide +kernel
theorem d_mo_bits_25 : decode q_mo_bits.2.1 25 = .ok (.ireturn, 1) := by decide +kernel
theorem w_mo_bits_L24 (l : Launch) (lo hi d : Nat) {h' : sm_H} {r0 : Int32} (a1 : Int32) (h : sm_H) (hf : f_mo_bits_L24 a1 h = some (r0, h')) : sm_W l lo hi (d) q_mo_bits 24 [(1, .int a1)] [] h (some (.int r0)) h' := by
  unfold f_mo_bits_L24 at hf
  refine sm_iload_n 0 rfl d_mo_bits_24 ?_
  obtain ⟨rfl, rfl⟩ := sm_ret2 hf
  exact sm_iret d_mo_bits_25 rfl
theorem w_mo_bits_L4 (l : Launch) (lo hi d : Nat) {h' : sm_H} {r0 : Int32} : ∀ (n : Nat) (a0 : Int32) (a1 : Int32) (a2 : Int32) (h : sm_H) (hf : f_mo_bits_L4 n a0 a1 a2 h = some (r0, h')), sm_W l lo hi (d) q_mo_bits 4 [(0, .int a0), (1, .int a1), (2, .int a2)] [] h (some (.int r0)) h' := by
  intro n
  induction n with
  | zero =>
    intro a0 a1 a2 h hf
    have z : (none : Option (Int32 × sm_H)) = some _ := hf
    cases z
  | succ n ih =>
    intro a0 a1 a2 h hf
    unfold f_mo_bits_L4 at hf
    refine sm_iload_n 2 rfl d_mo_bits_4 ?_
    refine sm_bipush (v := 10) (by decide) d_mo_bits_5 ?_
    refine sm_icmp_ge 24 d_mo_bits_7 rfl (fun c1 => ?_) (fun c1 => ?_)
    · have hf := sm_ifT c1 hf
      refine sm_sub [1] rfl ?_
      exact w_mo_bits_L24 l lo hi d _ _ hf
    · have hf := sm_ifF c1 hf
      refine sm_iload_n 1 rfl d_mo_bits_10 ?_
      refine sm_iload_n 0 rfl d_mo_bits_11 ?_
      refine sm_iload_n 2 rfl d_mo_bits_12 ?_
      refine sm_ishr d_mo_bits_13 ?_
      refine sm_iconst (v := 1) (by decide) d_mo_bits_14 ?_
      refine sm_iand d_mo_bits_15 ?_
      refine sm_iadd d_mo_bits_16 ?_
      refine sm_nmI (fun x2 w3 => ?_)
      have hf := sm_letV w3 hf
      refine sm_istore_n (lv' := [(1, .int x2), (0, .int a0), (2, .int a2)]) d_mo_bits_17 rfl rfl ?_
      obtain ⟨x4, w5⟩ : ∃ v : Int32, v = a2 + 1 := ⟨_, rfl⟩
      have hf := sm_letV w5 hf
      refine sm_iinc (v := x4) (lv' := [(2, .int x4), (1, .int x2), (0, .int a0)]) 2 rfl (by rw [w5]; rfl) d_mo_bits_18 rfl rfl ?_
      refine sm_goto 4 d_mo_bits_21 rfl ?_
      refine sm_sub [2, 1, 0] rfl ?_
      exact ih _ _ _ _ hf
theorem m_mo_bits (l : Launch) (lo hi d : Nat) {a0 : Int32} {r0 : Int32} {h h' : sm_H} (hf : f_mo_bits a0 h = some (r0, h')) : sm_Met l lo hi (d) q_mo_bits [.int a0] h (some (.int r0)) h' := by
  refine sm_Met.of (by decide +kernel) rfl ?_
  show sm_W l lo hi (d) q_mo_bits 0 [(0, .int a0)] [] h (some (.int r0)) h'
  unfold f_mo_bits at hf
  refine sm_iconst (v := 0) (by decide) d_mo_bits_0 ?_
  refine sm_istore_n (lv' := [(1, .int 0), (0, .int a0)]) d_mo_bits_1 rfl rfl ?_
  refine sm_iconst (v := 0) (by decide) d_mo_bits_2 ?_
  refine sm_istore_n (lv' := [(2, .int 0), (1, .int 0), (0, .int a0)]) d_mo_bits_3 rfl rfl ?_
  refine sm_sub [2, 1, 0] rfl ?_
  exact w_mo_bits_L4 l lo hi d sm_N _ _ _ _ hf
theorem d_mo_mostOpenDoors_0 : decode q_mo_mostOpenDoors.2.1 0 = .ok (.bipush (-4), 2) := by decide +kernel
theorem d_mo_mostOpenDoors_2 : decode q_mo_mostOpenDoors.2.1 2 = .ok (.istore_n 1, 1) := by decide +kernel
theorem d_mo_mostOpenDoors_3 : decode q_mo_mostOpenDoors.2.1 3 = .ok (.iconst 0, 1) := by decide +kernel
theorem d_mo_mostOpenDoors_4 : decode q_mo_mostOpenDoors.2.1 4 = .ok (.istore_n 2, 1) := by decide +kernel
theorem d_mo_mostOpenDoors_5 : decode q_mo_mostOpenDoors.2.1 5 = .ok (.iload_n 2, 1) := by decide +kernel
theorem d_mo_mostOpenDoors_6 : decode q_mo_mostOpenDoors.2.1 6 = .ok (.iconst 1, 1) := by decide +kernel
theorem d_mo_mostOpenDoors_7 : decode q_mo_mostOpenDoors.2.1 7 = .ok (.aload_n 0, 1) := by decide +kernel
theorem d_mo_mostOpenDoors_8 : decode q_mo_mostOpenDoors.2.1 8 = .ok (.getfield 7, 3) := by decide +kernel
theorem d_mo_mostOpenDoors_11 : decode q_mo_mostOpenDoors.2.1 11 = .ok (.iconst 3, 1) := by decide +kernel
theorem d_mo_mostOpenDoors_12 : decode q_mo_mostOpenDoors.2.1 12 = .ok (.iaload, 1) := by decide +kernel
theorem d_mo_mostOpenDoors_13 : decode q_mo_mostOpenDoors.2.1 13 = .ok (.ishl, 1) := by decide +kernel
theorem d_mo_mostOpenDoors_14 : decode q_mo_mostOpenDoors.2.1 14 = .ok (.if_icmp .ge 32, 3) := by decide +kernel
theorem d_mo_mostOpenDoors_17 : decode q_mo_mostOpenDoors.2.1 17 = .ok (.aload_n 0, 1) := by decide +kernel
theorem d_mo_mostOpenDoors_18 : decode q_mo_mostOpenDoors.2.1 18 = .ok (.iload_n 2, 1) := by decide +kernel
theorem d_mo_mostOpenDoors_19 : decode q_mo_mostOpenDoors.2.1 19 = .ok (.invokevirtual 474, 3) := by decide +kernel
theorem d_mo_mostOpenDoors_22 : decode q_mo_mostOpenDoors.2.1 22 = .ok (.aload_n 0, 1) := by decide +kernel
theorem d_mo_mostOpenDoors_23 : decode q_mo_mostOpenDoors.2.1 23 = .ok (.getfield 7, 3) := by decide +kernel
theorem d_mo_mostOpenDoors_26 : decode q_mo_mostOpenDoors.2.1 26 = .ok (.iconst 5, 1) := by decide +kernel
theorem d_mo_mostOpenDoors_27 : decode q_mo_mostOpenDoors.2.1 27 = .ok (.iaload, 1) := by decide +kernel
theorem d_mo_mostOpenDoors_28 : decode q_mo_mostOpenDoors.2.1 28 = .ok (.if_icmp .lt 12, 3) := by decide +kernel
theorem d_mo_mostOpenDoors_31 : decode q_mo_mostOpenDoors.2.1 31 = .ok (.iload_n 1, 1) := by decide +kernel
theorem d_mo_mostOpenDoors_32 : decode q_mo_mostOpenDoors.2.1 32 = .ok (.iload_n 2, 1) := by decide +kernel
theorem d_mo_mostOpenDoors_33 : decode q_mo_mostOpenDoors.2.1 33 = .ok (.invokestatic 477, 3) := by decide +kernel
theorem d_mo_mostOpenDoors_36 : decode q_mo_mostOpenDoors.2.1 36 = .ok (.invokestatic 370, 3) := by decide +kernel
theorem d_mo_mostOpenDoors_39 : decode q_mo_mostOpenDoors.2.1 39 = .ok (.istore_n 1, 1) := by decide +kernel
theorem d_mo_mostOpenDoors_40 : decode q_mo_mostOpenDoors.2.1 40 = .ok (.iinc 2 1, 3) := by decide +kernel
theorem d_mo_mostOpenDoors_43 : decode q_mo_mostOpenDoors.2.1 43 = .ok (.goto (-38), 3) := by decide +kernel
theorem d_mo_mostOpenDoors_46 : decode q_mo_mostOpenDoors.2.1 46 = .ok (.iload_n 1, 1) := by decide +kernel
theorem d_mo_mostOpenDoors_47 : decode q_mo_mostOpenDoors.2.1 47 = .ok (.ireturn, 1) := by decide +kernel
theorem w_mo_mostOpenDoors_L46 (l : Launch) (lo hi d : Nat) {h' : sm_H} {r0 : Int32} (a1 : Int32) (h : sm_H) (hf : f_mo_mostOpenDoors_L46 a1 h = some (r0, h')) : sm_W l lo hi (d + 3) q_mo_mostOpenDoors 46 [(1, .int a1)] [] h (some (.int r0)) h' := by
  unfold f_mo_mostOpenDoors_L46 at hf
  refine sm_iload_n 0 rfl d_mo_mostOpenDoors_46 ?_
  obtain ⟨rfl, rfl⟩ := sm_ret2 hf
  exact sm_iret d_mo_mostOpenDoors_47 rfl
theorem w_mo_mostOpenDoors_L40 (l : Launch) (lo hi d : Nat) {k5 : Nat → Int32 → Int32 → sm_H → Option (Int32 × sm_H)} {h' : sm_H} {r0 : Int32} (hk5 : ∀ (a0 : Nat) (a1 : Int32) (a2 : Int32) (h : sm_H) (_ : sm_at lo hi (0, 10, 0) a0) , k5 a0 a1 a2 h = some (r0, h') → sm_W l lo hi (d + 3) q_mo_mostOpenDoors 5 [(0, .ref a0), (1, .int a1), (2, .int a2)] [] h (some (.int r0)) h') (a0 : Nat) (a1 : Int32) (a2 : Int32) (h : sm_H) (e0 : sm_at lo hi (0, 10, 0) a0) (hf : f_mo_mostOpenDoors_L40 k5 a0 a1 a2 h = some (r0, h')) : sm_W l lo hi (d + 3) q_mo_mostOpenDoors 40 [(0, .ref a0), (1, .int a1), (2, .int a2)] [] h (some (.int r0)) h' := by
  unfold f_mo_mostOpenDoors_L40 at hf
  obtain ⟨x14, w15⟩ : ∃ v : Int32, v = a2 + 1 := ⟨_, rfl⟩
  have hf := sm_letV w15 hf
  refine sm_iinc (v := x14) (lv' := [(2, .int x14), (0, .ref a0), (1, .int a1)]) 2 rfl (by rw [w15]; rfl) d_mo_mostOpenDoors_40 rfl rfl ?_
  refine sm_goto 5 d_mo_mostOpenDoors_43 rfl ?_
  refine sm_sub [1, 2, 0] rfl ?_
  exact hk5 _ _ _ _ e0 hf
theorem w_mo_mostOpenDoors_L5 (l : Launch) (lo hi d : Nat) {h' : sm_H} {r0 : Int32} : ∀ (n : Nat) (a0 : Nat) (a1 : Int32) (a2 : Int32) (h : sm_H) (e0 : sm_at lo hi (0, 10, 0) a0) (hf : f_mo_mostOpenDoors_L5 n a0 a1 a2 h = some (r0, h')), sm_W l lo hi (d + 3) q_mo_mostOpenDoors 5 [(0, .ref a0), (1, .int a1), (2, .int a2)] [] h (some (.int r0)) h' := by
  intro n
  induction n with
  | zero =>
    intro a0 a1 a2 h e0 hf
    have z : (none : Option (Int32 × sm_H)) = some _ := hf
    cases z
  | succ n ih =>
    intro a0 a1 a2 h e0 hf
    unfold f_mo_mostOpenDoors_L5 at hf
    refine sm_iload_n 2 rfl d_mo_mostOpenDoors_5 ?_
    refine sm_iconst (v := 1) (by decide) d_mo_mostOpenDoors_6 ?_
    refine sm_aload_n 0 rfl d_mo_mostOpenDoors_7 ?_
    refine sm_getR (n := 1) fl_mo_7 e0 rfl d_mo_mostOpenDoors_8 ?_
    refine sm_iconst (v := 3) (by decide) d_mo_mostOpenDoors_11 ?_
    obtain ⟨c1, hf⟩ := sm_gdE hf
    refine sm_iald (sm_at_arr (sm_inner e0 0 rfl rfl rfl)) c1 d_mo_mostOpenDoors_12 ?_
    refine sm_ishl d_mo_mostOpenDoors_13 ?_
    refine sm_icmp_ge 46 d_mo_mostOpenDoors_14 rfl (fun c2 => ?_) (fun c2 => ?_)
    · have hf := sm_ifT c2 hf
      refine sm_sub [1] rfl ?_
      exact w_mo_mostOpenDoors_L46 l lo hi d _ _ hf
    · have hf := sm_ifF c2 hf
      refine sm_aload_n 0 rfl d_mo_mostOpenDoors_17 ?_
      refine sm_iload_n 2 rfl d_mo_mostOpenDoors_18 ?_
      obtain ⟨r3, g4, c5, hf⟩ := sm_b2E hf
      refine sm_callV (As := [.int a2]) (rv := some (.int r3)) (h1 := g4) (c := 10) cvv_mo_474 rfl rfl e0 (m_mo_pressureOf l lo hi _ e0 c5) rfl rfl d_mo_mostOpenDoors_19 ?_
      refine sm_aload_n 0 rfl d_mo_mostOpenDoors_22 ?_
      refine sm_getR (n := 1) fl_mo_7 e0 rfl d_mo_mostOpenDoors_23 ?_
      refine sm_iconst (v := 5) (by decide) d_mo_mostOpenDoors_26 ?_
      obtain ⟨c6, hf⟩ := sm_gdE hf
      refine sm_iald (sm_at_arr (sm_inner e0 0 rfl rfl rfl)) c6 d_mo_mostOpenDoors_27 ?_
      refine sm_icmp_lt 40 d_mo_mostOpenDoors_28 rfl (fun c7 => ?_) (fun c7 => ?_)
      · have hf := sm_ifT c7 hf
        exact w_mo_mostOpenDoors_L40 l lo hi d ih _ _ _ _ e0 hf
      · have hf := sm_ifF c7 hf
        refine sm_iload_n 1 rfl d_mo_mostOpenDoors_31 ?_
        refine sm_iload_n 2 rfl d_mo_mostOpenDoors_32 ?_
        obtain ⟨r8, g9, c10, hf⟩ := sm_b2E hf
        refine sm_callS (As := [.int a2]) (rv := some (.int r8)) (h1 := g9) cvs_mo_477 (m_mo_bits l lo hi _ c10) rfl rfl d_mo_mostOpenDoors_33 ?_
        obtain ⟨r11, g12, c13, hf⟩ := sm_b2E hf
        refine sm_callS (As := [.int a1, .int r8]) (rv := some (.int r11)) (h1 := g12) cvs_mo_370 (m_mo_greater l lo hi _ c13) rfl rfl d_mo_mostOpenDoors_36 ?_
        refine sm_istore_n (lv' := [(1, .int r11), (0, .ref a0), (2, .int a2)]) d_mo_mostOpenDoors_39 rfl rfl ?_
        refine sm_sub [1, 0, 2] rfl ?_
        exact w_mo_mostOpenDoors_L40 l lo hi d ih _ _ _ _ e0 hf
theorem m_mo_mostOpenDoors (l : Launch) (lo hi d : Nat) {a0 : Nat} {r0 : Int32} {h h' : sm_H} (e0 : sm_at lo hi (0, 10, 0) a0) (hf : f_mo_mostOpenDoors a0 h = some (r0, h')) : sm_Met l lo hi (d + 3) q_mo_mostOpenDoors [.ref a0] h (some (.int r0)) h' := by
  refine sm_Met.of (by decide +kernel) rfl ?_
  show sm_W l lo hi (d + 3) q_mo_mostOpenDoors 0 [(0, .ref a0)] [] h (some (.int r0)) h'
  unfold f_mo_mostOpenDoors at hf
  refine sm_bipush (v := (-4)) (by decide) d_mo_mostOpenDoors_0 ?_
  refine sm_istore_n (lv' := [(1, .int (-4)), (0, .ref a0)]) d_mo_mostOpenDoors_2 rfl rfl ?_
  refine sm_iconst (v := 0) (by decide) d_mo_mostOpenDoors_3 ?_
  refine sm_istore_n (lv' := [(2, .int 0), (1, .int (-4)), (0, .ref a0)]) d_mo_mostOpenDoors_4 rfl rfl ?_
  refine sm_sub [2, 1, 0] rfl ?_
  exact w_mo_mostOpenDoors_L5 l lo hi d sm_N _ _ _ _ e0 hf
theorem d_mo_worstDoor_0 : decode q_mo_worstDoor.2.1 0 = .ok (.aload_n 0, 1) := by decide +kernel
theorem d_mo_worstDoor_1 : decode q_mo_worstDoor.2.1 1 = .ok (.invokevirtual 382, 3) := by decide +kernel
theorem d_mo_worstDoor_4 : decode q_mo_worstDoor.2.1 4 = .ok (.istore_n 1, 1) := by decide +kernel
theorem d_mo_worstDoor_5 : decode q_mo_worstDoor.2.1 5 = .ok (.bipush (-4), 2) := by decide +kernel
theorem d_mo_worstDoor_7 : decode q_mo_worstDoor.2.1 7 = .ok (.istore_n 2, 1) := by decide +kernel
theorem d_mo_worstDoor_8 : decode q_mo_worstDoor.2.1 8 = .ok (.iconst 0, 1) := by decide +kernel
theorem d_mo_worstDoor_9 : decode q_mo_worstDoor.2.1 9 = .ok (.istore_n 3, 1) := by decide +kernel
theorem d_mo_worstDoor_10 : decode q_mo_worstDoor.2.1 10 = .ok (.iload_n 3, 1) := by decide +kernel
theorem d_mo_worstDoor_11 : decode q_mo_worstDoor.2.1 11 = .ok (.aload_n 0, 1) := by decide +kernel
theorem d_mo_worstDoor_12 : decode q_mo_worstDoor.2.1 12 = .ok (.getfield 7, 3) := by decide +kernel
theorem d_mo_worstDoor_15 : decode q_mo_worstDoor.2.1 15 = .ok (.iconst 3, 1) := by decide +kernel
theorem d_mo_worstDoor_16 : decode q_mo_worstDoor.2.1 16 = .ok (.iaload, 1) := by decide +kernel
theorem d_mo_worstDoor_17 : decode q_mo_worstDoor.2.1 17 = .ok (.if_icmp .ge 47, 3) := by decide +kernel
theorem d_mo_worstDoor_20 : decode q_mo_worstDoor.2.1 20 = .ok (.iload_n 1, 1) := by decide +kernel
theorem d_mo_worstDoor_21 : decode q_mo_worstDoor.2.1 21 = .ok (.iload_n 3, 1) := by decide +kernel
theorem d_mo_worstDoor_22 : decode q_mo_worstDoor.2.1 22 = .ok (.invokestatic 255, 3) := by decide +kernel
theorem d_mo_worstDoor_25 : decode q_mo_worstDoor.2.1 25 = .ok (.ifCond .eq 6, 3) := by decide +kernel
theorem d_mo_worstDoor_28 : decode q_mo_worstDoor.2.1 28 = .ok (.goto 30, 3) := by decide +kernel
theorem d_mo_worstDoor_31 : decode q_mo_worstDoor.2.1 31 = .ok (.iload_n 2, 1) := by decide +kernel
theorem d_mo_worstDoor_32 : decode q_mo_worstDoor.2.1 32 = .ok (.ifCond .lt 24, 3) := by decide +kernel
theorem d_mo_worstDoor_35 : decode q_mo_worstDoor.2.1 35 = .ok (.aload_n 0, 1) := by decide +kernel
theorem d_mo_worstDoor_36 : decode q_mo_worstDoor.2.1 36 = .ok (.iload_n 1, 1) := by decide +kernel
theorem d_mo_worstDoor_37 : decode q_mo_worstDoor.2.1 37 = .ok (.iconst 1, 1) := by decide +kernel
theorem d_mo_worstDoor_38 : decode q_mo_worstDoor.2.1 38 = .ok (.iload_n 3, 1) := by decide +kernel
theorem d_mo_worstDoor_39 : decode q_mo_worstDoor.2.1 39 = .ok (.ishl, 1) := by decide +kernel
theorem d_mo_worstDoor_40 : decode q_mo_worstDoor.2.1 40 = .ok (.ior, 1) := by decide +kernel
theorem d_mo_worstDoor_41 : decode q_mo_worstDoor.2.1 41 = .ok (.invokevirtual 474, 3) := by decide +kernel
theorem d_mo_worstDoor_44 : decode q_mo_worstDoor.2.1 44 = .ok (.aload_n 0, 1) := by decide +kernel
theorem d_mo_worstDoor_45 : decode q_mo_worstDoor.2.1 45 = .ok (.iload_n 1, 1) := by decide +kernel
theorem d_mo_worstDoor_46 : decode q_mo_worstDoor.2.1 46 = .ok (.iconst 1, 1) := by decide +kernel
theorem d_mo_worstDoor_47 : decode q_mo_worstDoor.2.1 47 = .ok (.iload_n 2, 1) := by decide +kernel
theorem d_mo_worstDoor_48 : decode q_mo_worstDoor.2.1 48 = .ok (.ishl, 1) := by decide +kernel
theorem d_mo_worstDoor_49 : decode q_mo_worstDoor.2.1 49 = .ok (.ior, 1) := by decide +kernel
theorem d_mo_worstDoor_50 : decode q_mo_worstDoor.2.1 50 = .ok (.invokevirtual 474, 3) := by decide +kernel
theorem d_mo_worstDoor_53 : decode q_mo_worstDoor.2.1 53 = .ok (.if_icmp .ge 5, 3) := by decide +kernel
theorem d_mo_worstDoor_56 : decode q_mo_worstDoor.2.1 56 = .ok (.iload_n 3, 1) := by decide +kernel
theorem d_mo_worstDoor_57 : decode q_mo_worstDoor.2.1 57 = .ok (.istore_n 2, 1) := by decide +kernel
theorem d_mo_worstDoor_58 : decode q_mo_worstDoor.2.1 58 = .ok (.iinc 3 1, 3) := by decide +kernel
theorem d_mo_worstDoor_61 : decode q_mo_worstDoor.2.1 61 = .ok (.goto (-51), 3) := by decide +kernel
theorem d_mo_worstDoor_64 : decode q_mo_worstDoor.2.1 64 = .ok (.iload_n 2, 1) := by decide +kernel
theorem d_mo_worstDoor_65 : decode q_mo_worstDoor.2.1 65 = .ok (.ireturn, 1) := by decide +kernel
theorem w_mo_worstDoor_L64 (l : Launch) (lo hi d : Nat) {h' : sm_H} {r0 : Int32} (a2 : Int32) (h : sm_H) (hf : f_mo_worstDoor_L64 a2 h = some (r0, h')) : sm_W l lo hi (d + 3) q_mo_worstDoor 64 [(2, .int a2)] [] h (some (.int r0)) h' := by
  unfold f_mo_worstDoor_L64 at hf
  refine sm_iload_n 0 rfl d_mo_worstDoor_64 ?_
  obtain ⟨rfl, rfl⟩ := sm_ret2 hf
  exact sm_iret d_mo_worstDoor_65 rfl
theorem w_mo_worstDoor_L58 (l : Launch) (lo hi d : Nat) {k10 : Nat → Int32 → Int32 → Int32 → sm_H → Option (Int32 × sm_H)} {h' : sm_H} {r0 : Int32} (hk10 : ∀ (a0 : Nat) (a1 : Int32) (a2 : Int32) (a3 : Int32) (h : sm_H) (_ : sm_at lo hi (0, 10, 0) a0) , k10 a0 a1 a2 a3 h = some (r0, h') → sm_W l lo hi (d + 3) q_mo_worstDoor 10 [(0, .ref a0), (1, .int a1), (2, .int a2), (3, .int a3)] [] h (some (.int r0)) h') (a0 : Nat) (a1 : Int32) (a2 : Int32) (a3 : Int32) (h : sm_H) (e0 : sm_at lo hi (0, 10, 0) a0) (hf : f_mo_worstDoor_L58 k10 a0 a1 a2 a3 h = some (r0, h')) : sm_W l lo hi (d + 3) q_mo_worstDoor 58 [(0, .ref a0), (1, .int a1), (2, .int a2), (3, .int a3)] [] h (some (.int r0)) h' := by
  unfold f_mo_worstDoor_L58 at hf
  obtain ⟨x18, w19⟩ : ∃ v : Int32, v = a3 + 1 := ⟨_, rfl⟩
  have hf := sm_letV w19 hf
  refine sm_iinc (v := x18) (lv' := [(3, .int x18), (0, .ref a0), (1, .int a1), (2, .int a2)]) 3 rfl (by rw [w19]; rfl) d_mo_worstDoor_58 rfl rfl ?_
  refine sm_goto 10 d_mo_worstDoor_61 rfl ?_
  refine sm_sub [1, 2, 3, 0] rfl ?_
  exact hk10 _ _ _ _ _ e0 hf
theorem w_mo_worstDoor_L56 (l : Launch) (lo hi d : Nat) {k10 : Nat → Int32 → Int32 → Int32 → sm_H → Option (Int32 × sm_H)} {h' : sm_H} {r0 : Int32} (hk10 : ∀ (a0 : Nat) (a1 : Int32) (a2 : Int32) (a3 : Int32) (h : sm_H) (_ : sm_at lo hi (0, 10, 0) a0) , k10 a0 a1 a2 a3 h = some (r0, h') → sm_W l lo hi (d + 3) q_mo_worstDoor 10 [(0, .ref a0), (1, .int a1), (2, .int a2), (3, .int a3)] [] h (some (.int r0)) h') (a0 : Nat) (a1 : Int32) (a3 : Int32) (h : sm_H) (e0 : sm_at lo hi (0, 10, 0) a0) (hf : f_mo_worstDoor_L56 k10 a0 a1 a3 h = some (r0, h')) : sm_W l lo hi (d + 3) q_mo_worstDoor 56 [(0, .ref a0), (1, .int a1), (3, .int a3)] [] h (some (.int r0)) h' := by
  unfold f_mo_worstDoor_L56 at hf
  refine sm_iload_n 2 rfl d_mo_worstDoor_56 ?_
  refine sm_istore_n (lv' := [(2, .int a3), (0, .ref a0), (1, .int a1), (3, .int a3)]) d_mo_worstDoor_57 rfl rfl ?_
  refine sm_sub [1, 2, 0, 3] rfl ?_
  exact w_mo_worstDoor_L58 l lo hi d hk10 _ _ _ _ _ e0 hf
theorem w_mo_worstDoor_L10 (l : Launch) (lo hi d : Nat) {h' : sm_H} {r0 : Int32} : ∀ (n : Nat) (a0 : Nat) (a1 : Int32) (a2 : Int32) (a3 : Int32) (h : sm_H) (e0 : sm_at lo hi (0, 10, 0) a0) (hf : f_mo_worstDoor_L10 n a0 a1 a2 a3 h = some (r0, h')), sm_W l lo hi (d + 3) q_mo_worstDoor 10 [(0, .ref a0), (1, .int a1), (2, .int a2), (3, .int a3)] [] h (some (.int r0)) h' := by
  intro n
  induction n with
  | zero =>
    intro a0 a1 a2 a3 h e0 hf
    have z : (none : Option (Int32 × sm_H)) = some _ := hf
    cases z
  | succ n ih =>
    intro a0 a1 a2 a3 h e0 hf
    unfold f_mo_worstDoor_L10 at hf
    refine sm_iload_n 3 rfl d_mo_worstDoor_10 ?_
    refine sm_aload_n 0 rfl d_mo_worstDoor_11 ?_
    refine sm_getR (n := 1) fl_mo_7 e0 rfl d_mo_worstDoor_12 ?_
    refine sm_iconst (v := 3) (by decide) d_mo_worstDoor_15 ?_
    obtain ⟨c4, hf⟩ := sm_gdE hf
    refine sm_iald (sm_at_arr (sm_inner e0 0 rfl rfl rfl)) c4 d_mo_worstDoor_16 ?_
    refine sm_icmp_ge 64 d_mo_worstDoor_17 rfl (fun c5 => ?_) (fun c5 => ?_)
    · have hf := sm_ifT c5 hf
      refine sm_sub [2] rfl ?_
      exact w_mo_worstDoor_L64 l lo hi d _ _ hf
    · have hf := sm_ifF c5 hf
      refine sm_iload_n 1 rfl d_mo_worstDoor_20 ?_
      refine sm_iload_n 3 rfl d_mo_worstDoor_21 ?_
      obtain ⟨r6, g7, c8, hf⟩ := sm_b2E hf
      refine sm_callS (As := [.int a1, .int a3]) (rv := some (.int r6)) (h1 := g7) cvs_mo_255 (m_mo_hasBit l lo hi _ c8) rfl rfl d_mo_worstDoor_22 ?_
      refine sm_if_eq 31 d_mo_worstDoor_25 rfl (fun c9 => ?_) (fun c9 => ?_)
      · have hf := sm_ifT c9 hf
        refine sm_iload_n 2 rfl d_mo_worstDoor_31 ?_
        refine sm_if_lt 56 d_mo_worstDoor_32 rfl (fun c10 => ?_) (fun c10 => ?_)
        · have hf := sm_ifT c10 hf
          refine sm_sub [0, 1, 3] rfl ?_
          exact w_mo_worstDoor_L56 l lo hi d ih _ _ _ _ e0 hf
        · have hf := sm_ifF c10 hf
          refine sm_aload_n 0 rfl d_mo_worstDoor_35 ?_
          refine sm_iload_n 1 rfl d_mo_worstDoor_36 ?_
          refine sm_iconst (v := 1) (by decide) d_mo_worstDoor_37 ?_
          refine sm_iload_n 3 rfl d_mo_worstDoor_38 ?_
          refine sm_ishl d_mo_worstDoor_39 ?_
          refine sm_ior d_mo_worstDoor_40 ?_
          obtain ⟨r11, g12, c13, hf⟩ := sm_b2E hf
          refine sm_callV (As := [.int (a1 ||| (1 <<< (a3 &&& 31)))]) (rv := some (.int r11)) (h1 := g12) (c := 10) cvv_mo_474 rfl rfl e0 (m_mo_pressureOf l lo hi _ e0 c13) rfl rfl d_mo_worstDoor_41 ?_
          refine sm_aload_n 0 rfl d_mo_worstDoor_44 ?_
          refine sm_iload_n 1 rfl d_mo_worstDoor_45 ?_
          refine sm_iconst (v := 1) (by decide) d_mo_worstDoor_46 ?_
          refine sm_iload_n 2 rfl d_mo_worstDoor_47 ?_
          refine sm_ishl d_mo_worstDoor_48 ?_
          refine sm_ior d_mo_worstDoor_49 ?_
          obtain ⟨r14, g15, c16, hf⟩ := sm_b2E hf
          refine sm_callV (As := [.int (a1 ||| (1 <<< (a2 &&& 31)))]) (rv := some (.int r14)) (h1 := g15) (c := 10) cvv_mo_474 rfl rfl e0 (m_mo_pressureOf l lo hi _ e0 c16) rfl rfl d_mo_worstDoor_50 ?_
          refine sm_icmp_ge 58 d_mo_worstDoor_53 rfl (fun c17 => ?_) (fun c17 => ?_)
          · have hf := sm_ifT c17 hf
            exact w_mo_worstDoor_L58 l lo hi d ih _ _ _ _ _ e0 hf
          · have hf := sm_ifF c17 hf
            refine sm_sub [0, 1, 3] rfl ?_
            exact w_mo_worstDoor_L56 l lo hi d ih _ _ _ _ e0 hf
      · have hf := sm_ifF c9 hf
        refine sm_goto 58 d_mo_worstDoor_28 rfl ?_
        exact w_mo_worstDoor_L58 l lo hi d ih _ _ _ _ _ e0 hf
theorem m_mo_worstDoor (l : Launch) (lo hi d : Nat) {a0 : Nat} {r0 : Int32} {h h' : sm_H} (e0 : sm_at lo hi (0, 10, 0) a0) (hf : f_mo_worstDoor a0 h = some (r0, h')) : sm_Met l lo hi (d + 3) q_mo_worstDoor [.ref a0] h (some (.int r0)) h' := by
  refine sm_Met.of (by decide +kernel) rfl ?_
  show sm_W l lo hi (d + 3) q_mo_worstDoor 0 [(0, .ref a0)] [] h (some (.int r0)) h'
  unfold f_mo_worstDoor at hf
  refine sm_aload_n 0 rfl d_mo_worstDoor_0 ?_
  obtain ⟨r1, g2, c3, hf⟩ := sm_b2E hf
  refine sm_callV (As := []) (rv := some (.int r1)) (h1 := g2) (c := 10) cvv_mo_382 rfl rfl e0 (m_mo_openDoors l lo hi _ e0 c3) rfl rfl d_mo_worstDoor_1 ?_
  refine sm_istore_n (lv' := [(1, .int r1), (0, .ref a0)]) d_mo_worstDoor_4 rfl rfl ?_
  refine sm_bipush (v := (-4)) (by decide) d_mo_worstDoor_5 ?_
  refine sm_istore_n (lv' := [(2, .int (-4)), (1, .int r1), (0, .ref a0)]) d_mo_worstDoor_7 rfl rfl ?_
  refine sm_iconst (v := 0) (by decide) d_mo_worstDoor_8 ?_
  refine sm_istore_n (lv' := [(3, .int 0), (2, .int (-4)), (1, .int r1), (0, .ref a0)]) d_mo_worstDoor_9 rfl rfl ?_
  refine sm_sub [3, 2, 1, 0] rfl ?_
  exact w_mo_worstDoor_L10 l lo hi d sm_N _ _ _ _ _ e0 hf
theorem d_mo_keep_0 : decode q_mo_keep.2.1 0 = .ok (.iload_n 1, 1) := by decide +kernel
theorem d_mo_keep_1 : decode q_mo_keep.2.1 1 = .ok (.iconst 0, 1) := by decide +kernel
theorem d_mo_keep_2 : decode q_mo_keep.2.1 2 = .ok (.iconst 2, 1) := by decide +kernel
theorem d_mo_keep_3 : decode q_mo_keep.2.1 3 = .ok (.invokestatic 91, 3) := by decide +kernel
theorem d_mo_keep_6 : decode q_mo_keep.2.1 6 = .ok (.ifCond .ne 5, 3) := by decide +kernel
theorem d_mo_keep_9 : decode q_mo_keep.2.1 9 = .ok (.iconst (-1), 1) := by decide +kernel
theorem d_mo_keep_10 : decode q_mo_keep.2.1 10 = .ok (.ireturn, 1) := by decide +kernel
theorem d_mo_keep_11 : decode q_mo_keep.2.1 11 = .ok (.iconst 0, 1) := by decide +kernel
theorem d_mo_keep_12 : decode q_mo_keep.2.1 12 = .ok (.istore_n 2, 1) := by decide +kernel
theorem d_mo_keep_13 : decode q_mo_keep.2.1 13 = .ok (.iload_n 2, 1) := by decide +kernel
theorem d_mo_keep_14 : decode q_mo_keep.2.1 14 = .ok (.sipush 350, 3) := by decide +kernel
theorem d_mo_keep_17 : decode q_mo_keep.2.1 17 = .ok (.if_icmp .ge 27, 3) := by decide +kernel
theorem d_mo_keep_20 : decode q_mo_keep.2.1 20 = .ok (.aload_n 0, 1) := by decide +kernel
theorem d_mo_keep_21 : decode q_mo_keep.2.1 21 = .ok (.getfield 22, 3) := by decide +kernel
theorem d_mo_keep_24 : decode q_mo_keep.2.1 24 = .ok (.sipush 350, 3) := by decide +kernel
theorem d_mo_keep_27 : decode q_mo_keep.2.1 27 = .ok (.iload_n 1, 1) := by decide +kernel
theorem d_mo_keep_28 : decode q_mo_keep.2.1 28 = .ok (.imul, 1) := by decide +kernel
theorem d_mo_keep_29 : decode q_mo_keep.2.1 29 = .ok (.iload_n 2, 1) := by decide +kernel
theorem d_mo_keep_30 : decode q_mo_keep.2.1 30 = .ok (.iadd, 1) := by decide +kernel
theorem d_mo_keep_31 : decode q_mo_keep.2.1 31 = .ok (.aload_n 0, 1) := by decide +kernel
theorem d_mo_keep_32 : decode q_mo_keep.2.1 32 = .ok (.getfield 16, 3) := by decide +kernel
theorem d_mo_keep_35 : decode q_mo_keep.2.1 35 = .ok (.iload_n 2, 1) := by decide +kernel
theorem d_mo_keep_36 : decode q_mo_keep.2.1 36 = .ok (.iaload, 1) := by decide +kernel
theorem d_mo_keep_37 : decode q_mo_keep.2.1 37 = .ok (.iastore, 1) := by decide +kernel
theorem d_mo_keep_38 : decode q_mo_keep.2.1 38 = .ok (.iinc 2 1, 3) := by decide +kernel
theorem d_mo_keep_41 : decode q_mo_keep.2.1 41 = .ok (.goto (-28), 3) := by decide +kernel
theorem d_mo_keep_44 : decode q_mo_keep.2.1 44 = .ok (.aload_n 0, 1) := by decide +kernel
theorem d_mo_keep_45 : decode q_mo_keep.2.1 45 = .ok (.aload_n 0, 1) := by decide +kernel
theorem d_mo_keep_46 : decode q_mo_keep.2.1 46 = .ok (.getfield 81, 3) := by decide +kernel
theorem d_mo_keep_49 : decode q_mo_keep.2.1 49 = .ok (.ifCond .ne 7, 3) := by decide +kernel
theorem d_mo_keep_52 : decode q_mo_keep.2.1 52 = .ok (.iload_n 1, 1) := by decide +kernel
theorem d_mo_keep_53 : decode q_mo_keep.2.1 53 = .ok (.ifCond .ne 7, 3) := by decide +kernel
theorem d_mo_keep_56 : decode q_mo_keep.2.1 56 = .ok (.iconst 1, 1) := by decide +kernel
theorem d_mo_keep_57 : decode q_mo_keep.2.1 57 = .ok (.goto 4, 3) := by decide +kernel
theorem d_mo_keep_60 : decode q_mo_keep.2.1 60 = .ok (.iconst 0, 1) := by decide +kernel
theorem d_mo_keep_61 : decode q_mo_keep.2.1 61 = .ok (.putfield 81, 3) := by decide +kernel
theorem d_mo_keep_64 : decode q_mo_keep.2.1 64 = .ok (.aload_n 0, 1) := by decide +kernel
theorem d_mo_keep_65 : decode q_mo_keep.2.1 65 = .ok (.aload_n 0, 1) := by decide +kernel
theorem d_mo_keep_66 : decode q_mo_keep.2.1 66 = .ok (.getfield 85, 3) := by decide +kernel
theorem d_mo_keep_69 : decode q_mo_keep.2.1 69 = .ok (.ifCond .ne 8, 3) := by decide +kernel
theorem d_mo_keep_72 : decode q_mo_keep.2.1 72 = .ok (.iload_n 1, 1) := by decide +kernel
theorem d_mo_keep_73 : decode q_mo_keep.2.1 73 = .ok (.iconst 1, 1) := by decide +kernel
theorem d_mo_keep_74 : decode q_mo_keep.2.1 74 = .ok (.if_icmp .ne 7, 3) := by decide +kernel
theorem d_mo_keep_77 : decode q_mo_keep.2.1 77 = .ok (.iconst 1, 1) := by decide +kernel
theorem d_mo_keep_78 : decode q_mo_keep.2.1 78 = .ok (.goto 4, 3) := by decide +kernel
theorem d_mo_keep_81 : decode q_mo_keep.2.1 81 = .ok (.iconst 0, 1) := by decide +kernel
theorem d_mo_keep_82 : decode q_mo_keep.2.1 82 = .ok (.putfield 85, 3) := by decide +kernel
theorem d_mo_keep_85 : decode q_mo_keep.2.1 85 = .ok (.aload_n 0, 1) := by decide +kernel
theorem d_mo_keep_86 : decode q_mo_keep.2.1 86 = .ok (.aload_n 0, 1) := by decide +kernel
theorem d_mo_keep_87 : decode q_mo_keep.2.1 87 = .ok (.getfield 88, 3) := by decide +kernel
theorem d_mo_keep_90 : decode q_mo_keep.2.1 90 = .ok (.ifCond .ne 8, 3) := by decide +kernel
theorem d_mo_keep_93 : decode q_mo_keep.2.1 93 = .ok (.iload_n 1, 1) := by decide +kernel
theorem d_mo_keep_94 : decode q_mo_keep.2.1 94 = .ok (.iconst 2, 1) := by decide +kernel
theorem d_mo_keep_95 : decode q_mo_keep.2.1 95 = .ok (.if_icmp .ne 7, 3) := by decide +kernel
theorem d_mo_keep_98 : decode q_mo_keep.2.1 98 = .ok (.iconst 1, 1) := by decide +kernel
theorem d_mo_keep_99 : decode q_mo_keep.2.1 99 = .ok (.goto 4, 3) := by decide +kernel
theorem d_mo_keep_102 : decode q_mo_keep.2.1 102 = .ok (.iconst 0, 1) := by decide +kernel
theorem d_mo_keep_103 : decode q_mo_keep.2.1 103 = .ok (.putfield 88, 3) := by decide +kernel
theorem d_mo_keep_106 : decode q_mo_keep.2.1 106 = .ok (.aload_n 0, 1) := by decide +kernel
theorem d_mo_keep_107 : decode q_mo_keep.2.1 107 = .ok (.getfield 16, 3) := by decide +kernel
theorem d_mo_keep_110 : decode q_mo_keep.2.1 110 = .ok (.iconst 0, 1) := by decide +kernel
theorem d_mo_keep_111 : decode q_mo_keep.2.1 111 = .ok (.iaload, 1) := by decide +kernel
theorem d_mo_keep_112 : decode q_mo_keep.2.1 112 = .ok (.ireturn, 1) := by decide +kernel
theorem w_mo_keep_L103 (l : Launch) (lo hi d : Nat) {h' : sm_H} {r0 : Int32} (a0 : Nat) (s0 : Int32) (s1 : Nat) (h : sm_H) (e0 : sm_at lo hi (0, 10, 0) a0) (t1 : sm_at lo hi (0, 10, 0) s1) (hf : f_mo_keep_L103 a0 s0 s1 h = some (r0, h')) : sm_W l lo hi (d + 1) q_mo_keep 103 [(0, .ref a0)] [.int s0, .ref s1] h (some (.int r0)) h' := by
  unfold f_mo_keep_L103 at hf
  obtain ⟨c24, hf⟩ := sm_gdE hf
  refine sm_putZ fp_mo_88 t1 rfl rfl c24 d_mo_keep_103 ?_
  refine sm_nmH (fun g25 w26 => ?_)
  have hf := sm_letV w26 hf
  refine sm_aload_n 0 rfl d_mo_keep_106 ?_
  refine sm_getR (n := 3) fl_mo_16 e0 rfl d_mo_keep_107 ?_
  refine sm_iconst (v := 0) (by decide) d_mo_keep_110 ?_
  obtain ⟨c27, hf⟩ := sm_gdE hf
  refine sm_iald (sm_at_arr (sm_inner e0 2 rfl rfl rfl)) c27 d_mo_keep_111 ?_
  obtain ⟨rfl, rfl⟩ := sm_ret2 hf
  exact sm_iret d_mo_keep_112 rfl
theorem w_mo_keep_L98 (l : Launch) (lo hi d : Nat) {h' : sm_H} {r0 : Int32} (a0 : Nat) (s0 : Nat) (h : sm_H) (e0 : sm_at lo hi (0, 10, 0) a0) (t0 : sm_at lo hi (0, 10, 0) s0) (hf : f_mo_keep_L98 a0 s0 h = some (r0, h')) : sm_W l lo hi (d + 1) q_mo_keep 98 [(0, .ref a0)] [.ref s0] h (some (.int r0)) h' := by
  unfold f_mo_keep_L98 at hf
  refine sm_iconst (v := 1) (by decide) d_mo_keep_98 ?_
  refine sm_goto 103 d_mo_keep_99 rfl ?_
  exact w_mo_keep_L103 l lo hi d _ _ _ _ e0 t0 hf
theorem w_mo_keep_L82 (l : Launch) (lo hi d : Nat) {h' : sm_H} {r0 : Int32} (a0 : Nat) (a1 : Int32) (s0 : Int32) (s1 : Nat) (h : sm_H) (e0 : sm_at lo hi (0, 10, 0) a0) (t1 : sm_at lo hi (0, 10, 0) s1) (hf : f_mo_keep_L82 a0 a1 s0 s1 h = some (r0, h')) : sm_W l lo hi (d + 1) q_mo_keep 82 [(0, .ref a0), (1, .int a1)] [.int s0, .ref s1] h (some (.int r0)) h' := by
  unfold f_mo_keep_L82 at hf
  obtain ⟨c19, hf⟩ := sm_gdE hf
  refine sm_putZ fp_mo_85 t1 rfl rfl c19 d_mo_keep_82 ?_
  refine sm_nmH (fun g20 w21 => ?_)
  have hf := sm_letV w21 hf
  refine sm_aload_n 0 rfl d_mo_keep_85 ?_
  refine sm_aload_n 0 rfl d_mo_keep_86 ?_
  refine sm_getI fl_mo_88 e0 rfl d_mo_keep_87 ?_
  refine sm_if_ne 98 d_mo_keep_90 rfl (fun c22 => ?_) (fun c22 => ?_)
  · have hf := sm_ifF c22 hf
    refine sm_sub [0] rfl ?_
    exact w_mo_keep_L98 l lo hi d _ _ _ e0 e0 hf
  · have hf := sm_ifT c22 hf
    refine sm_iload_n 1 rfl d_mo_keep_93 ?_
    refine sm_iconst (v := 2) (by decide) d_mo_keep_94 ?_
    refine sm_icmp_ne 102 d_mo_keep_95 rfl (fun c23 => ?_) (fun c23 => ?_)
    · have hf := sm_ifF c23 hf
      refine sm_iconst (v := 0) (by decide) d_mo_keep_102 ?_
      refine sm_sub [0] rfl ?_
      exact w_mo_keep_L103 l lo hi d _ _ _ _ e0 e0 hf
    · have hf := sm_ifT c23 hf
      refine sm_sub [0] rfl ?_
      exact w_mo_keep_L98 l lo hi d _ _ _ e0 e0 hf
theorem w_mo_keep_L77 (l : Launch) (lo hi d : Nat) {h' : sm_H} {r0 : Int32} (a0 : Nat) (a1 : Int32) (s0 : Nat) (h : sm_H) (e0 : sm_at lo hi (0, 10, 0) a0) (t0 : sm_at lo hi (0, 10, 0) s0) (hf : f_mo_keep_L77 a0 a1 s0 h = some (r0, h')) : sm_W l lo hi (d + 1) q_mo_keep 77 [(0, .ref a0), (1, .int a1)] [.ref s0] h (some (.int r0)) h' := by
  unfold f_mo_keep_L77 at hf
  refine sm_iconst (v := 1) (by decide) d_mo_keep_77 ?_
  refine sm_goto 82 d_mo_keep_78 rfl ?_
  exact w_mo_keep_L82 l lo hi d _ _ _ _ _ e0 t0 hf
theorem w_mo_keep_L61 (l : Launch) (lo hi d : Nat) {h' : sm_H} {r0 : Int32} (a0 : Nat) (a1 : Int32) (s0 : Int32) (s1 : Nat) (h : sm_H) (e0 : sm_at lo hi (0, 10, 0) a0) (t1 : sm_at lo hi (0, 10, 0) s1) (hf : f_mo_keep_L61 a0 a1 s0 s1 h = some (r0, h')) : sm_W l lo hi (d + 1) q_mo_keep 61 [(0, .ref a0), (1, .int a1)] [.int s0, .ref s1] h (some (.int r0)) h' := by
  unfold f_mo_keep_L61 at hf
  obtain ⟨c14, hf⟩ := sm_gdE hf
  refine sm_putZ fp_mo_81 t1 rfl rfl c14 d_mo_keep_61 ?_
  refine sm_nmH (fun g15 w16 => ?_)
  have hf := sm_letV w16 hf
  refine sm_aload_n 0 rfl d_mo_keep_64 ?_
  refine sm_aload_n 0 rfl d_mo_keep_65 ?_
  refine sm_getI fl_mo_85 e0 rfl d_mo_keep_66 ?_
  refine sm_if_ne 77 d_mo_keep_69 rfl (fun c17 => ?_) (fun c17 => ?_)
  · have hf := sm_ifF c17 hf
    exact w_mo_keep_L77 l lo hi d _ _ _ _ e0 e0 hf
  · have hf := sm_ifT c17 hf
    refine sm_iload_n 1 rfl d_mo_keep_72 ?_
    refine sm_iconst (v := 1) (by decide) d_mo_keep_73 ?_
    refine sm_icmp_ne 81 d_mo_keep_74 rfl (fun c18 => ?_) (fun c18 => ?_)
    · have hf := sm_ifF c18 hf
      refine sm_iconst (v := 0) (by decide) d_mo_keep_81 ?_
      exact w_mo_keep_L82 l lo hi d _ _ _ _ _ e0 e0 hf
    · have hf := sm_ifT c18 hf
      exact w_mo_keep_L77 l lo hi d _ _ _ _ e0 e0 hf
theorem w_mo_keep_L56 (l : Launch) (lo hi d : Nat) {h' : sm_H} {r0 : Int32} (a0 : Nat) (a1 : Int32) (s0 : Nat) (h : sm_H) (e0 : sm_at lo hi (0, 10, 0) a0) (t0 : sm_at lo hi (0, 10, 0) s0) (hf : f_mo_keep_L56 a0 a1 s0 h = some (r0, h')) : sm_W l lo hi (d + 1) q_mo_keep 56 [(0, .ref a0), (1, .int a1)] [.ref s0] h (some (.int r0)) h' := by
  unfold f_mo_keep_L56 at hf
  refine sm_iconst (v := 1) (by decide) d_mo_keep_56 ?_
  refine sm_goto 61 d_mo_keep_57 rfl ?_
  exact w_mo_keep_L61 l lo hi d _ _ _ _ _ e0 t0 hf
theorem w_mo_keep_L44 (l : Launch) (lo hi d : Nat) {h' : sm_H} {r0 : Int32} (a0 : Nat) (a1 : Int32) (h : sm_H) (e0 : sm_at lo hi (0, 10, 0) a0) (hf : f_mo_keep_L44 a0 a1 h = some (r0, h')) : sm_W l lo hi (d + 1) q_mo_keep 44 [(0, .ref a0), (1, .int a1)] [] h (some (.int r0)) h' := by
  unfold f_mo_keep_L44 at hf
  refine sm_aload_n 0 rfl d_mo_keep_44 ?_
  refine sm_aload_n 0 rfl d_mo_keep_45 ?_
  refine sm_getI fl_mo_81 e0 rfl d_mo_keep_46 ?_
  refine sm_if_ne 56 d_mo_keep_49 rfl (fun c12 => ?_) (fun c12 => ?_)
  · have hf := sm_ifF c12 hf
    exact w_mo_keep_L56 l lo hi d _ _ _ _ e0 e0 hf
  · have hf := sm_ifT c12 hf
    refine sm_iload_n 1 rfl d_mo_keep_52 ?_
    refine sm_if_ne 60 d_mo_keep_53 rfl (fun c13 => ?_) (fun c13 => ?_)
    · have hf := sm_ifF c13 hf
      refine sm_iconst (v := 0) (by decide) d_mo_keep_60 ?_
      exact w_mo_keep_L61 l lo hi d _ _ _ _ _ e0 e0 hf
    · have hf := sm_ifT c13 hf
      exact w_mo_keep_L56 l lo hi d _ _ _ _ e0 e0 hf
theorem w_mo_keep_L13 (l : Launch) (lo hi d : Nat) {h' : sm_H} {r0 : Int32} : ∀ (n : Nat) (a0 : Nat) (a1 : Int32) (a2 : Int32) (h : sm_H) (e0 : sm_at lo hi (0, 10, 0) a0) (hf : f_mo_keep_L13 n a0 a1 a2 h = some (r0, h')), sm_W l lo hi (d + 1) q_mo_keep 13 [(0, .ref a0), (1, .int a1), (2, .int a2)] [] h (some (.int r0)) h' := by
  intro n
  induction n with
  | zero =>
    intro a0 a1 a2 h e0 hf
    have z : (none : Option (Int32 × sm_H)) = some _ := hf
    cases z
  | succ n ih =>
    intro a0 a1 a2 h e0 hf
    unfold f_mo_keep_L13 at hf
    refine sm_iload_n 2 rfl d_mo_keep_13 ?_
    refine sm_sipush (v := 350) (by decide) d_mo_keep_14 ?_
    refine sm_icmp_ge 44 d_mo_keep_17 rfl (fun c5 => ?_) (fun c5 => ?_)
    · have hf := sm_ifT c5 hf
      refine sm_sub [0, 1] rfl ?_
      exact w_mo_keep_L44 l lo hi d _ _ _ e0 hf
    · have hf := sm_ifF c5 hf
      refine sm_aload_n 0 rfl d_mo_keep_20 ?_
      refine sm_getR (n := 5) fl_mo_22 e0 rfl d_mo_keep_21 ?_
      refine sm_sipush (v := 350) (by decide) d_mo_keep_24 ?_
      refine sm_iload_n 1 rfl d_mo_keep_27 ?_
      refine sm_imul d_mo_keep_28 ?_
      refine sm_iload_n 2 rfl d_mo_keep_29 ?_
      refine sm_iadd d_mo_keep_30 ?_
      refine sm_aload_n 0 rfl d_mo_keep_31 ?_
      refine sm_getR (n := 3) fl_mo_16 e0 rfl d_mo_keep_32 ?_
      refine sm_iload_n 2 rfl d_mo_keep_35 ?_
      obtain ⟨c6, hf⟩ := sm_gdE hf
      refine sm_iald (sm_at_arr (sm_inner e0 2 rfl rfl rfl)) c6 d_mo_keep_36 ?_
      obtain ⟨c7, hf⟩ := sm_gdE hf
      refine sm_iast (sm_at_arr (sm_inner e0 4 rfl rfl rfl)) c7 d_mo_keep_37 ?_
      refine sm_nmH (fun g8 w9 => ?_)
      have hf := sm_letV w9 hf
      obtain ⟨x10, w11⟩ : ∃ v : Int32, v = a2 + 1 := ⟨_, rfl⟩
      have hf := sm_letV w11 hf
      refine sm_iinc (v := x10) (lv' := [(2, .int x10), (0, .ref a0), (1, .int a1)]) 2 rfl (by rw [w11]; rfl) d_mo_keep_38 rfl rfl ?_
      refine sm_goto 13 d_mo_keep_41 rfl ?_
      refine sm_sub [1, 2, 0] rfl ?_
      exact ih _ _ _ _ e0 hf
theorem m_mo_keep (l : Launch) (lo hi d : Nat) {a0 : Nat} {a1 : Int32} {r0 : Int32} {h h' : sm_H} (e0 : sm_at lo hi (0, 10, 0) a0) (hf : f_mo_keep a0 a1 h = some (r0, h')) : sm_Met l lo hi (d + 1) q_mo_keep [.ref a0, .int a1] h (some (.int r0)) h' := by
  refine sm_Met.of (by decide +kernel) rfl ?_
  show sm_W l lo hi (d + 1) q_mo_keep 0 [(0, .ref a0), (1, .int a1)] [] h (some (.int r0)) h'
  unfold f_mo_keep at hf
  refine sm_iload_n 1 rfl d_mo_keep_0 ?_
  refine sm_iconst (v := 0) (by decide) d_mo_keep_1 ?_
  refine sm_iconst (v := 2) (by decide) d_mo_keep_2 ?_
  obtain ⟨r1, g2, c3, hf⟩ := sm_b2E hf
  refine sm_callS (As := [.int a1, .int 0, .int 2]) (rv := some (.int r1)) (h1 := g2) cvs_mo_91 (m_mo_in l lo hi _ c3) rfl rfl d_mo_keep_3 ?_
  refine sm_if_ne 11 d_mo_keep_6 rfl (fun c4 => ?_) (fun c4 => ?_)
  · have hf := sm_ifF c4 hf
    refine sm_iconst (v := 0) (by decide) d_mo_keep_11 ?_
    refine sm_istore_n (lv' := [(2, .int 0), (0, .ref a0), (1, .int a1)]) d_mo_keep_12 rfl rfl ?_
    refine sm_sub [1, 2, 0] rfl ?_
    exact w_mo_keep_L13 l lo hi d sm_N _ _ _ _ e0 hf
  · have hf := sm_ifT c4 hf
    refine sm_iconst (v := (-1)) (by decide) d_mo_keep_9 ?_
    obtain ⟨rfl, rfl⟩ := sm_ret2 hf
    exact sm_iret d_mo_keep_10 rfl
theorem d_mo_restore_0 : decode q_mo_restore.2.1 0 = .ok (.iload_n 1, 1) := by decide +kernel
theorem d_mo_restore_1 : decode q_mo_restore.2.1 1 = .ok (.iconst 0, 1) := by decide +kernel
theorem d_mo_restore_2 : decode q_mo_restore.2.1 2 = .ok (.iconst 2, 1) := by decide +kernel
theorem d_mo_restore_3 : decode q_mo_restore.2.1 3 = .ok (.invokestatic 91, 3) := by decide +kernel
theorem d_mo_restore_6 : decode q_mo_restore.2.1 6 = .ok (.ifCond .ne 5, 3) := by decide +kernel
theorem d_mo_restore_9 : decode q_mo_restore.2.1 9 = .ok (.iconst (-1), 1) := by decide +kernel
theorem d_mo_restore_10 : decode q_mo_restore.2.1 10 = .ok (.ireturn, 1) := by decide +kernel
theorem d_mo_restore_11 : decode q_mo_restore.2.1 11 = .ok (.iload_n 1, 1) := by decide +kernel
theorem d_mo_restore_12 : decode q_mo_restore.2.1 12 = .ok (.ifCond .ne 13, 3) := by decide +kernel
theorem d_mo_restore_15 : decode q_mo_restore.2.1 15 = .ok (.aload_n 0, 1) := by decide +kernel
theorem d_mo_restore_16 : decode q_mo_restore.2.1 16 = .ok (.getfield 81, 3) := by decide +kernel
theorem d_mo_restore_19 : decode q_mo_restore.2.1 19 = .ok (.ifCond .ne 31, 3) := by decide +kernel
theorem d_mo_restore_22 : decode q_mo_restore.2.1 22 = .ok (.goto 25, 3) := by decide +kernel
theorem d_mo_restore_25 : decode q_mo_restore.2.1 25 = .ok (.iload_n 1, 1) := by decide +kernel
theorem d_mo_restore_26 : decode q_mo_restore.2.1 26 = .ok (.iconst 1, 1) := by decide +kernel
theorem d_mo_restore_27 : decode q_mo_restore.2.1 27 = .ok (.if_icmp .ne 13, 3) := by decide +kernel
theorem d_mo_restore_30 : decode q_mo_restore.2.1 30 = .ok (.aload_n 0, 1) := by decide +kernel
theorem d_mo_restore_31 : decode q_mo_restore.2.1 31 = .ok (.getfield 85, 3) := by decide +kernel
theorem d_mo_restore_34 : decode q_mo_restore.2.1 34 = .ok (.ifCond .ne 16, 3) := by decide +kernel
theorem d_mo_restore_37 : decode q_mo_restore.2.1 37 = .ok (.goto 10, 3) := by decide +kernel
theorem d_mo_restore_40 : decode q_mo_restore.2.1 40 = .ok (.aload_n 0, 1) := by decide +kernel
theorem d_mo_restore_41 : decode q_mo_restore.2.1 41 = .ok (.getfield 88, 3) := by decide +kernel
theorem d_mo_restore_44 : decode q_mo_restore.2.1 44 = .ok (.ifCond .ne 6, 3) := by decide +kernel
theorem d_mo_restore_47 : decode q_mo_restore.2.1 47 = .ok (.bipush (-4), 2) := by decide +kernel
theorem d_mo_restore_49 : decode q_mo_restore.2.1 49 = .ok (.ireturn, 1) := by decide +kernel
theorem d_mo_restore_50 : decode q_mo_restore.2.1 50 = .ok (.iconst 0, 1) := by decide +kernel
theorem d_mo_restore_51 : decode q_mo_restore.2.1 51 = .ok (.istore_n 2, 1) := by decide +kernel
theorem d_mo_restore_52 : decode q_mo_restore.2.1 52 = .ok (.iload_n 2, 1) := by decide +kernel
theorem d_mo_restore_53 : decode q_mo_restore.2.1 53 = .ok (.sipush 350, 3) := by decide +kernel
theorem d_mo_restore_56 : decode q_mo_restore.2.1 56 = .ok (.if_icmp .ge 27, 3) := by decide +kernel
theorem d_mo_restore_59 : decode q_mo_restore.2.1 59 = .ok (.aload_n 0, 1) := by decide +kernel
theorem d_mo_restore_60 : decode q_mo_restore.2.1 60 = .ok (.getfield 16, 3) := by decide +kernel
theorem d_mo_restore_63 : decode q_mo_restore.2.1 63 = .ok (.iload_n 2, 1) := by decide +kernel
theorem d_mo_restore_64 : decode q_mo_restore.2.1 64 = .ok (.aload_n 0, 1) := by decide +kernel
theorem d_mo_restore_65 : decode q_mo_restore.2.1 65 = .ok (.getfield 22, 3) := by decide +kernel
theorem d_mo_restore_68 : decode q_mo_restore.2.1 68 = .ok (.sipush 350, 3) := by decide +kernel
theorem d_mo_restore_71 : decode q_mo_restore.2.1 71 = .ok (.iload_n 1, 1) := by decide +kernel
theorem d_mo_restore_72 : decode q_mo_restore.2.1 72 = .ok (.imul, 1) := by decide +kernel
theorem d_mo_restore_73 : decode q_mo_restore.2.1 73 = .ok (.iload_n 2, 1) := by decide +kernel
theorem d_mo_restore_74 : decode q_mo_restore.2.1 74 = .ok (.iadd, 1) := by decide +kernel
theorem d_mo_restore_75 : decode q_mo_restore.2.1 75 = .ok (.iaload, 1) := by decide +kernel
theorem d_mo_restore_76 : decode q_mo_restore.2.1 76 = .ok (.iastore, 1) := by decide +kernel
theorem d_mo_restore_77 : decode q_mo_restore.2.1 77 = .ok (.iinc 2 1, 3) := by decide +kernel
theorem d_mo_restore_80 : decode q_mo_restore.2.1 80 = .ok (.goto (-28), 3) := by decide +kernel
theorem d_mo_restore_83 : decode q_mo_restore.2.1 83 = .ok (.aload_n 0, 1) := by decide +kernel
theorem d_mo_restore_84 : decode q_mo_restore.2.1 84 = .ok (.getfield 16, 3) := by decide +kernel
theorem d_mo_restore_87 : decode q_mo_restore.2.1 87 = .ok (.iconst 0, 1) := by decide +kernel
theorem d_mo_restore_88 : decode q_mo_restore.2.1 88 = .ok (.iaload, 1) := by decide +kernel
theorem d_mo_restore_89 : decode q_mo_restore.2.1 89 = .ok (.ireturn, 1) := by decide +kernel
theorem w_mo_restore_L83 (l : Launch) (lo hi d : Nat) {h' : sm_H} {r0 : Int32} (a0 : Nat) (h : sm_H) (e0 : sm_at lo hi (0, 10, 0) a0) (hf : f_mo_restore_L83 a0 h = some (r0, h')) : sm_W l lo hi (d + 1) q_mo_restore 83 [(0, .ref a0)] [] h (some (.int r0)) h' := by
  unfold f_mo_restore_L83 at hf
  refine sm_aload_n 0 rfl d_mo_restore_83 ?_
  refine sm_getR (n := 3) fl_mo_16 e0 rfl d_mo_restore_84 ?_
  refine sm_iconst (v := 0) (by decide) d_mo_restore_87 ?_
  obtain ⟨c17, hf⟩ := sm_gdE hf
  refine sm_iald (sm_at_arr (sm_inner e0 2 rfl rfl rfl)) c17 d_mo_restore_88 ?_
  obtain ⟨rfl, rfl⟩ := sm_ret2 hf
  exact sm_iret d_mo_restore_89 rfl
theorem w_mo_restore_L52 (l : Launch) (lo hi d : Nat) {h' : sm_H} {r0 : Int32} : ∀ (n : Nat) (a0 : Nat) (a1 : Int32) (a2 : Int32) (h : sm_H) (e0 : sm_at lo hi (0, 10, 0) a0) (hf : f_mo_restore_L52 n a0 a1 a2 h = some (r0, h')), sm_W l lo hi (d + 1) q_mo_restore 52 [(0, .ref a0), (1, .int a1), (2, .int a2)] [] h (some (.int r0)) h' := by
  intro n
  induction n with
  | zero =>
    intro a0 a1 a2 h e0 hf
    have z : (none : Option (Int32 × sm_H)) = some _ := hf
    cases z
  | succ n ih =>
    intro a0 a1 a2 h e0 hf
    unfold f_mo_restore_L52 at hf
    refine sm_iload_n 2 rfl d_mo_restore_52 ?_
    refine sm_sipush (v := 350) (by decide) d_mo_restore_53 ?_
    refine sm_icmp_ge 83 d_mo_restore_56 rfl (fun c10 => ?_) (fun c10 => ?_)
    · have hf := sm_ifT c10 hf
      refine sm_sub [0] rfl ?_
      exact w_mo_restore_L83 l lo hi d _ _ e0 hf
    · have hf := sm_ifF c10 hf
      refine sm_aload_n 0 rfl d_mo_restore_59 ?_
      refine sm_getR (n := 3) fl_mo_16 e0 rfl d_mo_restore_60 ?_
      refine sm_iload_n 2 rfl d_mo_restore_63 ?_
      refine sm_aload_n 0 rfl d_mo_restore_64 ?_
      refine sm_getR (n := 5) fl_mo_22 e0 rfl d_mo_restore_65 ?_
      refine sm_sipush (v := 350) (by decide) d_mo_restore_68 ?_
      refine sm_iload_n 1 rfl d_mo_restore_71 ?_
      refine sm_imul d_mo_restore_72 ?_
      refine sm_iload_n 2 rfl d_mo_restore_73 ?_
      refine sm_iadd d_mo_restore_74 ?_
      obtain ⟨c11, hf⟩ := sm_gdE hf
      refine sm_iald (sm_at_arr (sm_inner e0 4 rfl rfl rfl)) c11 d_mo_restore_75 ?_
      obtain ⟨c12, hf⟩ := sm_gdE hf
      refine sm_iast (sm_at_arr (sm_inner e0 2 rfl rfl rfl)) c12 d_mo_restore_76 ?_
      refine sm_nmH (fun g13 w14 => ?_)
      have hf := sm_letV w14 hf
      obtain ⟨x15, w16⟩ : ∃ v : Int32, v = a2 + 1 := ⟨_, rfl⟩
      have hf := sm_letV w16 hf
      refine sm_iinc (v := x15) (lv' := [(2, .int x15), (0, .ref a0), (1, .int a1)]) 2 rfl (by rw [w16]; rfl) d_mo_restore_77 rfl rfl ?_
      refine sm_goto 52 d_mo_restore_80 rfl ?_
      refine sm_sub [1, 2, 0] rfl ?_
      exact ih _ _ _ _ e0 hf
theorem w_mo_restore_L50 (l : Launch) (lo hi d : Nat) {h' : sm_H} {r0 : Int32} (a0 : Nat) (a1 : Int32) (h : sm_H) (e0 : sm_at lo hi (0, 10, 0) a0) (hf : f_mo_restore_L50 a0 a1 h = some (r0, h')) : sm_W l lo hi (d + 1) q_mo_restore 50 [(0, .ref a0), (1, .int a1)] [] h (some (.int r0)) h' := by
  unfold f_mo_restore_L50 at hf
  refine sm_iconst (v := 0) (by decide) d_mo_restore_50 ?_
  refine sm_istore_n (lv' := [(2, .int 0), (0, .ref a0), (1, .int a1)]) d_mo_restore_51 rfl rfl ?_
  refine sm_sub [1, 2, 0] rfl ?_
  exact w_mo_restore_L52 l lo hi d sm_N _ _ _ _ e0 hf
theorem w_mo_restore_L47 (l : Launch) (lo hi d : Nat) {h' : sm_H} {r0 : Int32} (h : sm_H) (hf : f_mo_restore_L47 h = some (r0, h')) : sm_W l lo hi (d + 1) q_mo_restore 47 [] [] h (some (.int r0)) h' := by
  unfold f_mo_restore_L47 at hf
  refine sm_bipush (v := (-4)) (by decide) d_mo_restore_47 ?_
  obtain ⟨rfl, rfl⟩ := sm_ret2 hf
  exact sm_iret d_mo_restore_49 rfl
theorem m_mo_restore (l : Launch) (lo hi d : Nat) {a0 : Nat} {a1 : Int32} {r0 : Int32} {h h' : sm_H} (e0 : sm_at lo hi (0, 10, 0) a0) (hf : f_mo_restore a0 a1 h = some (r0, h')) : sm_Met l lo hi (d + 1) q_mo_restore [.ref a0, .int a1] h (some (.int r0)) h' := by
  refine sm_Met.of (by decide +kernel) rfl ?_
  show sm_W l lo hi (d + 1) q_mo_restore 0 [(0, .ref a0), (1, .int a1)] [] h (some (.int r0)) h'
  unfold f_mo_restore at hf
  refine sm_iload_n 1 rfl d_mo_restore_0 ?_
  refine sm_iconst (v := 0) (by decide) d_mo_restore_1 ?_
  refine sm_iconst (v := 2) (by decide) d_mo_restore_2 ?_
  obtain ⟨r1, g2, c3, hf⟩ := sm_b2E hf
  refine sm_callS (As := [.int a1, .int 0, .int 2]) (rv := some (.int r1)) (h1 := g2) cvs_mo_91 (m_mo_in l lo hi _ c3) rfl rfl d_mo_restore_3 ?_
  refine sm_if_ne 11 d_mo_restore_6 rfl (fun c4 => ?_) (fun c4 => ?_)
  · have hf := sm_ifF c4 hf
    refine sm_iload_n 1 rfl d_mo_restore_11 ?_
    refine sm_if_ne 25 d_mo_restore_12 rfl (fun c5 => ?_) (fun c5 => ?_)
    · have hf := sm_ifF c5 hf
      refine sm_iload_n 1 rfl d_mo_restore_25 ?_
      refine sm_iconst (v := 1) (by decide) d_mo_restore_26 ?_
      refine sm_icmp_ne 40 d_mo_restore_27 rfl (fun c6 => ?_) (fun c6 => ?_)
      · have hf := sm_ifF c6 hf
        refine sm_aload_n 0 rfl d_mo_restore_40 ?_
        refine sm_getI fl_mo_88 e0 rfl d_mo_restore_41 ?_
        refine sm_if_ne 50 d_mo_restore_44 rfl (fun c7 => ?_) (fun c7 => ?_)
        · have hf := sm_ifF c7 hf
          exact w_mo_restore_L50 l lo hi d _ _ _ e0 hf
        · have hf := sm_ifT c7 hf
          refine sm_sub [] rfl ?_
          exact w_mo_restore_L47 l lo hi d _ hf
      · have hf := sm_ifT c6 hf
        refine sm_aload_n 0 rfl d_mo_restore_30 ?_
        refine sm_getI fl_mo_85 e0 rfl d_mo_restore_31 ?_
        refine sm_if_ne 50 d_mo_restore_34 rfl (fun c8 => ?_) (fun c8 => ?_)
        · have hf := sm_ifF c8 hf
          exact w_mo_restore_L50 l lo hi d _ _ _ e0 hf
        · have hf := sm_ifT c8 hf
          refine sm_goto 47 d_mo_restore_37 rfl ?_
          refine sm_sub [] rfl ?_
          exact w_mo_restore_L47 l lo hi d _ hf
    · have hf := sm_ifT c5 hf
      refine sm_aload_n 0 rfl d_mo_restore_15 ?_
      refine sm_getI fl_mo_81 e0 rfl d_mo_restore_16 ?_
      refine sm_if_ne 50 d_mo_restore_19 rfl (fun c9 => ?_) (fun c9 => ?_)
      · have hf := sm_ifF c9 hf
        exact w_mo_restore_L50 l lo hi d _ _ _ e0 hf
      · have hf := sm_ifT c9 hf
        refine sm_goto 47 d_mo_restore_22 rfl ?_
        refine sm_sub [] rfl ?_
        exact w_mo_restore_L47 l lo hi d _ hf
  · have hf := sm_ifT c4 hf
    refine sm_iconst (v := (-1)) (by decide) d_mo_restore_9 ?_
    obtain ⟨rfl, rfl⟩ := sm_ret2 hf
    exact sm_iret d_mo_restore_10 rfl
