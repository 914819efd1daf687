-- FEED
theorem p_by1 (x : Int32) (s : Int32) (k : Nat) (hs : ((s.toUInt32 &&& Int32.toUInt32 31).toBitVec % 32).toNat = k) : ((((x.toUInt32 >>> (s.toUInt32 &&& Int32.toUInt32 31)).toInt32).toInt8.toInt32).toInt8.toInt32) = (Int8.ofNat (x.toBitVec.toNat / 2 ^ k % 256)).toInt32 := by
  rw [Int8.toInt8_toInt32]
  congr 1
  have e := pk_ushr x s k hs
  generalize (x.toUInt32 >>> (s.toUInt32 &&& Int32.toUInt32 31)).toInt32 = y at e
  rw [← e]
  apply Int8.toBitVec_inj.mp
  apply BitVec.eq_of_getLsbD_eq
  intro i hi
  show (y.toBitVec.signExtend 8).getLsbD i = (BitVec.ofNat 8 (y.toBitVec.toNat % 256)).getLsbD i
  rw [BitVec.getLsbD_signExtend, BitVec.getLsbD_ofNat, show (256 : Nat) = 2 ^ 8 from rfl, Nat.testBit_mod_two_pow, decide_eq_true hi, if_pos (by omega)]
  rfl
theorem p_by2 (x : Int32) {k : Nat} (hk : k ≤ 24) : (x >>> (nI k &&& 31)) &&& 255 = nI (x.toBitVec.toNat / 2 ^ k % 256) := by
  apply sm_bt_ext
  intro j hj
  have e1 : (255 : Int32) = nI 255 := rfl
  rw [sm_bt_and, e1, nI_bt hj, nI_bt hj]
  have e2 : Nat.testBit (x.toBitVec.toNat / 2 ^ k % 256) j = (decide (j < 8) && Nat.testBit x.toBitVec.toNat (j + k)) := by
    rw [show (256 : Nat) = 2 ^ 8 from rfl, Nat.testBit_mod_two_pow, Nat.testBit_div_two_pow]
  have e3 : Nat.testBit 255 j = decide (j < 8) := by
    have g : ((List.range 32).all fun j => Nat.testBit 255 j == decide (j < 8)) = true := by decide +kernel
    exact eq_of_beq (List.all_eq_true.mp g j (List.mem_range.mpr hj))
  rw [e2, e3]
  by_cases z : j < 8
  · rw [decide_eq_true z, Bool.and_true, Bool.true_and]
    unfold sm_bt
    rw [Int32.toBitVec_shiftRight, sm_shk k (by omega)]
    show (x.toBitVec.sshiftRight (BitVec.ofNat 32 k).toNat).getLsbD j = _
    rw [BitVec.toNat_ofNat, Nat.mod_eq_of_lt (by omega), BitVec.getLsbD_sshiftRight, if_pos (by omega), show k + j = j + k by omega, decide_eq_false (by omega)]
    rfl
  · rw [decide_eq_false z, Bool.and_false, Bool.false_and]
def p_tc (h : sm_H) (B : Nat) (f : Nat → Nat) : Prop := h 18 1 = nI B ∧ ∀ i, i < B → h 19 i = (Int8.ofNat (f i)).toInt32
def p_tr (h : sm_H) (B : Nat) (f : Nat → Nat) : Prop := h 114 9 = nI B ∧ ∀ i, i < B → h 120 i = nI (f i)
def p_a1 (f : Nat → Nat) (B v : Nat) : Nat → Nat := fun i => if i = B then v else f i
def p_bv (x : Int32) (k : Nat) : Nat := x.toBitVec.toNat / 2 ^ k % 256
def p_ap (f : Nat → Nat) (B : Nat) (x : Int32) : Nat → Nat := p_a1 (p_a1 (p_a1 (p_a1 f B (p_bv x 24)) (B + 1) (p_bv x 16)) (B + 2) (p_bv x 8)) (B + 3) (p_bv x 0)
def p_fc (h h' : sm_H) : Prop := (∀ i, i ≠ 18 → i ≠ 19 → h' i = h i) ∧ ∀ k, k ≠ 1 → h' 18 k = h 18 k
def p_fm (h h' : sm_H) : Prop := (∀ i, i ≠ 114 → i ≠ 120 → h' i = h i) ∧ ∀ k, k ≠ 9 → h' 114 k = h 114 k
theorem p_fc.trans {h h' h'' : sm_H} (a : p_fc h h') (b : p_fc h' h'') : p_fc h h'' := ⟨fun i x y => (b.1 i x y).trans (a.1 i x y), fun k x => (b.2 k x).trans (a.2 k x)⟩
theorem p_fm.trans {h h' h'' : sm_H} (a : p_fm h h') (b : p_fm h' h'') : p_fm h h'' := ⟨fun i x y => (b.1 i x y).trans (a.1 i x y), fun k x => (b.2 k x).trans (a.2 k x)⟩
theorem t_app1 {h : sm_H} {B : Nat} {f : Nat → Nat} (T : p_tc h B f) (hB : B < 900) (x s s' : Int32) (k n : Nat) (hs0 : ¬ s < 0) (hs : ((s.toUInt32 &&& Int32.toUInt32 31).toBitVec % 32).toNat = k) (hs' : s + (-8) = s') : ∃ h', f_te_append_L3 (n + 1) 18 x s h = f_te_append_L3 n 18 x s' h' ∧ p_tc h' (B + 1) (p_a1 f B (p_bv x k)) ∧ p_fc h h' := by
  obtain ⟨T1, T2⟩ := T
  refine ⟨sm_up (sm_up h 19 B (Int8.ofNat (p_bv x k)).toInt32) 18 1 (nI (B + 1)), ?_, ⟨p_up_at, fun i hi => ?_⟩, ⟨fun i a b => ?_, fun k hk => ?_⟩⟩
  · show (if s < 0 then _ else _) = _
    rw [if_neg hs0, T1, if_neg (show ¬ (900 : Int32) ≤ nI B from nI_ge (b := 900) hB (by omega)), sm_gd_t (sm_inb_nI hB (by omega)), nI_clamp (by omega), p_by1 x s k hs]
    refine w_lt ?_
    refine w_lt ?_
    refine w_lt ?_
    rw [hs', show sm_up h (18 + 1) B (Int8.ofNat (x.toBitVec.toNat / 2 ^ k % 256)).toInt32 18 1 = nI B by rw [sm_up_off (by omega)]; exact T1, nI_1]
    rfl
  · rw [sm_up_off (by omega)]
    unfold p_a1
    by_cases z : i = B
    · rw [z, p_up_at, if_pos rfl]
    · rw [sm_up_off (by omega), if_neg z]
      exact T2 i (by omega)
  · rw [sm_up_ne _ _ _ _ _ a, sm_up_ne _ _ _ _ _ b]
  · rw [sm_up_off (by omega), sm_up_off (by omega)]
theorem t_app {h : sm_H} {B : Nat} {f : Nat → Nat} (T : p_tc h B f) (hB : B + 4 ≤ 900) (x : Int32) : ∃ h', f_te_append 18 x h = some h' ∧ p_tc h' (B + 4) (p_ap f B x) ∧ p_fc h h' := by
  have hN : sm_N = 19995 + 1 + 1 + 1 + 1 + 1 := rfl
  unfold f_te_append
  rw [hN]
  obtain ⟨h1, a1, a2, a3⟩ := t_app1 T (by omega) x 24 16 24 (19995 + 1 + 1 + 1 + 1) (by decide) (by decide) (by decide)
  obtain ⟨h2, b1, b2, b3⟩ := t_app1 a2 (by omega) x 16 8 16 (19995 + 1 + 1 + 1) (by decide) (by decide) (by decide)
  obtain ⟨h3, c1, c2, c3⟩ := t_app1 b2 (by omega) x 8 0 8 (19995 + 1 + 1) (by decide) (by decide) (by decide)
  obtain ⟨h4, d1, d2, d3⟩ := t_app1 c2 (by omega) x 0 (-8) 0 (19995 + 1) (by decide) (by decide) (by decide)
  refine ⟨h4, ?_, d2, ((a3.trans b3).trans c3).trans d3⟩
  rw [a1, b1, c1, d1]
  show (if (-8 : Int32) < 0 then _ else _) = _
  rw [if_pos (by decide)]
theorem t_apm1 {h : sm_H} {B : Nat} {f : Nat → Nat} (T : p_tr h B f) (hB : B < 900) (x s' : Int32) (k n : Nat) (hk : k ≤ 24) (hs' : nI k - 8 = s') : ∃ h', f_mo_append_L3 (n + 1) 114 x (nI k) h = f_mo_append_L3 n 114 x s' h' ∧ p_tr h' (B + 1) (p_a1 f B (p_bv x k)) ∧ p_fm h h' := by
  obtain ⟨T1, T2⟩ := T
  refine ⟨sm_up (sm_up h 120 B (nI (p_bv x k))) 114 9 (nI (B + 1)), ?_, ⟨p_up_at, fun i hi => ?_⟩, ⟨fun i a b => ?_, fun k hk => ?_⟩⟩
  · show (if nI k < 0 then _ else _) = _
    rw [if_neg (nI_pos (by omega)), T1, sm_gd_t (sm_inb_nI hB (by omega)), nI_clamp (by omega), p_by2 x hk]
    refine w_lt ?_
    refine w_lt ?_
    refine w_lt ?_
    rw [hs', show sm_up h (114 + 6) B (nI (x.toBitVec.toNat / 2 ^ k % 256)) 114 9 = nI B by rw [sm_up_off (by omega)]; exact T1, nI_1]
    rfl
  · rw [sm_up_off (by omega)]
    unfold p_a1
    by_cases z : i = B
    · rw [z, p_up_at, if_pos rfl]
    · rw [sm_up_off (by omega), if_neg z]
      exact T2 i (by omega)
  · rw [sm_up_ne _ _ _ _ _ a, sm_up_ne _ _ _ _ _ b]
  · rw [sm_up_off (by omega), sm_up_off (by omega)]
theorem t_apm {h : sm_H} {B : Nat} {f : Nat → Nat} (T : p_tr h B f) (hB : B + 4 ≤ 900) (x : Int32) : ∃ h', f_mo_append 114 x h = some h' ∧ p_tr h' (B + 4) (p_ap f B x) ∧ p_fm h h' := by
  have hN : sm_N = 19995 + 1 + 1 + 1 + 1 + 1 := rfl
  unfold f_mo_append
  rw [hN, show (24 : Int32) = nI 24 from rfl]
  obtain ⟨h1, a1, a2, a3⟩ := t_apm1 T (by omega) x (nI 16) 24 (19995 + 1 + 1 + 1 + 1) (by omega) (by decide)
  obtain ⟨h2, b1, b2, b3⟩ := t_apm1 a2 (by omega) x (nI 8) 16 (19995 + 1 + 1 + 1) (by omega) (by decide)
  obtain ⟨h3, c1, c2, c3⟩ := t_apm1 b2 (by omega) x (nI 0) 8 (19995 + 1 + 1) (by omega) (by decide)
  obtain ⟨h4, d1, d2, d3⟩ := t_apm1 c2 (by omega) x (-8) 0 (19995 + 1) (by omega) (by decide)
  refine ⟨h4, ?_, d2, ((a3.trans b3).trans c3).trans d3⟩
  rw [a1, b1, c1, d1]
  show (if (-8 : Int32) < 0 then _ else _) = _
  rw [if_pos (by decide)]
theorem p_a1_lt {f : Nat → Nat} {B v : Nat} (hf : ∀ i, i < B → f i < 256) (hv : v < 256) : ∀ i, i < B + 1 → p_a1 f B v i < 256 := by
  intro i hi
  unfold p_a1
  split
  · exact hv
  · exact hf i (by omega)
theorem p_ap_lt {f : Nat → Nat} {B : Nat} {x : Int32} (hf : ∀ i, i < B → f i < 256) : ∀ i, i < B + 4 → p_ap f B x i < 256 := by
  have hv : ∀ k, p_bv x k < 256 := fun k => Nat.mod_lt _ (by omega)
  exact p_a1_lt (p_a1_lt (p_a1_lt (p_a1_lt hf (hv 24)) (hv 16)) (hv 8)) (hv 0)
theorem p_TX.fn {h : sm_H} (T : p_TX h) : ∃ B f, B ≤ 900 ∧ p_tc h B f ∧ p_tr h B f ∧ ∀ i, i < B → f i < 256 := by
  obtain ⟨B, h1, h2, h3, h4⟩ := T
  have hc : ∀ i, ∃ v, i < B → v < 256 ∧ h 120 i = nI v ∧ h 19 i = (Int8.ofNat v).toInt32 := by
    intro i
    by_cases z : i < B
    · obtain ⟨v, hv⟩ := h4 i z
      exact ⟨v, fun _ => hv⟩
    · exact ⟨0, fun y => absurd y z⟩
  refine ⟨B, fun i => Classical.choose (hc i), h1, ⟨h2, fun i hi => (Classical.choose_spec (hc i) hi).2.2⟩, ⟨h3, fun i hi => (Classical.choose_spec (hc i) hi).2.1⟩, fun i hi => (Classical.choose_spec (hc i) hi).1⟩
theorem s_feed : sm_S0 p_RR := by
  intro j h x0 x1 x2 x3 x4 hj hR
  obtain ⟨p, Z, D, F, R, G⟩ := hR
  obtain ⟨g1, g2, g3, g4, g5, g6, g7, g8, g9⟩ := id G
  obtain ⟨B, f, hB, T1, T2, hf⟩ := g7.fn
  have hp : p ≤ 24 := by rcases g1 with e | e <;> omega
  have hp2 : p = 1 ∨ p = 24 := g1
  have ad : nI B + 20 = nI (B + 20) := nI_add B 20
  by_cases z : B + 20 ≤ 900
  · obtain ⟨h1, a1, a2, a3⟩ := t_app T1 (by omega) x0
    obtain ⟨h2, b1, b2, b3⟩ := t_app a2 (by omega) x1
    obtain ⟨h3, c1, c2, c3⟩ := t_app b2 (by omega) x2
    obtain ⟨h4, d1, d2, d3⟩ := t_app c2 (by omega) x3
    obtain ⟨h5, e1, e2, e3⟩ := t_app d2 (by omega) x4
    have fc : p_fc h h5 := (((a3.trans b3).trans c3).trans d3).trans e3
    have T2' : p_tr h5 B f := ⟨by rw [fc.1 114 (by omega) (by omega)]; exact T2.1, fun i hi => by rw [fc.1 120 (by omega) (by omega)]; exact T2.2 i hi⟩
    obtain ⟨m1, k1, k2, k3⟩ := t_apm T2' (by omega) x0
    obtain ⟨m2, l1, l2, l3⟩ := t_apm k2 (by omega) x1
    obtain ⟨m3, n1, n2, n3⟩ := t_apm l2 (by omega) x2
    obtain ⟨m4, o1, o2, o3⟩ := t_apm n2 (by omega) x3
    obtain ⟨m5, q1, q2, q3⟩ := t_apm o2 (by omega) x4
    have fm : p_fm h5 m5 := (((k3.trans l3).trans n3).trans o3).trans q3
    have fr : ∀ i, i ≠ 18 → i ≠ 19 → i ≠ 114 → i ≠ 120 → m5 i = h i := fun i y1 y2 y3 y4 => (fm.1 i y3 y4).trans (fc.1 i y1 y2)
    have f114 : ∀ k, k ≠ 9 → m5 114 k = h 114 k := fun k hk => (fm.2 k hk).trans (congrFun (fc.1 114 (by omega) (by omega)) k)
    have lt := p_ap_lt (x := x4) (p_ap_lt (x := x3) (p_ap_lt (x := x2) (p_ap_lt (x := x1) (p_ap_lt (x := x0) hf))))
    refine ⟨nI (B + 20), h5, m5, ?_, ?_, p, Z, D, F, R, g1, ?_, ?_, ?_, ?_, ?_, ?_, ?_, ?_⟩
    · unfold f_sc_feed
      rw [show (0 + 17 + 1 : Nat) = 18 from rfl, T1.1, ad, if_pos (show nI (B + 20) ≤ (900 : Int32) from nI_le (b := 900) z (by omega)), a1]
      refine w_bd rfl ?_
      refine w_bd b1 ?_
      refine w_bd c1 ?_
      refine w_bd d1 ?_
      refine w_bd e1 ?_
      rw [e2.1]
    · unfold f_mo_feed
      rw [T2'.1, ad, if_pos (show nI (B + 20) ≤ (900 : Int32) from nI_le (b := 900) z (by omega)), k1]
      refine w_bd rfl ?_
      refine w_bd l1 ?_
      refine w_bd n1 ?_
      refine w_bd o1 ?_
      refine w_bd q1 ?_
      rw [q2.1]
    · rw [fr 40 (by omega) (by omega) (by omega) (by omega)]; exact g2
    · rw [fr 17 (by omega) (by omega) (by omega) (by omega)]; exact g3
    · rw [fr 115 (by omega) (by omega) (by omega) (by omega)]
      exact g4.rows (fun o ho => fr _ (by omega) (by omega) (by omega) (by omega))
    · rw [fr 115 (by omega) (by omega) (by omega) (by omega), fr 117 (by omega) (by omega) (by omega) (by omega)]
      exact (g5.rows (fun o ho => fr _ (by omega) (by omega) (by omega) (by omega))).mono
    · intro k hk
      obtain ⟨u1, u2, u3⟩ := g6 k hk
      rw [fr 66 (by omega) (by omega) (by omega) (by omega), f114 (5 + k) (by omega), fr 0 (by omega) (by omega) (by omega) (by omega), fr (67 + 13 * k) (by omega) (by omega) (by omega) (by omega), fr 119 (by omega) (by omega) (by omega) (by omega), fr 115 (by omega) (by omega) (by omega) (by omega)]
      exact ⟨u1, u2, fun hb => ⟨(u3 hb).1, ((u3 hb).2.rows (fun o ho => fr _ (by omega) (by omega) (by omega) (by omega))).mono⟩⟩
    · refine ⟨B + 20, z, ?_, q2.1, fun i hi => ⟨_, lt i hi, q2.2 i hi, ?_⟩⟩
      · rw [fm.1 18 (by omega) (by omega)]; exact e2.1
      · rw [fm.1 19 (by omega) (by omega)]; exact e2.2 i hi
    · rw [fr 17 (by omega) (by omega) (by omega) (by omega), f114 15 (by omega)]; exact g8
    · rw [fr 17 (by omega) (by omega) (by omega) (by omega), f114 16 (by omega)]; exact g9
  · refine ⟨-4, h, h, ?_, ?_, p, Z, D, F, R, G.mono⟩
    · unfold f_sc_feed
      rw [show (0 + 17 + 1 : Nat) = 18 from rfl, T1.1, ad, if_neg (show ¬ nI (B + 20) ≤ (900 : Int32) from nI_ge (a := 900) (by omega) (by omega))]
    · unfold f_mo_feed
      rw [T2.1, ad, if_neg (show ¬ nI (B + 20) ≤ (900 : Int32) from nI_ge (a := 900) (by omega) (by omega))]
