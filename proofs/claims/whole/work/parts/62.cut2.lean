-- LOAD: THE CUT, all tokens
def n_fo (t : Nat) (h h' : sm_H) : Prop := (∀ i, i < t → h' 20 i = h 20 i ∧ h' 21 i = h 21 i ∧ h' 22 i = h 22 i ∧ h' 23 i = h 23 i) ∧ (∀ j, j ≠ 6 → h' 18 j = h 18 j) ∧ ∀ r, r < 18 ∨ r = 19 ∨ 23 < r → h' r = h r
theorem n_fo.trans {t u : Nat} {h h' h'' : sm_H} (a : n_fo t h h') (z : t ≤ u) (b : n_fo u h' h'') : n_fo t h h'' := ⟨fun i y => ⟨(b.1 i (by omega)).1.trans (a.1 i y).1, (b.1 i (by omega)).2.1.trans (a.1 i y).2.1, (b.1 i (by omega)).2.2.1.trans (a.1 i y).2.2.1, (b.1 i (by omega)).2.2.2.trans (a.1 i y).2.2.2⟩, fun j y => (b.2.1 j y).trans (a.2.1 j y), fun r y => (b.2.2 r y).trans (a.2.2 r y)⟩
theorem n_mapD (f : Nat → Nat) (n k : Nat) (hk : k < n) : ((List.range n).map f).getD k 0 = f k := by
  rw [List.getD_eq_getElem?_getD, List.getElem?_map, List.getElem?_range hk]
  rfl
theorem n_outer {b : Nat → Nat} {L : Nat} (hL : L ≤ 900) : ∀ N n k t bef h, n ≤ N → L - k < n → k ≤ L → t ≤ k → bef ≤ 5 → (k < L → ¬ ((n_ty (b k) = 1 ∨ n_ty (b k) = 2) ∧ n_ty (b k) = bef)) → n_CU b L h → h 18 6 = nI t → ∃ h' T m, f_te_cut_L14 n 18 (nI L) (nI bef) (nI k) h = some h' ∧ h' 18 6 = nI T ∧ T ≤ L + 1 ∧ t < T ∧ n_fo t h h' ∧ n_TA b L T (h' 20) (h' 21) (h' 22) (h' 23) m t k (decide (bef = 1 ∨ bef = 2)) := by
  intro N
  induction N with
  | zero => intro n k t bef h a1 a2; omega
  | succ N ih =>
    intro n k t bef h a1 a2 a3 a4 a5 a6 C h6
    obtain ⟨n, rfl⟩ : ∃ m, n = m + 1 := ⟨n - 1, by omega⟩
    by_cases y : k = L
    · subst y
      obtain ⟨h', s1, s2, s3, s4, s5, s6, s7, s8, s9⟩ := n_start h6 (by omega) 0 (k := k) (Or.inr (by decide)) hL
      refine ⟨h', t + 1, 1, ?_, s2, by omega, by omega, ⟨fun i hi => s7 i (by omega), s8, s9⟩, ?_⟩
      · show (if nI k ≤ nI k then f_te_cut_L110 18 (nI k) h else _) = _
        rw [if_pos (nI_le (by omega) (by omega))]
        unfold f_te_cut_L110
        rw [s1]
        rfl
      · exact ⟨0, [], k, ⟨by omega, by omega, fun j j1 j2 => absurd j1 (by omega), s4, s3, by omega, fun _ => ⟨rfl, rfl⟩, fun z => absurd z (by omega), fun z => absurd z (by omega), fun z => absurd z (by omega), fun z => absurd z (by omega), fun z => absurd z (by omega), fun z => absurd z (by omega)⟩, fun z => absurd z (by omega)⟩
    · have hk : k < L := by omega
      have e2 := n_st2 (n := n) C hL hk rfl a5 (a6 hk)
      obtain ⟨t1, t2⟩ := n_ty_le (b k)
      rw [e2]
      by_cases y5 : n_ty (b k) = 5
      · rw [if_pos y5]
        obtain ⟨h', T, m, b1, b2, b3, b4, b5, b6⟩ := ih n (k + 1) t 5 h (by omega) (by omega) (by omega) (by omega) (by omega) (fun _ z => by omega) C h6
        refine ⟨h', T, m, ?_, b2, b3, b4, b5, n_TA.blank b6 y5⟩
        rw [y5]
        exact b1
      · rw [if_neg y5]
        by_cases yr : n_ty (b k) = 1 ∨ n_ty (b k) = 2
        · -- a run
          obtain ⟨κ, hκ⟩ : ∃ κ : Int32, κ = if (n_ty (b k) = 1 ∨ n_ty (b k) = 2) ∧ (bef = 1 ∨ bef = 2) then 4 else nI (n_ty (b k)) := ⟨_, rfl⟩
          rw [← hκ]
          obtain ⟨g, s1, s2, s3, s4, s5, s6, s7, s8, s9⟩ := n_start h6 (by omega) κ (k := k) (Or.inl (by omega)) (by omega)
          obtain ⟨r, r1, r2, r3⟩ := n_max (b := b) (L := L) (n_ty (b k)) (L - (k + 1)) (k + 1) (by omega)
          have Cg : n_CU b L g := fun i hi => by rw [s9 19 (by omega)]; exact C i hi
          have hq : n_Q b k t (n_ty (b k)) κ 1 g := by
            by_cases x : κ = 2
            · refine Or.inr (Or.inl ⟨x, ?_, by omega, by rw [s3]; exact x, ?_⟩)
              · by_cases w : (n_ty (b k) = 1 ∨ n_ty (b k) = 2) ∧ (bef = 1 ∨ bef = 2)
                · rw [if_pos w] at hκ
                  rw [hκ] at x
                  exact absurd x (by decide)
                · rw [if_neg w, x] at hκ
                  exact ((nI_eq (a := 2) (by omega) (by omega)).mp hκ).symm
              · have ht2 : n_ty (b k) = 2 := by
                  by_cases w : (n_ty (b k) = 1 ∨ n_ty (b k) = 2) ∧ (bef = 1 ∨ bef = 2)
                  · rw [if_pos w] at hκ
                    rw [hκ] at x
                    exact absurd x (by decide)
                  · rw [if_neg w, x] at hκ
                    exact ((nI_eq (a := 2) (by omega) (by omega)).mp hκ).symm
                have c2 := n_ty2.mp ht2
                rw [s6 x, (C k hk).2, n_by_nI (by omega), show (48 : Int32) = nI 48 from rfl, nI_sub (by omega)]
                show _ = nI (10 * 0 + (b (k + 0) - 48))
                congr 1
                rw [Nat.add_zero]
                omega
            · exact Or.inl ⟨x, s3⟩
          obtain ⟨g2, p1, p2, p3, p4⟩ := n_runs (L := L) (t := t) (kd := κ) hL (by omega) yr (n - r) r (k + 1) g 1 rfl r1 r2 Cg s2 s5 hq
          have f19 : g2 19 = g 19 := p2.2 19 (by omega)
          obtain ⟨h', T, m, b1, b2, b3, b4, b5, b6⟩ := ih (n - r) (k + 1 + r) (t + 1) (n_ty (b k)) g2 (by omega) (by omega) r1 (by omega) t2 (fun z w => r3 z w.2) (fun i hi => by rw [f19]; exact Cg i hi) (by rw [p2.2 18 (by omega)]; exact s2)
          rw [show n - r + r = n by omega] at p1
          obtain ⟨v1, v2, v3, v4⟩ := b5.1 t (by omega)
          have w2 : h' 21 t = nI k := by rw [v2, p2.2 21 (by omega)]; exact s4
          have w3 : h' 22 t = nI (1 + r) := by rw [v3, p3]
          have wl : ((List.range (1 + r)).map (fun j => b (k + j))).length = 1 + r := by rw [List.length_map, List.length_range]
          have wb : ∀ j, j < 1 + r → n_ty (b (k + j)) = n_ty (b k) := by
            intro j hj
            cases j with
            | zero => rfl
            | succ j =>
              have := r2 j (by omega)
              rw [show k + 1 + j = k + (j + 1) by omega] at this
              exact this
          have we : k + (1 + r) < L → n_ty (b (k + (1 + r))) ≠ n_ty (b k) := by
            intro z
            rw [show k + (1 + r) = k + 1 + r by omega]
            exact r3 (by omega)
          have b6' : n_TA b L T (h' 20) (h' 21) (h' 22) (h' 23) m (t + 1) (k + ((List.range (1 + r)).map (fun j => b (k + j))).length) true := by
            rw [wl, show k + (1 + r) = k + 1 + r by omega]
            rw [decide_eq_true yr] at b6
            exact b6
          refine ⟨h', T, m + 1, ?_, b2, b3, by omega, ?_, ?_⟩
          · refine w_bd s1 ?_
            rw [p1]
            exact b1
          · refine n_fo.trans ⟨fun i hi => s7 i (by omega), s8, s9⟩ (Nat.le_refl t) (n_fo.trans (u := t + 1) ⟨fun i hi => ⟨(p2.1 i (by omega)).1, by rw [p2.2 21 (by omega)], (p2.1 i (by omega)).2.1, (p2.1 i (by omega)).2.2⟩, fun j hj => by rw [p2.2 18 (by omega)], fun r hr => p2.2 r (by omega)⟩ (by omega) b5)
          · by_cases w : bef = 1 ∨ bef = 2
            · -- directly behind a run
              have k4 : κ = 4 := by rw [hκ, if_pos ⟨yr, w⟩]
              have q1 : h' 20 t = 4 := by
                rw [v1]
                rcases p4 with ⟨_, z⟩ | ⟨z, _⟩ | ⟨z, _⟩
                · rw [z, k4]
                · rw [k4] at z; exact absurd z (by decide)
                · rw [k4] at z; exact absurd z (by decide)
              rw [decide_eq_true w]
              exact ⟨4, [], k, ⟨by omega, by omega, fun j j1 j2 => absurd j1 (by omega), w2, q1, by omega, fun z => absurd z (by omega), fun _ => ⟨hk, by omega⟩, fun z => absurd z (by omega), fun z => absurd z (by omega), fun z => absurd z (by omega), fun z => absurd z (by omega), fun _ => ⟨y5, by omega, fun _ => Or.inl ⟨rfl, rfl⟩⟩⟩, fun _ z => absurd z (by omega)⟩
            · have kτ : κ = nI (n_ty (b k)) := by rw [hκ, if_neg (fun z => w z.2)]
              rw [decide_eq_false w]
              rcases p4 with ⟨z, q1⟩ | ⟨z, z1, z2, q1, q2⟩ | ⟨z, z1, q1⟩
              · have τ1 : n_ty (b k) = 1 := by
                  rcases yr with x | x
                  · exact x
                  · rw [kτ, x] at z
                    exact absurd rfl z
                refine ⟨1, (List.range (1 + r)).map (fun j => b (k + j)), k, ⟨by omega, by omega, fun j j1 j2 => absurd j1 (by omega), w2, by rw [v1, q1, kτ, τ1], by omega, fun z => absurd z (by omega), fun _ => ⟨hk, by omega⟩, fun _ => ?_, fun _ => by rw [w3, wl], fun z => absurd z (by omega), fun z => absurd z (by omega), fun z => absurd z (by omega)⟩, fun _ _ => b6'⟩
                rw [wl]
                refine ⟨by omega, by omega, fun j hj => ⟨n_mapD _ _ _ hj, ?_⟩, fun z => ?_, fun z => absurd z.1 (by decide)⟩
                · rw [wb j hj, τ1]
                · exact fun q => we z (q.trans τ1.symm)
              · refine ⟨2, (List.range (1 + r)).map (fun j => b (k + j)), k, ⟨by omega, by omega, fun j j1 j2 => absurd j1 (by omega), w2, by rw [v1, q1]; rfl, by omega, fun z => absurd z (by omega), fun _ => ⟨hk, by omega⟩, fun _ => ?_, fun z => absurd z (by omega), fun _ => ?_, fun z => absurd z (by omega), fun z => absurd z (by omega)⟩, fun _ _ => b6'⟩
                · rw [wl]
                  refine ⟨by omega, by omega, fun j hj => ⟨n_mapD _ _ _ hj, ?_⟩, fun z => ?_, fun z => absurd z.1 (by decide)⟩
                  · rw [wb j hj, z1]
                  · rw [← z1]
                    exact we z
                · rw [wl]
                  exact ⟨z2, by rw [v4, q2]⟩
              · have τ2 : n_ty (b k) = 2 := by
                  rw [kτ] at z
                  exact (nI_eq (b := 2) (by omega) (by omega)).mp z
                exact ⟨4, [], k, ⟨by omega, by omega, fun j j1 j2 => absurd j1 (by omega), w2, by rw [v1, q1]; rfl, by omega, fun z => absurd z (by omega), fun _ => ⟨hk, by omega⟩, fun z => absurd z (by omega), fun z => absurd z (by omega), fun z => absurd z (by omega), fun z => absurd z (by omega), fun _ => ⟨y5, by omega, fun _ => Or.inr ⟨1 + r, z1, by omega, fun j hj => (wb j hj).trans τ2, fun x => by rw [← τ2]; exact we x⟩⟩⟩, fun _ z => absurd z (by omega)⟩
        · rw [if_neg (fun z => yr z.1)]
          obtain ⟨g, s1, s2, s3, s4, s5, s6, s7, s8, s9⟩ := n_start h6 (by omega) (nI (n_ty (b k))) (k := k) (Or.inl (by omega)) (by omega)
          obtain ⟨h', T, m, b1, b2, b3, b4, b5, b6⟩ := ih n (k + 1) (t + 1) (n_ty (b k)) g (by omega) (by omega) (by omega) (by omega) t2 (fun _ z => by omega) (fun i hi => by rw [s9 19 (by omega)]; exact C i hi) s2
          obtain ⟨v1, v2, v3, v4⟩ := b5.1 t (by omega)
          rw [decide_eq_false yr] at b6
          refine ⟨h', T, m + 1, w_bd s1 b1, b2, b3, by omega, n_fo.trans ⟨fun i hi => s7 i (by omega), s8, s9⟩ (Nat.le_succ t) b5, ?_⟩
          refine ⟨n_ty (b k), [b k], k, ⟨by omega, by omega, fun j j1 j2 => absurd j1 (by omega), by rw [v2, s4], by rw [v1, s3], by omega, fun z => absurd z (by omega), fun _ => ⟨hk, by omega⟩, fun z => absurd z yr, fun z => absurd (Or.inl z) yr, fun z => absurd (Or.inr z) yr, fun z => ⟨rfl, z⟩, fun z => ⟨y5, by omega, fun x => absurd x yr⟩⟩, fun z1 z2 => ?_⟩
          rw [decide_eq_false (by omega)]
          exact b6
theorem n_cut {b : Nat → Nat} {L : Nat} (hL : L ≤ 900) {h : sm_H} (C : n_CU b L h) : ∃ h' T m, f_te_cut 18 (nI L) h = some h' ∧ h' 18 6 = nI T ∧ h' 18 7 = nI 0 ∧ T ≤ 901 ∧ 0 < T ∧ (∀ j, j ≠ 6 → j ≠ 7 → h' 18 j = h 18 j) ∧ (∀ r, r < 18 ∨ r = 19 ∨ 23 < r → h' r = h r) ∧ n_TA b L T (h' 20) (h' 21) (h' 22) (h' 23) m 0 0 false := by
  obtain ⟨h', T, m, b1, b2, b3, b4, b5, b6⟩ := n_outer hL sm_N sm_N 0 0 5 (sm_up (sm_up h 18 6 0) 18 7 0) (Nat.le_refl _) (by unfold sm_N; omega) (by omega) (by omega) (by omega) (fun _ z => by omega) (fun i hi => by rw [sm_up_ne _ _ _ _ _ (by omega), sm_up_ne _ _ _ _ _ (by omega)]; exact C i hi) (by rw [sm_up_off (by omega), p_up_at]; rfl)
  refine ⟨h', T, m, ?_, b2, ?_, by omega, b4, fun j j6 j7 => ?_, fun r hr => ?_, b6⟩
  · unfold f_te_cut
    exact b1
  · rw [b5.2.1 7 (by omega), p_up_at]; rfl
  · rw [b5.2.1 j j6, sm_up_off (by omega), sm_up_off (by omega)]
  · rw [b5.2.2 r hr, sm_up_ne _ _ _ _ _ (by omega), sm_up_ne _ _ _ _ _ (by omega)]
