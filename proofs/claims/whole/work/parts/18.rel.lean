-- THE RELATION of a state of the class (rows s .. s + 12 of h) to a row q of the reference; Y: how many zones' smoke is related
def p_eq (Y Z D F o k m : Nat) : Prop :=
  (o = 0 ∧ k = 1 ∧ m = 0) ∨ (o = 0 ∧ k = 2 ∧ m = 1) ∨ (o = 0 ∧ k = 3 ∧ m = 3) ∨ (o = 0 ∧ k = 4 ∧ m = 2) ∨ (o = 0 ∧ k = 5 ∧ m = 4) ∨ (o = 7 ∧ k = 22 ∧ m = 5) ∨ (o = 8 ∧ k = 2 ∧ m = 7) ∨ (o = 8 ∧ k = 3 ∧ m = 8) ∨
  (o = 1 ∧ k < Y ∧ m = 10 + 4 * k) ∨ (o = 2 ∧ k < Z ∧ m = 11 + 4 * k) ∨
  (o = 3 ∧ k < D ∧ m = 42 + 7 * k) ∨ (o = 4 ∧ k < D ∧ m = 44 + 7 * k) ∨ (o = 5 ∧ k < D ∧ m = 45 + 7 * k) ∨ (o = 7 ∧ k < D ∧ m = 47 + 7 * k) ∨
  (o = 3 ∧ 16 ≤ k ∧ k < 16 + F ∧ m = 154 + 6 * (k - 16)) ∨ (o = 4 ∧ 16 ≤ k ∧ k < 16 + F ∧ m = 156 + 6 * (k - 16)) ∨ (o = 5 ∧ 16 ≤ k ∧ k < 16 + F ∧ m = 157 + 6 * (k - 16)) ∨ (o = 7 ∧ 16 ≤ k ∧ k < 16 + F ∧ m = 158 + 6 * (k - 16))
def p_bi (Z D F R o k j m : Nat) : Prop :=
  (o = 0 ∧ k = 8 ∧ j = 22 ∧ m = 6) ∨ (o = 8 ∧ k = 0 ∧ j < Z ∧ m = 12 + 4 * j) ∨ (o = 8 ∧ k = 1 ∧ j < Z ∧ m = 13 + 4 * j) ∨
  (o = 0 ∧ k = 7 ∧ j < D ∧ m = 43 + 7 * j) ∨ (o = 0 ∧ k = 7 ∧ 16 ≤ j ∧ j < 16 + F ∧ m = 155 + 6 * (j - 16)) ∨
  (o = 0 ∧ k = 8 ∧ j < D ∧ m = 48 + 7 * j) ∨ (o = 0 ∧ k = 8 ∧ 16 ≤ j ∧ j < 16 + F ∧ m = 159 + 6 * (j - 16)) ∨ (o = 0 ∧ k = 6 ∧ j < R ∧ m = 190 + j)
def p_pv (x y : Int32) : Prop := (x = 0 ∧ y = -1) ∨ (x = 1 ∧ y = 1) ∨ (x = 2 ∧ y = 0)
-- the log: t events in all, the last n of them kept
def p_lg (s : Nat) (h : sm_H) (q : Nat → Int32) (t n : Nat) : Prop := h (s + 9) 0 = nI t ∧ q 9 = nI n ∧ n = min t 50 ∧ ∀ e, e < n → h (s + 10) ((t - n + e) % 50) = q (200 + 3 * e) ∧ h (s + 11) ((t - n + e) % 50) = q (201 + 3 * e) ∧ h (s + 12) ((t - n + e) % 50) = q (202 + 3 * e)
def p_CT (Z D F R : Nat) : Prop := 1 ≤ Z ∧ Z ≤ 8 ∧ D ≤ 16 ∧ F ≤ 6 ∧ R ≤ 10
def p_ST (Y Z D F R s : Nat) (h : sm_H) (q : Nat → Int32) (t : Nat) : Prop :=
  (∀ o k m, p_eq Y Z D F o k m → h (s + o) k = q m) ∧ (∀ o k j m, p_bi Z D F R o k j m → q m = sm_b2i (sm_bt (h (s + o) k) j)) ∧ (∀ d, d < D → p_pv (h (s + 6) d) (q (46 + 7 * d))) ∧ ∃ n, p_lg s h q t n
theorem p_up_at {h : sm_H} {i k : Nat} {v : Int32} : sm_up h i k v i k = v := by unfold sm_up; rw [if_pos ⟨rfl, rfl⟩]
theorem p_ud_at {q : Nat → Int32} {k : Nat} {v : Int32} : upd q k v k = v := by unfold upd; rw [if_pos rfl]
theorem p_ud_off {q : Nat → Int32} {k j : Nat} {v : Int32} (h : ¬ j = k) : upd q k v j = q j := by unfold upd; rw [if_neg h]
theorem p_lg.set {s : Nat} {h h' : sm_H} {q q' : Nat → Int32} {t n : Nat} (g : p_lg s h q t n) (e0 : h' (s + 9) = h (s + 9)) (e1 : h' (s + 10) = h (s + 10)) (e2 : h' (s + 11) = h (s + 11)) (e3 : h' (s + 12) = h (s + 12)) (e4 : q' 9 = q 9) (e5 : ∀ k, 200 ≤ k → k < 350 → q' k = q k) : p_lg s h' q' t n := by
  obtain ⟨g1, g2, g3, g4⟩ := g
  refine ⟨by rw [e0]; exact g1, by rw [e4]; exact g2, g3, fun e he => ?_⟩
  have := g4 e he
  rw [e1, e2, e3, e5 _ (by omega) (by omega), e5 _ (by omega) (by omega), e5 _ (by omega) (by omega)]
  exact this
-- one cell of either side is set
theorem p_ST.cell {Y Z D F R s t : Nat} {h : sm_H} {q : Nat → Int32} (C : p_CT Z D F R) (hY : Y ≤ Z) (S : p_ST Y Z D F R s h q t) {o k m : Nat} (v : Int32) (e : p_eq Y Z D F o k m) : p_ST Y Z D F R s (sm_up h (s + o) k v) (upd q m v) t := by
  obtain ⟨c1, c2, c3, c4, c5⟩ := C
  obtain ⟨S1, S2, S3, n, S4⟩ := S
  refine ⟨fun o' k' m' e' => ?_, fun o' k' j' m' e' => ?_, fun d hd => ?_, n, ?_⟩
  · by_cases z : m' = m
    · have g : o' = o ∧ k' = k := by
        unfold p_eq at e e'
        omega
      rw [z, g.1, g.2, p_up_at, p_ud_at]
    · have g : ¬ (s + o' = s + o ∧ k' = k) := by
        unfold p_eq at e e'
        omega
      rw [sm_up_off g, p_ud_off z]
      exact S1 _ _ _ e'
  · have g : ¬ (s + o' = s + o ∧ k' = k) ∧ ¬ m' = m := by
      unfold p_eq at e
      unfold p_bi at e'
      omega
    rw [sm_up_off g.1, p_ud_off g.2]
    exact S2 _ _ _ _ e'
  · have g : ¬ (s + 6 = s + o ∧ d = k) ∧ ¬ 46 + 7 * d = m := by
      unfold p_eq at e
      omega
    rw [sm_up_off g.1, p_ud_off g.2]
    exact S3 d hd
  · have g : o < 9 ∧ m ≠ 9 ∧ m < 200 := by
      unfold p_eq at e
      omega
    exact S4.set (sm_up_ne _ _ _ _ _ (by omega)) (sm_up_ne _ _ _ _ _ (by omega)) (sm_up_ne _ _ _ _ _ (by omega)) (sm_up_ne _ _ _ _ _ (by omega)) (p_ud_off (by omega)) (fun k a b => p_ud_off (by omega))
theorem p_ST.bit {Y Z D F R s t : Nat} {h : sm_H} {q : Nat → Int32} (C : p_CT Z D F R) (hY : Y ≤ Z) (S : p_ST Y Z D F R s h q t) {o k j m : Nat} (b : Bool) (e : p_bi Z D F R o k j m) : p_ST Y Z D F R s (sm_up h (s + o) k (sm_wb (h (s + o) k) j b)) (upd q m (sm_b2i b)) t := by
  obtain ⟨c1, c2, c3, c4, c5⟩ := C
  obtain ⟨S1, S2, S3, n, S4⟩ := S
  refine ⟨fun o' k' m' e' => ?_, fun o' k' j' m' e' => ?_, fun d hd => ?_, n, ?_⟩
  · have g : ¬ (s + o' = s + o ∧ k' = k) ∧ ¬ m' = m := by
      unfold p_eq at e'
      unfold p_bi at e
      omega
    rw [sm_up_off g.1, p_ud_off g.2]
    exact S1 _ _ _ e'
  · by_cases z : m' = m
    · have g : o' = o ∧ k' = k ∧ j' = j ∧ j < 32 := by
        unfold p_bi at e e'
        omega
      rw [z, g.1, g.2.1, g.2.2.1, p_up_at, p_ud_at, sm_bt_wb _ _ _ _ g.2.2.2 g.2.2.2, if_pos rfl]
    · rw [p_ud_off z]
      by_cases y : o' = o ∧ k' = k
      · have g : j' ≠ j ∧ j < 32 ∧ j' < 32 := by
          unfold p_bi at e e'
          omega
        have := S2 _ _ _ _ e'
        rw [y.1, y.2] at this ⊢
        rw [p_up_at, sm_bt_wb _ _ _ _ g.2.1 g.2.2, if_neg g.1]
        exact this
      · rw [sm_up_off (by omega)]
        exact S2 _ _ _ _ e'
  · have g : ¬ (s + 6 = s + o ∧ d = k) ∧ ¬ 46 + 7 * d = m := by
      unfold p_bi at e
      omega
    rw [sm_up_off g.1, p_ud_off g.2]
    exact S3 d hd
  · have g : o < 9 ∧ m ≠ 9 ∧ m < 200 := by
      unfold p_bi at e
      omega
    exact S4.set (sm_up_ne _ _ _ _ _ (by omega)) (sm_up_ne _ _ _ _ _ (by omega)) (sm_up_ne _ _ _ _ _ (by omega)) (sm_up_ne _ _ _ _ _ (by omega)) (p_ud_off (by omega)) (fun k a b => p_ud_off (by omega))
theorem p_ST.prev {Y Z D F R s t : Nat} {h : sm_H} {q : Nat → Int32} (C : p_CT Z D F R) (hY : Y ≤ Z) (S : p_ST Y Z D F R s h q t) {k : Nat} (hk : k < D) {v w : Int32} (e : p_pv v w) : p_ST Y Z D F R s (sm_up h (s + 6) k v) (upd q (46 + 7 * k) w) t := by
  obtain ⟨c1, c2, c3, c4, c5⟩ := C
  obtain ⟨S1, S2, S3, n, S4⟩ := S
  refine ⟨fun o' k' m' e' => ?_, fun o' k' j' m' e' => ?_, fun d hd => ?_, n, ?_⟩
  · have g : ¬ (s + o' = s + 6 ∧ k' = k) ∧ ¬ m' = 46 + 7 * k := by
      unfold p_eq at e'
      omega
    rw [sm_up_off g.1, p_ud_off g.2]
    exact S1 _ _ _ e'
  · have g : ¬ (s + o' = s + 6 ∧ k' = k) ∧ ¬ m' = 46 + 7 * k := by
      unfold p_bi at e'
      omega
    rw [sm_up_off g.1, p_ud_off g.2]
    exact S2 _ _ _ _ e'
  · by_cases z : d = k
    · rw [z, p_up_at, p_ud_at]
      exact e
    · rw [sm_up_off (by omega), p_ud_off (by omega)]
      exact S3 d hd
  · exact S4.set (sm_up_ne _ _ _ _ _ (by omega)) (sm_up_ne _ _ _ _ _ (by omega)) (sm_up_ne _ _ _ _ _ (by omega)) (sm_up_ne _ _ _ _ _ (by omega)) (p_ud_off (by omega)) (fun k a b => p_ud_off (by omega))
-- other rows don't matter
theorem p_ST.rows {Y Z D F R s t : Nat} {h h' : sm_H} {q : Nat → Int32} (S : p_ST Y Z D F R s h q t) (e : ∀ o, o ≤ 12 → h' (s + o) = h (s + o)) : p_ST Y Z D F R s h' q t := by
  obtain ⟨S1, S2, S3, n, S4⟩ := S
  refine ⟨fun o k m g => ?_, fun o k j m g => ?_, fun d hd => ?_, n, ?_⟩
  · rw [e o (by unfold p_eq at g; omega)]
    exact S1 _ _ _ g
  · rw [e o (by unfold p_bi at g; omega)]
    exact S2 _ _ _ _ g
  · rw [e 6 (by omega)]
    exact S3 d hd
  · exact S4.set (e 9 (by omega)) (e 10 (by omega)) (e 11 (by omega)) (e 12 (by omega)) rfl (fun _ _ _ => rfl)
