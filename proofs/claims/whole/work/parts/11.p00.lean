/-! THE PURE LAYER: both sides' answers are one value. Numbers first. -/
theorem fa_lt (a b : Int32) : a < b ↔ a.toInt < b.toInt := Int32.lt_iff_toInt_lt
theorem fa_le (a b : Int32) : a ≤ b ↔ a.toInt ≤ b.toInt := Int32.le_iff_toInt_le
theorem fa_eq (a b : Int32) : a = b ↔ a.toInt = b.toInt := Int32.toInt_inj.symm
theorem fa_lit (n : Nat) : (OfNat.ofNat n : Int32) = nI n := rfl
theorem up_at (f : Nat → Int32) (k : Nat) (x : Int32) (j : Nat) : upd f k x j = if j = k then x else f j := rfl
theorem ti_8 {j : Nat} (h : j < 8) : (nI j).toInt = (j : Int) := nI_toInt (by omega)
theorem cl_8 {j : Nat} (h : j < 8) : (nI j).toNatClampNeg = j := nI_clamp (by omega)
theorem vi_8 {j : Nat} (h : j < 8) : vp_in (nI j) 8 = True := eq_true (vp_in_nI h (by decide))
theorem vi_382 {j : Nat} (h : j < 382) : vp_in (nI j) 382 = True := eq_true (vp_in_nI h (by decide))
theorem cl_382 {j : Nat} (h : j < 382) : (nI j).toNatClampNeg = j := nI_clamp (by omega)
theorem vi_7 {j : Nat} (h : j < 7) : vp_in (nI j) 7 = True := eq_true (vp_in_nI h (by decide))
theorem br_y {c : Prop} (h : c) (A B : Prop) : ((c → A) ∧ (¬ c → B)) = A := by simp [h]
theorem br_n {c : Prop} (h : ¬ c) (A B : Prop) : ((c → A) ∧ (¬ c → B)) = B := by simp [h]
theorem b1_0 : ((1 : Int32) = 0) = False := by decide
theorem b0_0 : ((0 : Int32) = 0) = True := by decide
/-- the answer of a test is 0 -/
theorem rb_0 (A B : Prop) : (((0 : Int32) = 0 → A) ∧ (¬ (0 : Int32) = 0 → B)) = A := by simp
theorem rb_1 (A B : Prop) : (((1 : Int32) = 0 → A) ∧ (¬ (1 : Int32) = 0 → B)) = B := by simp
theorem rb_0' (A B : Prop) : ((¬ (0 : Int32) = 0 → A) ∧ ((0 : Int32) = 0 → B)) = B := by simp
theorem rb_1' (A B : Prop) : ((¬ (1 : Int32) = 0 → A) ∧ ((1 : Int32) = 0 → B)) = A := by simp
/-- outside 0 .. n - 1 -/
def ou (x : Int32) (n : Nat) : Prop := x < 0 ∨ nI n ≤ x
theorem ou_or (x : Int32) {n : Nat} (hn : n < 2 ^ 31) : ou x n ∨ ∃ j : Nat, j < n ∧ x = nI j := by
  rcases pk_ix x hn with h | h | h
  · exact Or.inl (Or.inl h)
  · exact Or.inl (Or.inr h)
  · exact Or.inr h
theorem ou_int {x : Int32} {n : Nat} (hn : n < 2 ^ 31) (h : ou x n) : x.toInt < 0 ∨ (n : Int) ≤ x.toInt := by
  rcases h with h | h
  · exact Or.inl ((fa_lt _ _).mp h)
  · have h2 := (fa_le _ _).mp h
    rw [nI_toInt hn] at h2
    exact Or.inr h2
theorem ou_lt {x : Int32} {n : Nat} (hn : n < 2 ^ 31) (h : x.toInt < 0 ∨ (n : Int) ≤ x.toInt) : ou x n := by
  rcases h with h | h
  · exact Or.inl ((fa_lt _ _).mpr h)
  · exact Or.inr ((fa_le _ _).mpr (by rw [nI_toInt hn]; exact h))
-- a test in two halves
theorem in_no {x a b : Int32} (h : x.toInt < a.toInt ∨ b.toInt < x.toInt) (K : Int32 → Prop) : v_X7_in x a b K = K 0 := by
  unfold v_X7_in
  simp only [fa_lt]
  by_cases h1 : x.toInt < a.toInt
  · simp [h1]
  · have h2 : b.toInt < x.toInt := by omega
    simp [h1, h2]
theorem in_yes {x a b : Int32} (h : a.toInt ≤ x.toInt) (h2 : x.toInt ≤ b.toInt) (K : Int32 → Prop) : v_X7_in x a b K = K 1 := by
  unfold v_X7_in
  simp only [fa_lt]
  have h3 : ¬ x.toInt < a.toInt := by omega
  have h4 : ¬ b.toInt < x.toInt := by omega
  simp [h3, h4]
theorem wi_no {x b : Int32} (h : x.toInt < 0 ∨ b.toInt < x.toInt) (K : Int32 → Prop) : v_X6_isWithin x b K = K 0 := by
  unfold v_X6_isWithin
  simp only [fa_lt]
  have e : (0 : Int32).toInt = 0 := rfl
  rw [e]
  by_cases h1 : x.toInt < 0
  · simp [h1]
  · have h2 : b.toInt < x.toInt := by omega
    simp [h1, h2]
theorem wi_yes {x b : Int32} (h : 0 ≤ x.toInt) (h2 : x.toInt ≤ b.toInt) (K : Int32 → Prop) : v_X6_isWithin x b K = K 1 := by
  unfold v_X6_isWithin
  simp only [fa_lt]
  have e : (0 : Int32).toInt = 0 := rfl
  rw [e]
  have h3 : ¬ x.toInt < 0 := by omega
  have h4 : ¬ b.toInt < x.toInt := by omega
  simp [h3, h4]
/-- within 0 .. M, both sides -/
theorem w_no {x : Int32} (M : Nat) (hM : M < 2147483647) (h : ou x (M + 1)) (K : Int32 → Prop) : v_X6_isWithin x (nI M) K = K 0 := by
  refine wi_no ?_ K
  have := ou_int (by omega) h
  rw [nI_toInt (by omega)]
  omega
theorem w_yes {j : Nat} (M : Nat) (hM : M < 2147483647) (h : j < M + 1) (K : Int32 → Prop) : v_X6_isWithin (nI j) (nI M) K = K 1 := by
  refine wi_yes ?_ ?_ K
  · rw [nI_toInt (by omega)]; omega
  · rw [nI_toInt (by omega), nI_toInt (by omega)]; omega
theorem i_no {x : Int32} (M : Nat) (hM : M < 2147483647) (h : ou x (M + 1)) (K : Int32 → Prop) : v_X7_in x 0 (nI M) K = K 0 := by
  refine in_no ?_ K
  have := ou_int (by omega) h
  have e : (0 : Int32).toInt = 0 := rfl
  rw [nI_toInt (by omega), e]
  omega
theorem i_yes {j : Nat} (M : Nat) (hM : M < 2147483647) (h : j < M + 1) (K : Int32 → Prop) : v_X7_in (nI j) 0 (nI M) K = K 1 := by
  refine in_yes ?_ ?_ K
  · have e : (0 : Int32).toInt = 0 := rfl
    rw [nI_toInt (by omega), e]; omega
  · rw [nI_toInt (by omega), nI_toInt (by omega)]; omega
theorem kd_no {x : Int32} (h : ou x 70) (K : Int32 → Prop) : v_X6_isKind x K = K 0 := w_no 69 (by decide) h K
theorem kd_yes {j : Nat} (h : j < 70) (K : Int32 → Prop) : v_X6_isKind (nI j) K = K 1 := w_yes 69 (by decide) h K
theorem nr_no {x : Int32} (h : ou x 100) (K : Int32 → Prop) : v_X6_isNear x K = K 0 := w_no 99 (by decide) h K
theorem nr_yes {j : Nat} (h : j < 100) (K : Int32 → Prop) : v_X6_isNear (nI j) K = K 1 := w_yes 99 (by decide) h K
theorem sg_no {x : Int32} (h : ou x 10) (K : Int32 → Prop) : v_X6_isSign x K = K 0 := w_no 9 (by decide) h K
theorem sg_yes {j : Nat} (h : j < 10) (K : Int32 → Prop) : v_X6_isSign (nI j) K = K 1 := w_yes 9 (by decide) h K
theorem st_no {x : Int32} (h : ou x 4) (K : Int32 → Prop) : v_X6_isSheet x K = K 0 := w_no 3 (by decide) h K
theorem st_yes {j : Nat} (h : j < 4) (K : Int32 → Prop) : v_X6_isSheet (nI j) K = K 1 := w_yes 3 (by decide) h K
theorem km_no {x : Int32} (h : ou x 70) (K : Int32 → Prop) : v_X7_isKind x K = K 0 := i_no 69 (by decide) h K
theorem km_yes {j : Nat} (h : j < 70) (K : Int32 → Prop) : v_X7_isKind (nI j) K = K 1 := i_yes 69 (by decide) h K
-- who is there
theorem ha_no {x : Int32} {N : Nat} (hN : N ≤ 8) (h : ou x N) (K : Int32 → Prop) : v_X4_has x (nI N) K = K 0 := by
  unfold v_X4_has
  rcases h with h | h
  · simp [h]
  · by_cases h1 : x < 0
    · simp [h1]
    · simp [h1, h]
theorem ha_yes {j N : Nat} (hN : N ≤ 8) (h : j < N) (K : Int32 → Prop) : v_X4_has (nI j) (nI N) K = K 1 := by
  unfold v_X4_has
  have h1 : ¬ nI j < 0 := nI_pos (by omega)
  have h2 : ¬ nI N ≤ nI j := nI_ge h (by omega)
  simp [h1, h2]
theorem c4 : (4 : Int32).toNatClampNeg = 4 := by decide
theorem ip_no {x : Int32} {N : Nat} {m : Nat → Int32} (hN : N ≤ 8) (hm : m 4 = nI N) (h : ou x N) (K : Int32 → Prop) : v_X7_isPerson x m K = K 0 := by
  unfold v_X7_isPerson
  rw [show vp_in (4 : Int32) 382 = True from vi_382 (j := 4) (by decide), true_and, c4, hm]
  refine in_no ?_ _
  have h2 := ou_int (by omega) h
  have e : (0 : Int32).toInt = 0 := rfl
  have e1 : (nI N - 1).toInt = (N : Int) - 1 := pk_sub_toInt (b := 1) (by omega) (by decide)
  rw [e, e1]
  omega
theorem ip_yes {j N : Nat} {m : Nat → Int32} (hN : N ≤ 8) (hm : m 4 = nI N) (h : j < N) (K : Int32 → Prop) : v_X7_isPerson (nI j) m K = K 1 := by
  unfold v_X7_isPerson
  rw [show vp_in (4 : Int32) 382 = True from vi_382 (j := 4) (by decide), true_and, c4, hm]
  have e : (0 : Int32).toInt = 0 := rfl
  have e1 : (nI N - 1).toInt = (N : Int) - 1 := pk_sub_toInt (b := 1) (by omega) (by decide)
  refine in_yes ?_ ?_ _
  · rw [e, nI_toInt (by omega)]; omega
  · rw [e1, nI_toInt (by omega)]; omega
-- a person's cells
theorem ix_p {j : Nat} (c : Nat) : (((8 : Int32) + ((5 : Int32) * nI j)) + nI c) = nI (8 + 5 * j + c) := by
  rw [show (8 : Int32) = nI 8 from rfl, show (5 : Int32) = nI 5 from rfl, pk_mul, nI_add, nI_add]
theorem it_c {j : Nat} (c : Nat) (hj : j < 8) (hc : c < 5) (m : Nat → Int32) (K : Int32 → Prop) : v_X7_its (nI j) (nI c) m K = K (m (8 + 5 * j + c)) := by
  unfold v_X7_its
  rw [ix_p, vi_382 (by omega), cl_382 (by omega), true_and]
theorem it_0 {j : Nat} (hj : j < 8) (m : Nat → Int32) (K : Int32 → Prop) : v_X7_its (nI j) 0 m K = K (m (8 + 5 * j + 0)) := it_c 0 hj (by decide) m K
theorem it_1 {j : Nat} (hj : j < 8) (m : Nat → Int32) (K : Int32 → Prop) : v_X7_its (nI j) 1 m K = K (m (8 + 5 * j + 1)) := it_c 1 hj (by decide) m K
theorem it_2 {j : Nat} (hj : j < 8) (m : Nat → Int32) (K : Int32 → Prop) : v_X7_its (nI j) 2 m K = K (m (8 + 5 * j + 2)) := it_c 2 hj (by decide) m K
theorem it_3 {j : Nat} (hj : j < 8) (m : Nat → Int32) (K : Int32 → Prop) : v_X7_its (nI j) 3 m K = K (m (8 + 5 * j + 3)) := it_c 3 hj (by decide) m K
theorem it_4 {j : Nat} (hj : j < 8) (m : Nat → Int32) (K : Int32 → Prop) : v_X7_its (nI j) 4 m K = K (m (8 + 5 * j + 4)) := it_c 4 hj (by decide) m K
theorem ly_c {j : Nat} (c : Nat) (hj : j < 8) (hc : c < 5) (v : Int32) (m : Nat → Int32) (K : (Nat → Int32) → Prop) : v_X7_lays1 (nI j) (nI c) v m K = K (upd m (8 + 5 * j + c) v) := by
  unfold v_X7_lays1
  rw [ix_p, vi_382 (by omega), cl_382 (by omega), true_and]
theorem ly_0 {j : Nat} (hj : j < 8) (v : Int32) (m : Nat → Int32) (K : (Nat → Int32) → Prop) : v_X7_lays1 (nI j) 0 v m K = K (upd m (8 + 5 * j + 0) v) := ly_c 0 hj (by decide) v m K
theorem ly_1 {j : Nat} (hj : j < 8) (v : Int32) (m : Nat → Int32) (K : (Nat → Int32) → Prop) : v_X7_lays1 (nI j) 1 v m K = K (upd m (8 + 5 * j + 1) v) := ly_c 1 hj (by decide) v m K
theorem ly_2 {j : Nat} (hj : j < 8) (v : Int32) (m : Nat → Int32) (K : (Nat → Int32) → Prop) : v_X7_lays1 (nI j) 2 v m K = K (upd m (8 + 5 * j + 2) v) := ly_c 2 hj (by decide) v m K
theorem ly_3 {j : Nat} (hj : j < 8) (v : Int32) (m : Nat → Int32) (K : (Nat → Int32) → Prop) : v_X7_lays1 (nI j) 3 v m K = K (upd m (8 + 5 * j + 3) v) := ly_c 3 hj (by decide) v m K
theorem ly_4 {j : Nat} (hj : j < 8) (v : Int32) (m : Nat → Int32) (K : (Nat → Int32) → Prop) : v_X7_lays1 (nI j) 4 v m K = K (upd m (8 + 5 * j + 4) v) := ly_c 4 hj (by decide) v m K
theorem ch_c {j : Nat} (c : Nat) (hj : j < 8) (hc : c < 5) (v : Int32) (m : Nat → Int32) (K : Int32 → (Nat → Int32) → Prop) : v_X7_change1 (((8 : Int32) + ((5 : Int32) * nI j)) + nI c) v m K = K (m (8 + 5 * j + c)) (upd m (8 + 5 * j + c) v) := by
  unfold v_X7_change1
  rw [ix_p, vi_382 (by omega), cl_382 (by omega), true_and, true_and]
theorem ch_0 {j : Nat} (hj : j < 8) (v : Int32) (m : Nat → Int32) (K : Int32 → (Nat → Int32) → Prop) : v_X7_change1 (((8 : Int32) + ((5 : Int32) * nI j)) + 0) v m K = K (m (8 + 5 * j + 0)) (upd m (8 + 5 * j + 0) v) := ch_c 0 hj (by decide) v m K
theorem ch_2 {j : Nat} (hj : j < 8) (v : Int32) (m : Nat → Int32) (K : Int32 → (Nat → Int32) → Prop) : v_X7_change1 (((8 : Int32) + ((5 : Int32) * nI j)) + 2) v m K = K (m (8 + 5 * j + 2)) (upd m (8 + 5 * j + 2) v) := ch_c 2 hj (by decide) v m K
theorem ch_3 {j : Nat} (hj : j < 8) (v : Int32) (m : Nat → Int32) (K : Int32 → (Nat → Int32) → Prop) : v_X7_change1 (((8 : Int32) + ((5 : Int32) * nI j)) + 3) v m K = K (m (8 + 5 * j + 3)) (upd m (8 + 5 * j + 3) v) := ch_c 3 hj (by decide) v m K
-- errors
theorem er_6 (k : Nat) (h1 : 1 ≤ k) (h2 : k ≤ 6) (errs : Nat → Int32) (K : Int32 → (Nat → Int32) → Prop) : v_X6_error (nI k) errs K = K ((-1000000000 : Int32) - nI k) (upd errs k (errs k + 1)) := by
  unfold v_X6_error
  have a1 : ¬ nI k < 1 := by
    rw [fa_lt, nI_toInt (by omega), show (1 : Int32).toInt = 1 from rfl]; omega
  have a2 : ¬ (6 : Int32) < nI k := by
    rw [fa_lt, nI_toInt (by omega), show (6 : Int32).toInt = 6 from rfl]; omega
  rw [br_n a1, br_n a2, vi_7 (by omega), true_and, true_and, nI_clamp (by omega)]
theorem er_7 (k : Nat) (h2 : k ≤ 6) (errs : Nat → Int32) (K : Int32 → (Nat → Int32) → Prop) : v_X7_error (nI k) errs K = K ((-1000000000 : Int32) - nI k) (upd errs k (errs k + 1)) := by
  unfold v_X7_error
  rw [vi_7 (by omega), true_and, true_and, nI_clamp (by omega)]
