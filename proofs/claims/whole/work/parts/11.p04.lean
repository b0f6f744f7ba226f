/-! what a text gives -/
theorem td1 (X : Int) : X.tdiv (-1) = -X := by
  first
  | (rw [Int.tdiv_neg, Int.tdiv_one]; done)
  | (simp; done)
theorem dv_m1 (x : Int32) : x / (-1) = -x := by
  rw [fa_eq, Int32.toInt_div, show (-1 : Int32).toInt = -1 by decide, td1, Int32.toInt_neg]
theorem rm_m1 (x : Int32) : x - x / (-1) * (-1) = 0 := by
  rw [dv_m1, fa_eq, Int32.toInt_sub, Int32.toInt_mul, Int32.toInt_neg, show (-1 : Int32).toInt = -1 by decide, Int.bmod_mul_bmod, Int.sub_bmod_bmod, show x.toInt - -x.toInt * -1 = 0 by omega]
  decide
/-- the signs that join two -/
def sg (c : Int32) : Prop := c = 37 ∨ c = 38 ∨ c = 42 ∨ c = 43 ∨ c = 45 ∨ c = 47 ∨ c = 60 ∨ c = 61 ∨ c = 62 ∨ c = 124
def jn (c x y : Int32) : Int32 := if c = 37 then (if y = 0 then 0 else x - x / y * y) else if c = 38 then (if x = 0 then 0 else if y = 0 then 0 else 1) else if c = 42 then x * y else if c = 43 then x + y else if c = 45 then x - y else if c = 47 then (if y = 0 then 0 else x / y) else if c = 60 then (if y ≤ x then 0 else 1) else if c = 61 then (if x = y then 1 else 0) else if c = 62 then (if x ≤ y then 0 else 1) else (if x = 0 then (if y = 0 then 0 else 1) else 1)
theorem sg_f {c : Int32} (h : sg c) : -c < -3 ∧ ¬ -c = -33 ∧ - -c = c ∧ ¬ (-3 : Int32) ≤ -c := by
  rcases h with rfl | rfl | rfl | rfl | rfl | rfl | rfl | rfl | rfl | rfl <;> decide
theorem ifb {c : Prop} {_ : Decidable c} {a b : Int32} {K : Int32 → Prop} (h : K (if c then a else b)) : (c → K a) ∧ (¬ c → K b) :=
  ⟨fun q => by rw [if_pos q] at h; exact h, fun q => by rw [if_neg q] at h; exact h⟩
theorem ifb' {c : Prop} {_ : Decidable c} {a b : Int32} {K : Int32 → Prop} (h : K (if c then a else b)) : (¬ c → K b) ∧ (c → K a) := ⟨(ifb h).2, (ifb h).1⟩
theorem jn_6 {c x y : Int32} (hs : sg c) {K : Int32 → Prop} (h : K (jn c x y)) : v_X0_joined c x y K := by
  unfold v_X0_joined
  unfold jn at h
  rcases hs with rfl | rfl | rfl | rfl | rfl | rfl | rfl | rfl | rfl | rfl
  · simp only [b1_0, true_implies, false_implies, not_true_eq_false, not_false_eq_true, and_true, true_and, implies_true, if_true] at h ⊢
    refine ⟨fun q => ⟨q, ?_⟩, fun q => ?_⟩
    · rw [if_neg q] at h; exact h
    · rw [if_pos q] at h; exact h
  · simp only [show ((38 : Int32) = 37) = False by decide, if_false, b1_0, true_implies, false_implies, not_true_eq_false, not_false_eq_true, and_true, true_and, implies_true, if_true] at h ⊢
    refine ⟨fun q => ?_, fun q => ?_⟩
    · rw [if_pos q] at h; exact h
    · rw [if_neg q] at h; exact ifb h
  · simp only [show ((42 : Int32) = 37) = False by decide, show ((42 : Int32) = 38) = False by decide, if_false, b1_0, true_implies, false_implies, not_true_eq_false, not_false_eq_true, and_true, true_and, implies_true, if_true] at h ⊢
    exact h
  · simp only [show ((43 : Int32) = 37) = False by decide, show ((43 : Int32) = 38) = False by decide, show ((43 : Int32) = 42) = False by decide, if_false, b1_0, true_implies, false_implies, not_true_eq_false, not_false_eq_true, and_true, true_and, implies_true, if_true] at h ⊢
    exact h
  · simp only [show ((45 : Int32) = 37) = False by decide, show ((45 : Int32) = 38) = False by decide, show ((45 : Int32) = 42) = False by decide, show ((45 : Int32) = 43) = False by decide, if_false, b1_0, true_implies, false_implies, not_true_eq_false, not_false_eq_true, and_true, true_and, implies_true, if_true] at h ⊢
    exact h
  · simp only [show ((47 : Int32) = 37) = False by decide, show ((47 : Int32) = 38) = False by decide, show ((47 : Int32) = 42) = False by decide, show ((47 : Int32) = 43) = False by decide, show ((47 : Int32) = 45) = False by decide, if_false, b1_0, true_implies, false_implies, not_true_eq_false, not_false_eq_true, and_true, true_and, implies_true, if_true] at h ⊢
    refine ⟨fun q => ⟨q, ?_⟩, fun q => ?_⟩
    · rw [if_neg q] at h; exact h
    · rw [if_pos q] at h; exact h
  · simp only [show ((60 : Int32) = 37) = False by decide, show ((60 : Int32) = 38) = False by decide, show ((60 : Int32) = 42) = False by decide, show ((60 : Int32) = 43) = False by decide, show ((60 : Int32) = 45) = False by decide, show ((60 : Int32) = 47) = False by decide, if_false, b1_0, true_implies, false_implies, not_true_eq_false, not_false_eq_true, and_true, true_and, implies_true, if_true] at h ⊢
    exact ifb h
  · simp only [show ((61 : Int32) = 37) = False by decide, show ((61 : Int32) = 38) = False by decide, show ((61 : Int32) = 42) = False by decide, show ((61 : Int32) = 43) = False by decide, show ((61 : Int32) = 45) = False by decide, show ((61 : Int32) = 47) = False by decide, show ((61 : Int32) = 60) = False by decide, if_false, b1_0, true_implies, false_implies, not_true_eq_false, not_false_eq_true, and_true, true_and, implies_true, if_true] at h ⊢
    exact ifb' h
  · simp only [show ((62 : Int32) = 37) = False by decide, show ((62 : Int32) = 38) = False by decide, show ((62 : Int32) = 42) = False by decide, show ((62 : Int32) = 43) = False by decide, show ((62 : Int32) = 45) = False by decide, show ((62 : Int32) = 47) = False by decide, show ((62 : Int32) = 60) = False by decide, show ((62 : Int32) = 61) = False by decide, if_false, b1_0, true_implies, false_implies, not_true_eq_false, not_false_eq_true, and_true, true_and, implies_true, if_true] at h ⊢
    exact ifb h
  · simp only [show ((124 : Int32) = 37) = False by decide, show ((124 : Int32) = 38) = False by decide, show ((124 : Int32) = 42) = False by decide, show ((124 : Int32) = 43) = False by decide, show ((124 : Int32) = 45) = False by decide, show ((124 : Int32) = 47) = False by decide, show ((124 : Int32) = 60) = False by decide, show ((124 : Int32) = 61) = False by decide, show ((124 : Int32) = 62) = False by decide, if_false, b1_0, true_implies, false_implies, not_true_eq_false, not_false_eq_true, and_true, true_and, implies_true, if_true] at h ⊢
    refine ⟨fun q => ?_, fun q => ?_⟩
    · rw [if_neg q] at h; exact h
    · rw [if_pos q] at h; exact ifb h
theorem jn_7 {c x y : Int32} {K : Int32 → Prop} (h : K (jn c x y)) : v_X7_joined c x y K := by
  unfold v_X7_joined
  unfold jn at h
  by_cases c1 : c = 37
  · simp only [c1, b1_0, true_implies, false_implies, not_true_eq_false, not_false_eq_true, and_true, true_and, implies_true, if_true] at h ⊢
    refine ⟨fun q => ?_, fun q => ⟨fun q2 => ⟨q, ?_⟩, fun q2 => ?_⟩⟩
    · rw [if_pos q] at h; exact h
    · rw [if_neg q] at h; exact h
    · rw [if_neg q, q2, rm_m1] at h; exact h
  by_cases c2 : c = 38
  · simp only [c2, show ((38 : Int32) = 37) = False by decide, b1_0, true_implies, false_implies, not_true_eq_false, not_false_eq_true, and_true, true_and, implies_true, if_true, if_false] at h ⊢
    refine ⟨fun q => ?_, fun q => ?_⟩
    · rw [if_pos q] at h; exact h
    · rw [if_neg q] at h; exact ifb h
  by_cases c3 : c = 42
  · simp only [c3, show ((42 : Int32) = 37) = False by decide, show ((42 : Int32) = 38) = False by decide, if_false, b1_0, true_implies, false_implies, not_true_eq_false, not_false_eq_true, and_true, true_and, implies_true, if_true] at h ⊢
    exact h
  by_cases c4 : c = 43
  · simp only [c4, show ((43 : Int32) = 37) = False by decide, show ((43 : Int32) = 38) = False by decide, show ((43 : Int32) = 42) = False by decide, if_false, b1_0, true_implies, false_implies, not_true_eq_false, not_false_eq_true, and_true, true_and, implies_true, if_true] at h ⊢
    exact h
  by_cases c5 : c = 45
  · simp only [c5, show ((45 : Int32) = 37) = False by decide, show ((45 : Int32) = 38) = False by decide, show ((45 : Int32) = 42) = False by decide, show ((45 : Int32) = 43) = False by decide, if_false, b1_0, true_implies, false_implies, not_true_eq_false, not_false_eq_true, and_true, true_and, implies_true, if_true] at h ⊢
    exact h
  by_cases c6 : c = 47
  · simp only [c6, show ((47 : Int32) = 37) = False by decide, show ((47 : Int32) = 38) = False by decide, show ((47 : Int32) = 42) = False by decide, show ((47 : Int32) = 43) = False by decide, show ((47 : Int32) = 45) = False by decide, if_false, b1_0, true_implies, false_implies, not_true_eq_false, not_false_eq_true, and_true, true_and, implies_true, if_true] at h ⊢
    refine ⟨fun q => ⟨fun q2 => ⟨q, ?_⟩, fun q2 => ?_⟩, fun q => ?_⟩
    · rw [if_neg q] at h; exact h
    · rw [if_neg q, q2, dv_m1] at h; exact h
    · rw [if_pos q] at h; exact h
  by_cases c7 : c = 60
  · simp only [c7, show ((60 : Int32) = 37) = False by decide, show ((60 : Int32) = 38) = False by decide, show ((60 : Int32) = 42) = False by decide, show ((60 : Int32) = 43) = False by decide, show ((60 : Int32) = 45) = False by decide, show ((60 : Int32) = 47) = False by decide, if_false, b1_0, true_implies, false_implies, not_true_eq_false, not_false_eq_true, and_true, true_and, implies_true, if_true] at h ⊢
    exact ifb h
  by_cases c8 : c = 61
  · simp only [c8, show ((61 : Int32) = 37) = False by decide, show ((61 : Int32) = 38) = False by decide, show ((61 : Int32) = 42) = False by decide, show ((61 : Int32) = 43) = False by decide, show ((61 : Int32) = 45) = False by decide, show ((61 : Int32) = 47) = False by decide, show ((61 : Int32) = 60) = False by decide, if_false, b1_0, true_implies, false_implies, not_true_eq_false, not_false_eq_true, and_true, true_and, implies_true, if_true] at h ⊢
    exact ifb' h
  by_cases c9 : c = 62
  · simp only [c9, show ((62 : Int32) = 37) = False by decide, show ((62 : Int32) = 38) = False by decide, show ((62 : Int32) = 42) = False by decide, show ((62 : Int32) = 43) = False by decide, show ((62 : Int32) = 45) = False by decide, show ((62 : Int32) = 47) = False by decide, show ((62 : Int32) = 60) = False by decide, show ((62 : Int32) = 61) = False by decide, if_false, b1_0, true_implies, false_implies, not_true_eq_false, not_false_eq_true, and_true, true_and, implies_true, if_true] at h ⊢
    exact ifb h
  simp only [c1, c2, c3, c4, c5, c6, c7, c8, c9, if_false, b1_0, true_implies, false_implies, not_true_eq_false, not_false_eq_true, and_true, true_and, implies_true] at h ⊢
  refine ⟨fun q => ?_, fun q => ?_⟩
  · rw [if_neg q] at h; exact h
  · rw [if_pos q] at h; exact ifb h
/-- a step of the class and a pair of the twin -/
def na (u i : Nat) : Nat := if u = 0 then (if i = 0 then 114 else if i = 1 then 110 else 115) else (if i = 0 then 103 else if i = 1 then 110 else 100)
def tkn (u : Nat) (s w v : Int32) : Prop := (∃ d : Nat, d < 10000 ∧ s = nI d ∧ w = 0 ∧ v = nI d) ∨ (s = -1 ∧ w = 1 ∧ v = nI (na u 0)) ∨ (s = -2 ∧ w = 1 ∧ v = nI (na u 1)) ∨ (s = -3 ∧ w = 1 ∧ v = nI (na u 2)) ∨ (s = -33 ∧ w = 2) ∨ (∃ c, sg c ∧ s = -c ∧ w = 3 ∧ v = c)
def dp (st : Nat → Int32) : Nat → Nat
  | 0 => 0
  | k + 1 => if (-3 : Int32) ≤ st k then dp st k + 1 else if st k = -33 then dp st k else dp st k - 1
def okst (st : Nat → Int32) (n : Nat) : Prop := (∀ k, k < n → (st k = -33 → 1 ≤ dp st k) ∧ (¬ (-3 : Int32) ≤ st k → ¬ st k = -33 → 2 ≤ dp st k)) ∧ (0 < n → 1 ≤ dp st n)
def nmd (s a b c : Int32) : Int32 := if s = -1 then a else if s = -2 then b else if s = -3 then c else s
def sv (a b c : Int32) (st : Nat → Int32) : Nat → Nat → Int32
  | 0 => fun _ => 0
  | k + 1 => if (-3 : Int32) ≤ st k then upd (sv a b c st k) (dp st k) (nmd (st k) a b c) else if st k = -33 then upd (sv a b c st k) (dp st k - 1) (if sv a b c st k (dp st k - 1) = 0 then 1 else 0) else upd (sv a b c st k) (dp st k - 2) (jn (-(st k)) (sv a b c st k (dp st k - 2)) (sv a b c st k (dp st k - 1)))
def TX (u n : Nat) (st m : Nat → Int32) : Prop := n ≤ 60 ∧ m (48 + 125 * u) = nI n ∧ (∀ k, k < n → tkn u (st k) (m (48 + 125 * u + 1 + 2 * k)) (m (48 + 125 * u + 2 + 2 * k))) ∧ okst st n
/-- what comes out, not yet held -/
def gv (a b c : Int32) (st : Nat → Int32) (n : Nat) : Int32 := if n = 0 then a else sv a b c st n 0
theorem dp_le (st : Nat → Int32) : ∀ k, dp st k ≤ k
  | 0 => Nat.le_refl 0
  | k + 1 => by
    have := dp_le st k
    rw [dp]
    split
    · omega
    · split <;> omega
theorem hd_6 {M v : Int32} {K : Int32 → Prop} (hM : 0 ≤ M.toInt) (h : K (if v < 0 then 0 else if M < v then M else v)) : K (if (0 : Int32) < (if v < M then v else M) then (if v < M then v else M) else 0) := by
  have e0 : (0 : Int32).toInt = 0 := rfl
  have e : (if (0 : Int32) < (if v < M then v else M) then (if v < M then v else M) else 0) = (if v < 0 then 0 else if M < v then M else v) := by
    by_cases a : v < M
    · have b : ¬ M < v := by rw [fa_lt] at a ⊢; omega
      rw [if_pos a, if_neg b]
      by_cases c : v < 0
      · have d : ¬ (0 : Int32) < v := by rw [fa_lt] at c ⊢; omega
        rw [if_pos c, if_neg d]
      · rw [if_neg c]
        by_cases d : (0 : Int32) < v
        · rw [if_pos d]
        · rw [if_neg d, fa_eq]; rw [fa_lt] at c d; omega
    · rw [if_neg a]
      by_cases c : v < 0
      · have d : ¬ (0 : Int32) < M := by rw [fa_lt] at a c ⊢; omega
        rw [if_pos c, if_neg d]
      · rw [if_neg c]
        by_cases b : M < v
        · rw [if_pos b]
          by_cases d : (0 : Int32) < M
          · rw [if_pos d]
          · rw [if_neg d, fa_eq]; rw [fa_lt] at d; omega
        · rw [if_neg b]
          have e1 : M = v := by rw [fa_eq]; rw [fa_lt] at a b; omega
          subst e1
          by_cases d : (0 : Int32) < M
          · rw [if_pos d]
          · rw [if_neg d, fa_eq]; rw [fa_lt] at d; omega
  rw [e]; exact h
theorem hd_7 {M v : Int32} {K : Int32 → Prop} (h : K (if v < 0 then 0 else if M < v then M else v)) : v_X7_held v 0 M K := by
  unfold v_X7_held
  refine ⟨fun q => ⟨fun q2 => ?_, fun q2 => ?_⟩, fun q => ?_⟩
  · rw [if_neg (by rw [fa_le] at q; rw [fa_lt]; omega), if_neg (by rw [fa_le] at q2; rw [fa_lt]; omega)] at h; exact h
  · rw [if_neg (by rw [fa_le] at q; rw [fa_lt]; omega), if_pos (by rw [fa_le] at q2; rw [fa_lt]; omega)] at h; exact h
  · rw [if_pos (by rw [fa_le] at q; rw [fa_lt]; omega)] at h; exact h
