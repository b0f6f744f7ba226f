/-! heard -/
theorem tb_d (S q : Nat) : S.testBit q = true ↔ S / 2 ^ q % 2 = 1 := by
  rw [Nat.testBit_eq_decide_div_mod_eq, decide_eq_true_iff]
/-- what is in it keeps in it whom it called on -/
def clo (N : Nat) (c : Nat → Nat) (S : Nat) : Prop := ∀ q, q < N → S.testBit q = true → c q ||| S = S
def ins (a b : Nat) : Prop := a ||| b = b
theorem ins_b {a b : Nat} : ins a b ↔ ∀ i, a.testBit i = true → b.testBit i = true := by
  unfold ins
  constructor
  · intro h i hi
    have := congrArg (fun z => z.testBit i) h
    simp only [Nat.testBit_or, hi, Bool.true_or] at this
    exact this.symm
  · intro h
    apply Nat.eq_of_testBit_eq
    intro i
    rw [Nat.testBit_or]
    cases e : a.testBit i
    · simp
    · simp [h i e]
theorem ins_anti {a b : Nat} (h : ins a b) (h2 : ins b a) : a = b := by
  unfold ins at h h2
  rw [Nat.or_comm] at h2
  exact h2.symm.trans h
