/-! odds, heard */ -/
def oc (N p : Nat) (kd em ts : Nat → Int32) (tn : Nat) (near sh : Nat → Int32) (d : Int32) : Nat → Nat
  | 0 => 0
  | k + 1 => if k = p then oc N p kd em ts tn near sh d k else if tk kd em ts tn k (near p) (sh p) d ≤ near p then oc N p kd em ts tn near sh d k else oc N p kd em ts tn near sh d k + 1
theorem oc_le (N p : Nat) (kd em ts : Nat → Int32) (tn : Nat) (near sh : Nat → Int32) (d : Int32) : ∀ k, oc N p kd em ts tn near sh d k ≤ k
  | 0 => Nat.le_refl 0
  | k + 1 => by
    have := oc_le N p kd em ts tn near sh d k
    rw [oc]
    split
    · omega
    · split <;> omega
theorem ct_6 {N p tn : Nat} {d : Int32} {kd em ts m near sh : Nat → Int32} {K : Int32 → (Nat → Int32) → Prop} (hN : N ≤ 8) (hp : p < N) (hT : TX 0 tn ts m) (hK : ∀ st', K (nI (oc N p kd em ts tn near sh d N)) st') (stk : Nat → Int32) : v_X4_countTakenNearer (nI p) (nI N) kd em d near sh 99 (nI tn) ts stk K := by
  unfold v_X4_countTakenNearer
  have hp8 : p < 8 := by omega
  have lo : ∀ e k stk, k + e = N → l_X4_countTakenNearer_4 (nI p) (nI N) kd em d near sh 99 (nI tn) ts K (e + 1) (nI (oc N p kd em ts tn near sh d k)) (nI k) stk := by
    intro e
    induction e with
    | zero =>
      intro k stk hk
      have e : k = N := by omega
      subst e
      rw [l_X4_countTakenNearer_4, br_y (nI_le (Nat.le_refl _) (by omega))]
      exact hK stk
    | succ e ih =>
      intro k stk hk
      have a0 : ¬ nI N ≤ nI k := nI_ge (by omega) (by omega)
      have hk8 : k < 8 := by omega
      have n := fun s => ih (k + 1) s (by omega)
      simp only [oc] at n
      rw [l_X4_countTakenNearer_4, br_n a0]
      unfold j_X4_countTakenNearer_62
      rw [nI_1]
      refine ⟨fun q => ?_, fun q => ?_⟩
      · have q2 : k = p := (nI_eq (by omega) (by omega)).mp q
        have := n stk
        rw [if_pos q2] at this
        exact this
      · have q2 : ¬ k = p := fun z => q (by rw [z])
        rw [vi_8 hp8, true_and, true_and, cl_8 hp8]
        refine tk_6 hk8 hT (fun st' => ?_)
        rw [true_and, nI_1]
        have := n st'
        rw [if_neg q2] at this
        refine ⟨fun w => ?_, fun w => ?_⟩
        · rw [if_pos w] at this; exact this
        · rw [if_neg w] at this; exact this
  exact ⟨N + 1, lo N 0 stk (by omega)⟩
def gx : Nat → Nat → Nat → Nat
  | 0, a, _ => a
  | f + 1, a, b => if b = 0 then a else gx f b (a % b)
theorem gx_0 : ∀ f a, gx f a 0 = a
  | 0, _ => rfl
  | f + 1, a => if_pos rfl
theorem gx_in : ∀ f a b, b ≤ f → a ≤ 8 → b ≤ 8 → (0 < a ∨ 0 < b) → 0 < gx f a b ∧ gx f a b ≤ 8
  | 0, a, b, h, ha, hb, hp => by
    rw [gx]; omega
  | f + 1, a, b, h, ha, hb, hp => by
    rw [gx]
    by_cases c : b = 0
    · rw [if_pos c]; omega
    · rw [if_neg c]
      have := Nat.mod_lt a (show 0 < b by omega)
      exact gx_in f b (a % b) (by omega) hb (by omega) (Or.inl (by omega))
theorem gc_6 {p1 p2 : Int32} {K : Int32 → Prop} : ∀ f a b t, b ≤ f → a ≤ 8 → b ≤ 8 → t + f < 64 → K (nI (gx f a b)) → l_X6_commonDivisor_7 p1 p2 K (f + 1) (nI a) (nI b) (nI t) := by
  intro f
  induction f with
  | zero =>
    intro a b t h ha hb ht hK
    have e : b = 0 := by omega
    subst e
    rw [l_X6_commonDivisor_7, br_n (show ¬ (64 : Int32) ≤ nI t from nI_ge (b := 64) (by omega) (by decide)), br_y (show nI 0 ≤ 0 by decide)]
    exact hK
  | succ f ih =>
    intro a b t h ha hb ht hK
    have a0 : ¬ (64 : Int32) ≤ nI t := nI_ge (b := 64) (by omega) (by decide)
    rw [l_X6_commonDivisor_7, br_n a0]
    by_cases c : b = 0
    · subst c
      rw [br_y (show nI 0 ≤ 0 by decide)]
      rw [gx_0] at hK; exact hK
    · have c1 : ¬ nI b ≤ 0 := nI_nle (by omega) (by omega)
      have c2 : ¬ nI b = 0 := nI_ne0 (by omega) (by omega)
      have md := Nat.mod_lt a (show 0 < b by omega)
      rw [br_n c1, pk_rem (by omega) (by omega) (by omega), nI_1]
      rw [gx, if_neg c] at hK
      exact ⟨c2, ih b (a % b) (t + 1) (by omega) hb (by omega) (by omega) hK⟩
theorem gc_7 {p1 p2 : Int32} {K : Int32 → Prop} : ∀ f a b, b ≤ f → a ≤ 8 → b ≤ 8 → K (nI (gx f a b)) → l_X7_divisor_4 p1 p2 K (f + 1) (nI a) (nI b) := by
  intro f
  induction f with
  | zero =>
    intro a b h ha hb hK
    have e : b = 0 := by omega
    subst e
    rw [l_X7_divisor_4, br_y (show nI 0 = 0 from rfl)]
    exact hK
  | succ f ih =>
    intro a b h ha hb hK
    rw [l_X7_divisor_4]
    by_cases c : b = 0
    · subst c
      rw [br_y (show nI 0 = 0 from rfl)]
      rw [gx_0] at hK; exact hK
    · have c2 : ¬ nI b = 0 := nI_ne0 (by omega) (by omega)
      have md := Nat.mod_lt a (show 0 < b by omega)
      rw [br_n c2, pk_rem (by omega) (by omega) (by omega)]
      rw [gx, if_neg c] at hK
      exact ⟨c2, ih b (a % b) (by omega) hb (by omega) hK⟩
