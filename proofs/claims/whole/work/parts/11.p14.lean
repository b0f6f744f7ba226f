/-! odds, heard */ -/
def oc (N p : Nat) (kd em ts : Nat → Int32) (tn : Nat) (near sh : Nat → Int32) (d : Int32) : Nat → Nat
  | 0 => 0
  | k + 1 => if k = p then oc N p kd em ts tn near sh d k else if tk kd em ts tn k (near p) (sh p) d ≤ near p then oc N p kd em ts tn near sh d k else oc N p kd em ts tn near sh d k + 1
theorem oc_le (N p : Nat) (kd em ts : Nat → Int32) (tn : Nat) (near sh : Nat → Int32) (d : Int32) : ∀ k, oc N p kd em ts tn near sh d k ≤ k
  | 0 => Nat.le_refl 0
  | k + 1 => by
    have := oc_le N p kd em ts tn near sh d k
    rw [oc]
    split
    · omega
    · split <;> omega
theorem ct_6 {N p tn : Nat} {d : Int32} {kd em ts m near sh : Nat → Int32} {K : Int32 → (Nat → Int32) → Prop} (hN : N ≤ 8) (hp : p < N) (hT : TX 0 tn ts m) (hK : ∀ st', K (nI (oc N p kd em ts tn near sh d N)) st') (stk : Nat → Int32) : v_X4_countTakenNearer (nI p) (nI N) kd em d near sh 99 (nI tn) ts stk K := by
  unfold v_X4_countTakenNearer
  have hp8 : p < 8 := by omega
  have lo : ∀ e k stk, k + e = N → l_X4_countTakenNearer_4 (nI p) (nI N) kd em d near sh 99 (nI tn) ts K (e + 1) (nI (oc N p kd em ts tn near sh d k)) (nI k) stk := by
    intro e
    induction e with
    | zero =>
      intro k stk hk
      have e : k = N := by omega
      subst e
      rw [l_X4_countTakenNearer_4, br_y (nI_le (Nat.le_refl _) (by omega))]
      exact hK stk
    | succ e ih =>
      intro k stk hk
      have a0 : ¬ nI N ≤ nI k := nI_ge (by omega) (by omega)
      have hk8 : k < 8 := by omega
      have n := fun s => ih (k + 1) s (by omega)
      simp only [oc] at n
      rw [l_X4_countTakenNearer_4, br_n a0]
      unfold j_X4_countTakenNearer_62
      rw [nI_1]
      refine ⟨fun q => ?_, fun q => ?_⟩
      · have q2 : k = p := (nI_eq (by omega) (by omega)).mp q
        have := n stk
        rw [if_pos q2] at this
        exact this
      · have q2 : ¬ k = p := fun z => q (by rw [z])
        rw [vi_8 hp8, true_and, true_and, cl_8 hp8]
        refine tk_6 hk8 hT (fun st' => ?_)
        rw [true_and, nI_1]
        have := n st'
        rw [if_neg q2] at this
        refine ⟨fun w => ?_, fun w => ?_⟩
        · rw [if_pos w] at this; exact this
        · rw [if_neg w] at this; exact this
  exact ⟨N + 1, lo N 0 stk (by omega)⟩
