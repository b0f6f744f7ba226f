/-! heard -/
theorem tb_d (S q : Nat) : S.testBit q = true ↔ S / 2 ^ q % 2 = 1 := by
  rw [Nat.testBit_eq_decide_div_mod_eq, decide_eq_true_iff]
/-- what is in it keeps in it whom it called on -/
def clo (N : Nat) (c : Nat → Nat) (S : Nat) : Prop := ∀ q, q < N → S.testBit q = true → c q ||| S = S
def ins (a b : Nat) : Prop := a ||| b = b
theorem ins_b {a b : Nat} : ins a b ↔ ∀ i, a.testBit i = true → b.testBit i = true := by
  unfold ins
  constructor
  · intro h i hi
    have := congrArg (fun z => z.testBit i) h
    simp only [Nat.testBit_or, hi, Bool.true_or] at this
    exact this.symm
  · intro h
    apply Nat.eq_of_testBit_eq
    intro i
    rw [Nat.testBit_or]
    cases e : a.testBit i
    · simp
    · simp [h i e]
theorem ins_anti {a b : Nat} (h : ins a b) (h2 : ins b a) : a = b := by
  unfold ins at h h2
  rw [Nat.or_comm] at h2
  exact h2.symm.trans h
theorem ins_r (a : Nat) : ins a a := by unfold ins; exact Nat.or_self a
theorem ins_t {a b c : Nat} (h : ins a b) (h2 : ins b c) : ins a c := ins_b.mpr fun i hi => ins_b.mp h2 i (ins_b.mp h i hi)
theorem ins_l (a b : Nat) : ins a (a ||| b) := ins_b.mpr fun i hi => by rw [Nat.testBit_or, hi, Bool.true_or]
theorem ins_g (a b : Nat) : ins b (a ||| b) := ins_b.mpr fun i hi => by rw [Nat.testBit_or, hi, Bool.or_true]
theorem ins_u {a b c : Nat} (h : ins a c) (h2 : ins b c) : ins (a ||| b) c := ins_b.mpr fun i hi => by
  rw [Nat.testBit_or, Bool.or_eq_true] at hi
  exact hi.elim (ins_b.mp h i) (ins_b.mp h2 i)
theorem ins_le {a b : Nat} (h : ins a b) : a ≤ b := by
  unfold ins at h
  rw [← h]; exact Nat.left_le_or
def hs_ (q S : Nat) : Prop := S / 2 ^ q % 2 = 1
theorem hs_b {q S : Nat} : hs_ q S ↔ S.testBit q = true := (tb_d S q).symm
theorem ins_h {a b q : Nat} (h : ins a b) (hq : hs_ q a) : hs_ q b := hs_b.mpr (ins_b.mp h q (hs_b.mp hq))
def cl_o (N : Nat) (c : Nat → Nat) (S : Nat) : Prop := ∀ q, q < N → hs_ q S → ins (c q) S
/-- a round of the class -/
def rn (c : Nat → Nat) (S : Nat) : Nat → Nat
  | 0 => S
  | k + 1 => if rn c S k / 2 ^ k % 2 = 0 then rn c S k else rn c S k ||| c k
theorem or_2 {a b : Nat} (ha : a < 256) (hb : b < 256) : a ||| b < 256 := Nat.or_lt_two_pow (n := 8) ha hb
theorem rn_lt {N : Nat} {c : Nat → Nat} (hN : N ≤ 8) (hc : ∀ j, j < 8 → c j < 256) {S : Nat} (hS : S < 256) : ∀ k, k ≤ N → rn c S k < 256
  | 0, _ => hS
  | k + 1, h => by
    have ih := rn_lt hN hc hS k (by omega)
    rw [rn]
    split
    · exact ih
    · exact or_2 ih (hc k (by omega))
theorem rn_up (c : Nat → Nat) (S k : Nat) : ins (rn c S k) (rn c S (k + 1)) := by
  rw [rn]
  split
  · exact ins_r _
  · exact ins_l _ _
theorem rn_le (c : Nat → Nat) (S j : Nat) : ∀ e, ins (rn c S j) (rn c S (j + e))
  | 0 => ins_r _
  | e + 1 => ins_t (rn_le c S j e) (rn_up c S (j + e))
theorem rn_cl {N : Nat} (c : Nat → Nat) (S : Nat) {q : Nat} (hq : q < N) (h : hs_ q S) : ins (c q) (rn c S N) := by
  have h1 : ins S (rn c S q) := by have := rn_le c S 0 q; rw [Nat.zero_add] at this; exact this
  have h2 := ins_h h1 h
  have h3 : ins (c q) (rn c S (q + 1)) := by
    rw [rn, if_neg (by unfold hs_ at h2; omega)]
    exact ins_g _ _
  have h4 := rn_le c S (q + 1) (N - (q + 1))
  rw [show q + 1 + (N - (q + 1)) = N by omega] at h4
  exact ins_t h3 h4
theorem rn_mi {N : Nat} {c : Nat → Nat} {S T : Nat} (hT : cl_o N c T) (h : ins S T) : ∀ k, k ≤ N → ins (rn c S k) T
  | 0, _ => h
  | k + 1, hk => by
    have ih := rn_mi hT h k (by omega)
    rw [rn]
    split
    · exact ih
    · exact ins_u ih (hT k (by omega) (ins_h ih (by unfold hs_; omega)))
/-- how many of the low bits -/
def cb (S : Nat) : Nat → Nat
  | 0 => 0
  | k + 1 => cb S k + S / 2 ^ k % 2
theorem cb_k (S : Nat) : ∀ k, cb S k ≤ k
  | 0 => Nat.le_refl _
  | k + 1 => by have := cb_k S k; rw [cb]; omega
theorem cb_1 {S q : Nat} (h : hs_ q S) : ∀ k, q < k → 1 ≤ cb S k
  | 0, h2 => absurd h2 (Nat.not_lt_zero _)
  | k + 1, h2 => by
    rw [cb]
    by_cases e : q = k
    · subst e; unfold hs_ at h; omega
    · have := cb_1 h k (by omega); omega
theorem cb_m {S T : Nat} (h : ins S T) : ∀ k, cb S k ≤ cb T k ∧ (cb S k = cb T k → ∀ q, q < k → hs_ q T → hs_ q S)
  | 0 => ⟨Nat.le_refl _, fun _ q hq => absurd hq (Nat.not_lt_zero _)⟩
  | k + 1 => by
    obtain ⟨a, b⟩ := cb_m h k
    have e : S / 2 ^ k % 2 ≤ T / 2 ^ k % 2 := by
      by_cases w : S / 2 ^ k % 2 = 1
      · have := ins_h h w
        unfold hs_ at this; omega
      · omega
    rw [cb, cb]
    refine ⟨by omega, fun g q hq hh => ?_⟩
    by_cases y : q = k
    · subst y; unfold hs_ at hh ⊢; omega
    · exact b (by omega) q (by omega) hh
def rr (N : Nat) (c : Nat → Nat) (S : Nat) : Nat → Nat
  | 0 => S
  | r + 1 => rn c (rr N c S r) N
theorem rr_lt {N : Nat} {c : Nat → Nat} (hN : N ≤ 8) (hc : ∀ j, j < 8 → c j < 256) {S : Nat} (hS : S < 256) : ∀ r, rr N c S r < 256
  | 0 => hS
  | r + 1 => rn_lt hN hc (rr_lt hN hc hS r) N (Nat.le_refl _)
theorem rr_up (N : Nat) (c : Nat → Nat) (S : Nat) : ∀ r, ins S (rr N c S r)
  | 0 => ins_r _
  | r + 1 => by
    have h := rn_le c (rr N c S r) 0 N
    rw [Nat.zero_add] at h
    exact ins_t (rr_up N c S r) h
theorem rr_mi {N : Nat} {c : Nat → Nat} {S T : Nat} (hT : cl_o N c T) (h : ins S T) : ∀ r, ins (rr N c S r) T
  | 0 => h
  | r + 1 => rn_mi hT (rr_mi hT h r) N (Nat.le_refl _)
theorem rr_co {N : Nat} {c : Nat → Nat} {S p : Nat} (hp : p < N) (hS : hs_ p S) : ∀ r, cl_o N c (rr N c S r) ∨ r + 1 ≤ cb (rr N c S r) N
  | 0 => Or.inr (cb_1 hS N hp)
  | r + 1 => by
    have up : ins (rr N c S r) (rn c (rr N c S r) N) := by
      have h := rn_le c (rr N c S r) 0 N
      rw [Nat.zero_add] at h; exact h
    rcases rr_co (c := c) hp hS r with h | h
    · refine Or.inl ?_
      have e : rr N c S (r + 1) = rr N c S r := ins_anti (rn_mi h (ins_r _) N (Nat.le_refl _)) up
      rw [e]; exact h
    · obtain ⟨a, b⟩ := cb_m up N
      by_cases w : cb (rr N c S r) N = cb (rn c (rr N c S r) N) N
      · exact Or.inl fun q hq hh => rn_cl c _ hq (b w q hq hh)
      · refine Or.inr ?_
        rw [rr]; omega
theorem rr_cl {N : Nat} {c : Nat → Nat} {S p : Nat} (hp : p < N) (hS : hs_ p S) : cl_o N c (rr N c S N) := by
  rcases rr_co (c := c) hp hS N with h | h
  · exact h
  · have := cb_k (rr N c S N) N; omega
theorem co_6 {N p : Nat} (hN : N ≤ 8) (hp : p < N) {c : Nat → Nat} {ca : Nat → Int32} (hc : ∀ j, j < 8 → c j < 256 ∧ ca j = nI (c j)) {K : Int32 → Prop} (hK : K (nI (rr N c (2 ^ p) N))) : v_X4_comeToFrom (nI p) (nI N) ca K := by
  unfold v_X4_comeToFrom
  have hc1 := fun j hj => (hc j hj).1
  have h2p : 2 ^ p < 256 := Nat.pow_lt_pow_right (a := 2) (m := p) (n := 8) (by decide) (by omega)
  have lo : ∀ e r, r + e = N → l_X4_comeToFrom_6 (nI p) (nI N) ca K (e + 1) (nI (rr N c (2 ^ p) r)) (nI r) := by
    intro e
    induction e with
    | zero =>
      intro r hr
      have e : r = N := by omega
      subst e
      rw [l_X4_comeToFrom_6, br_y (nI_le (Nat.le_refl _) (by omega))]
      exact hK
    | succ e ih =>
      intro r hr
      have a0 : ¬ nI N ≤ nI r := nI_ge (by omega) (by omega)
      have n := ih (r + 1) (by omega)
      rw [l_X4_comeToFrom_6, br_n a0]
      have hS := rr_lt hN hc1 h2p r
      have lo2 : ∀ e2 k, k + e2 = N → l_X4_comeToFrom_17 (nI p) (nI N) ca (fun x2' x3' => l_X4_comeToFrom_6 (nI p) (nI N) ca K (e + 1) x2' x3') K (e2 + 1) (nI (rn c (rr N c (2 ^ p) r) k)) (nI r) (nI k) := by
        intro e2
        induction e2 with
        | zero =>
          intro k hk
          have e : k = N := by omega
          subst e
          rw [l_X4_comeToFrom_17, br_y (nI_le (Nat.le_refl _) (by omega)), nI_1]
          exact n
        | succ e2 ih2 =>
          intro k hk
          have b0 : ¬ nI N ≤ nI k := nI_ge (by omega) (by omega)
          have hk8 : k < 8 := by omega
          have n2 := ih2 (k + 1) (by omega)
          have hl := rn_lt hN hc1 hS k (by omega)
          rw [rn] at n2
          rw [l_X4_comeToFrom_17, br_n b0, bt_e hl hk8]
          simp only [j_X4_comeToFrom_45, nI_1, vi_8 hk8, cl_8 hk8, (hc k hk8).2, fa_or, true_and]
          refine ⟨fun w => ?_, fun w => ?_⟩
          · have w2 : rn c (rr N c (2 ^ p) r) k / 2 ^ k % 2 = 0 := (nI_eq (b := 0) (by omega) (by decide)).mp w
            rw [if_pos w2] at n2; exact n2
          · have w2 : ¬ rn c (rr N c (2 ^ p) r) k / 2 ^ k % 2 = 0 := fun z => w (by rw [z]; rfl)
            rw [if_neg w2] at n2; exact n2
      exact ⟨N + 1, lo2 N 0 (by omega)⟩
  rw [sh_1 p (by omega)]
  exact ⟨N + 1, lo N 0 (by omega)⟩
-- the twin's
def tw (c : Nat → Nat) (S : Nat) : Nat → Nat
  | 0 => S
  | k + 1 => if S / 2 ^ k % 2 = 1 then tw c S k ||| c k else tw c S k
theorem tw_lt {N : Nat} {c : Nat → Nat} (hN : N ≤ 8) (hc : ∀ j, j < 8 → c j < 256) {S : Nat} (hS : S < 256) : ∀ k, k ≤ N → tw c S k < 256
  | 0, _ => hS
  | k + 1, h => by
    have ih := tw_lt hN hc hS k (by omega)
    rw [tw]
    split
    · exact or_2 ih (hc k (by omega))
    · exact ih
theorem tw_up (c : Nat → Nat) (S k : Nat) : ins (tw c S k) (tw c S (k + 1)) := by
  rw [tw]
  split
  · exact ins_l _ _
  · exact ins_r _
theorem tw_le (c : Nat → Nat) (S j : Nat) : ∀ e, ins (tw c S j) (tw c S (j + e))
  | 0 => ins_r _
  | e + 1 => ins_t (tw_le c S j e) (tw_up c S (j + e))
theorem tw_cl {N : Nat} (c : Nat → Nat) (S : Nat) {q : Nat} (hq : q < N) (h : hs_ q S) : ins (c q) (tw c S N) := by
  have h3 : ins (c q) (tw c S (q + 1)) := by
    rw [tw, if_pos (show S / 2 ^ q % 2 = 1 from h)]
    exact ins_g _ _
  have h4 := tw_le c S (q + 1) (N - (q + 1))
  rw [show q + 1 + (N - (q + 1)) = N by omega] at h4
  exact ins_t h3 h4
theorem tw_mi {N : Nat} {c : Nat → Nat} {S T : Nat} (hT : cl_o N c T) (h : ins S T) : ∀ k, k ≤ N → ins (tw c S k) T
  | 0, _ => h
  | k + 1, hk => by
    have ih := tw_mi hT h k (by omega)
    rw [tw]
    split
    · rename_i w
      exact ins_u ih (hT k (by omega) (ins_h h w))
    · exact ih
theorem he_7 {N p : Nat} {x : Int32} (hN : N ≤ 8) {c : Nat → Nat} {kd em ca near sh m me : Nat → Int32} (h : RP N kd em ca near sh m) (hc : ∀ j, j < 8 → c j < 256 ∧ ca j = nI (c j)) {K : Int32 → (Nat → Int32) → Prop}
    (hK : ∀ S, S < 256 → cl_o N c S → ins (2 ^ p) S → (∀ T, cl_o N c T → ins (2 ^ p) T → ins S T) → K (nI S) me) :
    ∀ e S W, S < 256 → W < 256 → 256 ≤ S + e → (S = W → cl_o N c S) → ins (2 ^ p) S → (∀ T, cl_o N c T → ins (2 ^ p) T → ins S T) → l_X7_heard_20 x m K (e + 2) (nI S) (nI W) me := by
  have hc1 := fun j hj => (hc j hj).1
  intro e
  induction e with
  | zero => intro S W h1 _ h2; omega
  | succ e ih =>
    intro S W h1 hW h2 h3 h4 h5
    rw [l_X7_heard_20]
    refine ⟨fun w => ?_, fun w => ?_⟩
    · exact hK S h1 (h3 ((nI_eq (by omega) (by omega)).mp w).symm) h4 h5
    · have up : ins S (tw c S N) := by have := tw_le c S 0 N; rw [Nat.zero_add] at this; exact this
      have hl := tw_lt hN hc1 h1 N (Nat.le_refl _)
      have nx : l_X7_heard_20 x m K (e + 2) (nI (tw c S N)) (nI S) me := by
        by_cases g : tw c S N = S
        · rw [g, l_X7_heard_20]
          have cl : cl_o N c S := fun q hq hh => by have := tw_cl (N := N) c S hq hh; rw [g] at this; exact this
          exact ⟨fun _ => hK S h1 cl h4 h5, fun q => absurd rfl q⟩
        · have := ins_le up
          exact ih _ S hl h1 (by omega) (fun z => absurd z g) (ins_t h4 up) (fun T t1 t2 => tw_mi t1 (h5 T t1 t2) N (Nat.le_refl _))
      have lo : ∀ e2 k, k + e2 = N → l_X7_heard_30 x m (fun x2' x3' m_errors' => l_X7_heard_20 x m K (e + 2) x2' x3' m_errors') K (e2 + 1) (nI (tw c S k)) (nI S) (nI k) me := by
        intro e2
        induction e2 with
        | zero =>
          intro k hk
          have e : k = N := by omega
          subst e
          rw [l_X7_heard_30, v4_, true_and, c4, h.1, br_y (nI_le (Nat.le_refl _) (by omega))]
          exact nx
        | succ e2 ih2 =>
          intro k hk
          have b0 : ¬ nI N ≤ nI k := nI_ge (by omega) (by omega)
          have hk8 : k < 8 := by omega
          have n2 := ih2 (k + 1) (by omega)
          rw [tw] at n2
          rw [l_X7_heard_30, v4_, true_and, c4, h.1, br_n b0, bt_e h1 hk8, it_4 hk8, (h.2 k hk8).2.2.2.2, (hc k hk8).2]
          simp only [j_X7_heard_63, nI_1, fa_or, show (0 : Int32) = nI 0 from rfl, Nat.or_zero]
          refine ⟨fun w => ?_, fun w => ?_⟩
          · rw [if_neg (fun z => w (by rw [z]; rfl))] at n2; exact n2
          · rw [if_pos ((nI_eq (b := 1) (by omega) (by decide)).mp w)] at n2; exact n2
      exact ⟨N + 1, lo N 0 (by omega)⟩
theorem p_heard {N : Nat} {x : Int32} {kd em ca near sh errs m me : Nat → Int32} {P : Int32 → (Nat → Int32) → Int32 → (Nat → Int32) → Prop} (hN : N ≤ 8) (h : RP N kd em ca near sh m) (hB : BP kd ca near) (hE : RE errs me)
    (hP : ∀ r errs' me', RE errs' me' → P r errs' r me') :
    v_X6_heard x (nI N) ca errs (fun r errs' => v_X7_heard x m me (fun r' me' => P r errs' r' me')) := by
  have herr := hP (-1000000001) (upd errs 1 (errs 1 + 1)) (upd me 1 (me 1 + 1)) (RE_up hE 1)
  unfold v_X6_heard v_X7_heard
  rcases ou_or x (n := N) (by omega) with hx | ⟨p, hp, rfl⟩
  · simp only [ha_no hN hx, ip_no hN h.1 hx, b1_0, true_implies, false_implies, not_true_eq_false, not_false_eq_true, and_true, true_and, implies_true, er61, er71]; exact herr
  simp only [ha_yes hN hp, ip_yes hN h.1 hp, b1_0, true_implies, false_implies, not_true_eq_false, not_false_eq_true, and_true, true_and, implies_true]
  have hcc : ∀ j, ∃ k : Nat, j < 8 → k < 256 ∧ ca j = nI k := fun j => by
    by_cases hj : j < 8
    · obtain ⟨k, hk⟩ := (hB j hj).2.1
      exact ⟨k, fun _ => hk⟩
    · exact ⟨0, fun z => absurd z hj⟩
  obtain ⟨c, hc⟩ := Classical.axiomOfChoice hcc
  have hc1 := fun j hj => (hc j hj).1
  have h2p : 2 ^ p < 256 := Nat.pow_lt_pow_right (a := 2) (m := p) (n := 8) (by decide) (by omega)
  have hsp : hs_ p (2 ^ p) := by
    unfold hs_
    rw [Nat.div_self (Nat.pow_pos (by decide))]
  have hpos : 0 < 2 ^ p := Nat.pow_pos (by decide)
  refine co_6 hN hp hc ?_
  rw [sh_1 p (by omega)]
  refine ⟨257, he_7 (c := c) (p := p) hN h hc (fun S s1 s2 s3 s4 => ?_) 255 (2 ^ p) 0 h2p (by decide) (by omega) (fun z => absurd z (by omega)) (ins_r _) (fun T _ t => t)⟩
  have e : rr N c (2 ^ p) N = S := ins_anti (rr_mi s2 s3 N) (s4 _ (rr_cl hp hsp) (rr_up N c _ N))
  rw [e]
  exact hP _ _ _ hE
