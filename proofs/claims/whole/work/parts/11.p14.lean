/-! odds, heard */ -/
def oc (N p : Nat) (kd em ts : Nat → Int32) (tn : Nat) (near sh : Nat → Int32) (d : Int32) : Nat → Nat
  | 0 => 0
  | k + 1 => if k = p then oc N p kd em ts tn near sh d k else if tk kd em ts tn k (near p) (sh p) d ≤ near p then oc N p kd em ts tn near sh d k else oc N p kd em ts tn near sh d k + 1
theorem oc_le (N p : Nat) (kd em ts : Nat → Int32) (tn : Nat) (near sh : Nat → Int32) (d : Int32) : ∀ k, oc N p kd em ts tn near sh d k ≤ k
  | 0 => Nat.le_refl 0
  | k + 1 => by
    have := oc_le N p kd em ts tn near sh d k
    rw [oc]
    split
    · omega
    · split <;> omega
theorem ct_6 {N p tn : Nat} {d : Int32} {kd em ts m near sh : Nat → Int32} {K : Int32 → (Nat → Int32) → Prop} (hN : N ≤ 8) (hp : p < N) (hT : TX 0 tn ts m) (hK : ∀ st', K (nI (oc N p kd em ts tn near sh d N)) st') (stk : Nat → Int32) : v_X4_countTakenNearer (nI p) (nI N) kd em d near sh 99 (nI tn) ts stk K := by
  unfold v_X4_countTakenNearer
  have hp8 : p < 8 := by omega
  have lo : ∀ e k stk, k + e = N → l_X4_countTakenNearer_4 (nI p) (nI N) kd em d near sh 99 (nI tn) ts K (e + 1) (nI (oc N p kd em ts tn near sh d k)) (nI k) stk := by
    intro e
    induction e with
    | zero =>
      intro k stk hk
      have e : k = N := by omega
      subst e
      rw [l_X4_countTakenNearer_4, br_y (nI_le (Nat.le_refl _) (by omega))]
      exact hK stk
    | succ e ih =>
      intro k stk hk
      have a0 : ¬ nI N ≤ nI k := nI_ge (by omega) (by omega)
      have hk8 : k < 8 := by omega
      have n := fun s => ih (k + 1) s (by omega)
      simp only [oc] at n
      rw [l_X4_countTakenNearer_4, br_n a0]
      unfold j_X4_countTakenNearer_62
      rw [nI_1]
      refine ⟨fun q => ?_, fun q => ?_⟩
      · have q2 : k = p := (nI_eq (by omega) (by omega)).mp q
        have := n stk
        rw [if_pos q2] at this
        exact this
      · have q2 : ¬ k = p := fun z => q (by rw [z])
        rw [vi_8 hp8, true_and, true_and, cl_8 hp8]
        refine tk_6 hk8 hT (fun st' => ?_)
        rw [true_and, nI_1]
        have := n st'
        rw [if_neg q2] at this
        refine ⟨fun w => ?_, fun w => ?_⟩
        · rw [if_pos w] at this; exact this
        · rw [if_neg w] at this; exact this
  exact ⟨N + 1, lo N 0 stk (by omega)⟩
def gx : Nat → Nat → Nat → Nat
  | 0, a, _ => a
  | f + 1, a, b => if b = 0 then a else gx f b (a % b)
theorem gx_0 : ∀ f a, gx f a 0 = a
  | 0, _ => rfl
  | f + 1, a => if_pos rfl
theorem gx_in : ∀ f a b, b ≤ f → a ≤ 8 → b ≤ 8 → (0 < a ∨ 0 < b) → 0 < gx f a b ∧ gx f a b ≤ 8
  | 0, a, b, h, ha, hb, hp => by
    rw [gx]; omega
  | f + 1, a, b, h, ha, hb, hp => by
    rw [gx]
    by_cases c : b = 0
    · rw [if_pos c]; omega
    · rw [if_neg c]
      have := Nat.mod_lt a (show 0 < b by omega)
      exact gx_in f b (a % b) (by omega) hb (by omega) (Or.inl (by omega))
theorem gc_6 {p1 p2 : Int32} {K : Int32 → Prop} : ∀ f a b t, b ≤ f → a ≤ 8 → b ≤ 8 → t + f < 64 → K (nI (gx f a b)) → l_X6_commonDivisor_7 p1 p2 K (f + 1) (nI a) (nI b) (nI t) := by
  intro f
  induction f with
  | zero =>
    intro a b t h ha hb ht hK
    have e : b = 0 := by omega
    subst e
    rw [l_X6_commonDivisor_7, br_n (show ¬ (64 : Int32) ≤ nI t from nI_ge (b := 64) (by omega) (by decide)), br_y (show nI 0 ≤ 0 by decide)]
    exact hK
  | succ f ih =>
    intro a b t h ha hb ht hK
    have a0 : ¬ (64 : Int32) ≤ nI t := nI_ge (b := 64) (by omega) (by decide)
    rw [l_X6_commonDivisor_7, br_n a0]
    by_cases c : b = 0
    · subst c
      rw [br_y (show nI 0 ≤ 0 by decide)]
      rw [gx_0] at hK; exact hK
    · have c1 : ¬ nI b ≤ 0 := nI_nle (by omega) (by omega)
      have c2 : ¬ nI b = 0 := nI_ne0 (by omega) (by omega)
      have md := Nat.mod_lt a (show 0 < b by omega)
      rw [br_n c1, pk_rem (by omega) (by omega) (by omega), nI_1]
      rw [gx, if_neg c] at hK
      exact ⟨c2, ih b (a % b) (t + 1) (by omega) hb (by omega) (by omega) hK⟩
theorem gc_7 {p1 p2 : Int32} {K : Int32 → Prop} : ∀ f a b, b ≤ f → a ≤ 8 → b ≤ 8 → K (nI (gx f a b)) → l_X7_divisor_4 p1 p2 K (f + 1) (nI a) (nI b) := by
  intro f
  induction f with
  | zero =>
    intro a b h ha hb hK
    have e : b = 0 := by omega
    subst e
    rw [l_X7_divisor_4, br_y (show nI 0 = 0 from rfl)]
    exact hK
  | succ f ih =>
    intro a b h ha hb hK
    rw [l_X7_divisor_4]
    by_cases c : b = 0
    · subst c
      rw [br_y (show nI 0 = 0 from rfl)]
      rw [gx_0] at hK; exact hK
    · have c2 : ¬ nI b = 0 := nI_ne0 (by omega) (by omega)
      have md := Nat.mod_lt a (show 0 < b by omega)
      rw [br_n c2, pk_rem (by omega) (by omega) (by omega)]
      rw [gx, if_neg c] at hK
      exact ⟨c2, ih b (a % b) (by omega) hb (by omega) hK⟩
theorem p_odds {N tn : Nat} {x y d : Int32} {kd em ca near sh ts m errs me stk nm pile : Nat → Int32} {P : Int32 → (Nat → Int32) → (Nat → Int32) → Int32 → (Nat → Int32) → (Nat → Int32) → (Nat → Int32) → Prop} (hN : N ≤ 8) (h : RP N kd em ca near sh m) (hd : m 0 = d) (hT : TX 0 tn ts m) (hE : RE errs me)
    (hP : ∀ r stk' errs' me' nm' pile', RE errs' me' → P r stk' errs' r me' nm' pile') :
    v_X6_odds x y (nI N) kd em d near sh 99 (nI tn) ts stk errs (fun r stk' errs' => v_X7_odds x y m me nm pile (fun r' me' nm' pile' => P r stk' errs' r' me' nm' pile')) := by
  have herr := hP (-1000000001) stk (upd errs 1 (errs 1 + 1)) (upd me 1 (me 1 + 1)) nm pile (RE_up hE 1)
  unfold v_X6_odds v_X7_odds
  rcases ou_or x (n := N) (by omega) with hx | ⟨p, hp, rfl⟩
  · simp only [ha_no hN hx, ip_no hN h.1 hx, j_X6_odds_19, j_X7_odds_17, er61, er71, b1_0, true_implies, false_implies, not_true_eq_false, not_false_eq_true, and_true, true_and, implies_true]; exact herr
  rcases ou_or y (n := 2) (by decide) with hy | ⟨w, hw, rfl⟩
  · have i1 : ∀ K, v_X7_in y 0 1 K = K 0 := i_no 1 (by decide) hy
    have i2 : ∀ K, v_X6_isWithin y 1 K = K 0 := w_no 1 (by decide) hy
    simp only [ha_yes hN hp, ip_yes hN h.1 hp, i1, i2, j_X6_odds_19, j_X7_odds_17, er61, er71, b1_0, true_implies, false_implies, not_true_eq_false, not_false_eq_true, and_true, true_and, implies_true]; exact herr
  have i1 : ∀ K, v_X7_in (nI w) 0 1 K = K 1 := i_yes 1 (by decide) hw
  have i2 : ∀ K, v_X6_isWithin (nI w) 1 K = K 1 := w_yes 1 (by decide) hw
  have hp8 : p < 8 := by omega
  have a1 : nI N - 1 = nI (N - 1) := pk_sub (b := 1) (by omega)
  simp only [ha_yes hN hp, ip_yes hN h.1 hp, i1, i2, v4_, c4, h.1, a1, b1_0, true_implies, false_implies, not_true_eq_false, not_false_eq_true, and_true, true_and, implies_true]
  by_cases c : N = 1
  · subst c
    simp only [show ((1 : Int32) ≤ nI (1 - 1)) = False by decide, show (nI (1 - 1) = 0) = True from eq_true rfl, er63, er73, b1_0, true_implies, false_implies, not_true_eq_false, not_false_eq_true, and_true, true_and, implies_true]
    exact hP _ _ _ _ _ _ (RE_up hE 3)
  have b1 : (1 : Int32) ≤ nI (N - 1) := nI_le (a := 1) (by omega) (by omega)
  have b2 : ¬ nI (N - 1) = 0 := nI_ne0 (by omega) (by omega)
  simp only [b1, b2, b1_0, true_implies, false_implies, not_true_eq_false, not_false_eq_true, and_true, true_and, implies_true]
  refine ct_6 hN hp hT (fun stk' => ?_) stk
  have ol := oc_le N p kd em ts tn near sh d N
  obtain ⟨g1, g2⟩ := gx_in 8 (oc N p kd em ts tn near sh d N) (N - 1) (by omega) (by omega) (by omega) (Or.inr (by omega))
  have gz : ¬ nI (gx 8 (oc N p kd em ts tn near sh d N) (N - 1)) = 0 := nI_ne0 g1 (by omega)
  have gy : (1 : Int32) ≤ nI (gx 8 (oc N p kd em ts tn near sh d N) (N - 1)) := nI_le (a := 1) g1 (by omega)
  unfold v_X6_commonDivisor
  refine ⟨9, gc_6 8 _ _ 0 (by omega) (by omega) (by omega) (by decide) ?_⟩
  simp only [gy, gz, b1_0, true_implies, false_implies, not_true_eq_false, not_false_eq_true, and_true, true_and, implies_true]
  have tw : ∀ (Q : Int32 → Prop), ((¬ nI w = 0 → Q (nI (N - 1) / nI (gx 8 (oc N p kd em ts tn near sh d N) (N - 1)))) ∧ (nI w = 0 → Q (nI (oc N p kd em ts tn near sh d N) / nI (gx 8 (oc N p kd em ts tn near sh d N) (N - 1))))) → (∀ r, Q r → ∀ nm' pile', P r stk' errs r me nm' pile') → ∀ K : Int32 → (Nat → Int32) → (Nat → Int32) → (Nat → Int32) → Prop, (∀ r, Q r → ∀ nm' pile', K r me nm' pile') → ∃ z, l_X7_odds_48 (nI p) (nI w) m K z (nI (N - 1)) 0 0 me nm pile := by
    intro Q hQ _ K hK
    have lo : ∀ e k nm pile, k + e = N → l_X7_odds_48 (nI p) (nI w) m K (e + 1) (nI (N - 1)) (nI (oc N p kd em ts tn near sh d k)) (nI k) me nm pile := by
      intro e
      induction e with
      | zero =>
        intro k nm pile hk
        have e : k = N := by omega
        subst e
        rw [l_X7_odds_48, v4_, true_and, c4, h.1, br_y (nI_le (Nat.le_refl _) (by omega))]
        unfold v_X7_divisor
        refine ⟨9, gc_7 8 _ _ (by omega) (by omega) (by omega) ⟨fun z => ⟨gz, ?_⟩, fun z => ⟨gz, ?_⟩⟩⟩
        · exact hK _ (hQ.1 z) _ _
        · exact hK _ (hQ.2 z) _ _
      | succ e ih =>
        intro k nm pile hk
        have a0 : ¬ nI N ≤ nI k := nI_ge (by omega) (by omega)
        have hk8 : k < 8 := by omega
        have n := fun a b => ih (k + 1) a b (by omega)
        simp only [oc] at n
        rw [l_X7_odds_48, v4_, true_and, c4, h.1, br_n a0]
        simp only [j_X7_odds_87, j_X7_odds_88, nI_1, az]
        refine ⟨fun q => ?_, fun q => ?_⟩
        · have q2 : k = p := (nI_eq (by omega) (by omega)).mp q
          have := n nm pile
          rw [if_pos q2] at this
          exact this
        · have q2 : ¬ k = p := fun z => q (by rw [z])
          refine tk_7 h hk8 hp8 hd hT (fun nm' pile' => ?_)
          rw [it_2 hp8, (h.2 p hp8).2.2.1]
          have := n nm' pile'
          rw [if_neg q2] at this
          refine ⟨fun w => ?_, fun w => ?_⟩
          · rw [if_pos w] at this; exact this
          · rw [if_neg w] at this; exact this
    exact ⟨N + 1, lo N 0 nm pile (by omega)⟩
  have hc : w = 0 ∨ w = 1 := by omega
  rcases hc with rfl | rfl
  · simp only [show (nI 0 = 0) = True from eq_true rfl, b1_0, true_implies, false_implies, not_true_eq_false, not_false_eq_true, and_true, true_and, implies_true]
    refine tw (fun r => r = nI (oc N p kd em ts tn near sh d N) / nI (gx 8 (oc N p kd em ts tn near sh d N) (N - 1))) ⟨fun z => absurd rfl z, fun _ => rfl⟩ (fun r hr nm' pile' => ?_) _ (fun r hr nm' pile' => ?_)
    · exact hP _ _ _ _ _ _ hE
    · rw [hr]; exact hP _ _ _ _ _ _ hE
  · simp only [show (nI 1 = 0) = False by decide, b1_0, true_implies, false_implies, not_true_eq_false, not_false_eq_true, and_true, true_and, implies_true]
    refine tw (fun r => r = nI (N - 1) / nI (gx 8 (oc N p kd em ts tn near sh d N) (N - 1))) ⟨fun _ => rfl, fun z => absurd z (by decide)⟩ (fun r hr nm' pile' => ?_) _ (fun r hr nm' pile' => ?_)
    · exact hP _ _ _ _ _ _ hE
    · rw [hr]; exact hP _ _ _ _ _ _ hE
