/-! who is nearest; days; days by draws -/
def be (near : Nat → Int32) : Nat → Nat
  | 0 => 0
  | k + 1 => if k = 0 then 0 else if near k ≤ near (be near k) then be near k else k
def bst (near : Nat → Int32) (k : Nat) : Int32 := if k = 0 then -1 else nI (be near k)
theorem be_lt (near : Nat → Int32) : ∀ k, 0 < k → be near k < k := by
  intro k
  induction k with
  | zero => intro h; omega
  | succ k ih =>
    intro _
    rw [be]
    by_cases c : k = 0
    · rw [if_pos c]; omega
    · rw [if_neg c]
      have := ih (by omega)
      split <;> omega
theorem ne_6 {N : Nat} (hN : N ≤ 8) (near : Nat → Int32) (K : Int32 → Prop) (hK : K (bst near N)) : v_X4_nearestIn (nI N) near K := by
  unfold v_X4_nearestIn
  have lo : ∀ e k, k + e = N → l_X4_nearestIn_4 (nI N) near K (e + 1) (bst near k) (nI k) := by
    intro e
    induction e with
    | zero =>
      intro k hk
      have e : k = N := by omega
      subst e
      rw [l_X4_nearestIn_4, br_y (nI_le (Nat.le_refl _) (by omega))]
      exact hK
    | succ e ih =>
      intro k hk
      have a0 : ¬ nI N ≤ nI k := nI_ge (by omega) (by omega)
      have hk8 : k < 8 := by omega
      have n := ih (k + 1) (by omega)
      rw [l_X4_nearestIn_4, br_n a0]
      simp only [j_X4_nearestIn_31, j_X4_nearestIn_33, nI_1]
      by_cases c : k = 0
      · subst c
        have e1 : bst near (0 + 1) = nI 0 := rfl
        rw [e1] at n
        rw [br_y (show bst near 0 < 0 from (by decide : (-1 : Int32) < 0))]
        exact n
      · have hb := be_lt near k (by omega)
        have e1 : bst near k = nI (be near k) := if_neg c
        have e2 : bst near (k + 1) = nI (be near (k + 1)) := if_neg (by omega)
        rw [e2, be, if_neg c] at n
        rw [e1, br_n (nI_pos (by omega)), vi_8 hk8, true_and, vi_8 (by omega), true_and, cl_8 hk8, cl_8 (by omega)]
        refine ⟨fun q => ?_, fun q => ?_⟩
        · rw [if_pos q] at n; exact n
        · rw [if_neg q] at n; exact n
  exact ⟨N + 1, lo N 0 (by omega)⟩
theorem ne_7 {N : Nat} {kd em ca near sh m : Nat → Int32} (hN : N ≤ 8) (h : RP N kd em ca near sh m) (K : Int32 → Prop) (hK : K (bst near N)) : v_X7_nearestNow m K := by
  unfold v_X7_nearestNow
  have lo : ∀ e k, k + e = N → l_X7_nearestNow_4 m K (e + 1) (bst near k) (nI k) := by
    intro e
    induction e with
    | zero =>
      intro k hk
      have e : k = N := by omega
      subst e
      rw [l_X7_nearestNow_4, v4_, true_and, c4, h.1, br_y (nI_le (Nat.le_refl _) (by omega))]
      exact hK
    | succ e ih =>
      intro k hk
      have a0 : ¬ nI N ≤ nI k := nI_ge (by omega) (by omega)
      have hk8 : k < 8 := by omega
      have n := ih (k + 1) (by omega)
      rw [l_X7_nearestNow_4, v4_, true_and, c4, h.1, br_n a0]
      simp only [j_X7_nearestNow_34, j_X7_nearestNow_39, nI_1]
      by_cases c : k = 0
      · subst c
        have e1 : bst near (0 + 1) = nI 0 := rfl
        rw [e1] at n
        rw [br_y (show bst near 0 = -1 by rfl)]
        exact n
      · have hb := be_lt near k (by omega)
        have e1 : bst near k = nI (be near k) := if_neg c
        have e2 : bst near (k + 1) = nI (be near (k + 1)) := if_neg (by omega)
        rw [e2, be, if_neg c] at n
        have e3 : ¬ nI (be near k) = -1 := fun q => by
          have := (fa_eq _ _).mp q
          rw [nI_toInt (by omega), show (-1 : Int32).toInt = -1 by decide] at this
          omega
        obtain ⟨-, -, q1, -, -⟩ := h.2 k hk8
        obtain ⟨-, -, q2, -, -⟩ := h.2 (be near k) (by omega)
        rw [e1, br_n e3, it_2 hk8, it_2 (show be near k < 8 by omega), q1, q2]
        refine ⟨fun q => ?_, fun q => ?_⟩
        · rw [if_pos q] at n; exact n
        · rw [if_neg q] at n; exact n
  exact ⟨N + 1, lo N 0 (by omega)⟩
/-- NEAR and SHOWS behind so many days -/
def di (N : Nat) (kd em ts gs : Nat → Int32) (tn gn D : Nat) (near sh : Nat → Int32) : Nat → (Nat → Int32) × (Nat → Int32)
  | 0 => (near, sh)
  | k + 1 => (dN N kd em ts tn (di N kd em ts gs tn gn D near sh k).1 (di N kd em ts gs tn gn D near sh k).2 (nI (D + k)), dS N kd gs gn (di N kd em ts gs tn gn D near sh k).1 (di N kd em ts gs tn gn D near sh k).2 (nI (D + k)))
theorem di_B {N : Nat} (hN : N ≤ 8) {kd ca near : Nat → Int32} (em ts gs : Nat → Int32) (tn gn D : Nat) (sh : Nat → Int32) (h : BP kd ca near) : ∀ k, BP kd ca (di N kd em ts gs tn gn D near sh k).1
  | 0 => h
  | k + 1 => dN_B hN em ts tn _ _ (di_B hN em ts gs tn gn D sh h k)
theorem go_7 {N tn gn D n : Nat} {kd em ca near sh ts gs m : Nat → Int32} {K : (Nat → Int32) → (Nat → Int32) → (Nat → Int32) → (Nat → Int32) → (Nat → Int32) → Prop} (hN : N ≤ 8) (hn : n < 200) (h : RP N kd em ca near sh m) (hd : m 0 = nI D) (hT : TX 0 tn ts m) (hG : TX 1 gn gs m)
    (hK : ∀ m' nm' pile' nt' st', RP N kd em ca (di N kd em ts gs tn gn D near sh n).1 (di N kd em ts gs tn gn D near sh n).2 m' → m' 0 = nI (D + n) → FD m m' → K m' nm' pile' nt' st') (nm pile nt st : Nat → Int32) : v_X7_goes (nI n) m nm pile nt st K := by
  unfold v_X7_goes
  have lo : ∀ e k m1 nm pile nt st, k + e = n → RP N kd em ca (di N kd em ts gs tn gn D near sh k).1 (di N kd em ts gs tn gn D near sh k).2 m1 → m1 0 = nI (D + k) → FD m m1 → l_X7_goes_2 (nI n) K (e + 1) (nI k) m1 nm pile nt st := by
    intro e
    induction e with
    | zero =>
      intro k m1 nm pile nt st hk r r0 f
      have e : k = n := by omega
      subst e
      rw [l_X7_goes_2, br_y (nI_le (Nat.le_refl _) (by omega))]
      exact hK _ _ _ _ _ r r0 f
    | succ e ih =>
      intro k m1 nm pile nt st hk r r0 f
      have a0 : ¬ nI n ≤ nI k := nI_ge (by omega) (by omega)
      rw [l_X7_goes_2, br_n a0]
      refine ad_7 hN r r0 (TX_fr hT (fun i hi => f i (by omega))) (TX_fr hG (fun i hi => f i (by omega))) (fun m' nm' pile' nt' st' r' r0' f' => ?_) nm pile nt st
      rw [nI_1]
      refine ih (k + 1) _ _ _ _ _ (by omega) r' (by rw [r0', nI_1]; rfl) (fun i hi => ?_)
      rw [f' i hi]; exact f i hi
  exact ⟨n + 1, lo n 0 m nm pile nt st (by omega) h hd (fun _ _ => rfl)⟩
theorem da_6 {N tn gn D n : Nat} {kd em ts gs m near sh errs : Nat → Int32} {K : Int32 → Int32 → (Nat → Int32) → (Nat → Int32) → (Nat → Int32) → (Nat → Int32) → (Nat → Int32) → Prop} (hN : N ≤ 8) (hn : n < 200) (hT : TX 0 tn ts m) (hG : TX 1 gn gs m)
    (hK : ∀ tst' gst', K (nI (D + n)) (nI (D + n)) (di N kd em ts gs tn gn D near sh n).1 (di N kd em ts gs tn gn D near sh n).2 tst' gst' errs) (tst gst : Nat → Int32) : ∃ z, l_X6_days_43 (nI n) (nI N) kd em 99 (nI tn) ts 9 (nI gn) gs K z 0 (nI D) near sh tst gst errs := by
  have lo : ∀ e k tst gst, k + e = n → l_X6_days_43 (nI n) (nI N) kd em 99 (nI tn) ts 9 (nI gn) gs K (e + 1) (nI k) (nI (D + k)) (di N kd em ts gs tn gn D near sh k).1 (di N kd em ts gs tn gn D near sh k).2 tst gst errs := by
    intro e
    induction e with
    | zero =>
      intro k tst gst hk
      have e : k = n := by omega
      subst e
      rw [l_X6_days_43, br_y (nI_le (Nat.le_refl _) (by omega))]
      exact hK _ _
    | succ e ih =>
      intro k tst gst hk
      have a0 : ¬ nI n ≤ nI k := nI_ge (by omega) (by omega)
      rw [l_X6_days_43, br_n a0]
      refine pa_6 hN hT hG (fun r tst' gst' _ => ?_) tst gst
      rw [nI_1, nI_1]
      exact ih (k + 1) _ _ (by omega)
  exact ⟨n + 1, lo n 0 tst gst (by omega)⟩
theorem wn_no {x : Int32} {M : Nat} (hM : M < 1000) {m : Nat → Int32} (h : x.toInt < 1 ∨ (M : Int) < x.toInt) (K : Int32 → Prop) : v_X7_whyNot x (nI M) m K = K 1 := by
  unfold v_X7_whyNot
  have i1 : ∀ K, v_X7_in x 1 (nI M) K = K 0 := in_no (by rw [show (1 : Int32).toInt = 1 from rfl, nI_toInt (by omega)]; exact h)
  simp only [i1, b1_0, true_implies, false_implies, not_true_eq_false, not_false_eq_true, and_true, true_and, implies_true]
theorem wn_st {n M D : Nat} (hM : M < 1000) {m : Nat → Int32} (h1 : 1 ≤ n) (h2 : n ≤ M) (hD : D < 10000) (hd : m 0 = nI D) (h : 9999 < D + n) (K : Int32 → Prop) : v_X7_whyNot (nI n) (nI M) m K = K 3 := by
  unfold v_X7_whyNot
  have i1 : ∀ K, v_X7_in (nI n) 1 (nI M) K = K 1 := in_yes (by rw [show (1 : Int32).toInt = 1 from rfl, nI_toInt (by omega)]; omega) (by rw [nI_toInt (by omega), nI_toInt (by omega)]; omega)
  have a : ¬ nI (D + n) ≤ (9999 : Int32) := nI_ge (a := 9999) (by omega) (by omega)
  simp only [i1, v0_, c0, hd, nI_add, a, b1_0, true_implies, false_implies, not_true_eq_false, not_false_eq_true, and_true, true_and, implies_true]
theorem wn_ok {n M D : Nat} (hM : M < 1000) {m : Nat → Int32} (h1 : 1 ≤ n) (h2 : n ≤ M) (hD : D < 10000) (hd : m 0 = nI D) (h : D + n ≤ 9999) (K : Int32 → Prop) : v_X7_whyNot (nI n) (nI M) m K = K 0 := by
  unfold v_X7_whyNot
  have i1 : ∀ K, v_X7_in (nI n) 1 (nI M) K = K 1 := in_yes (by rw [show (1 : Int32).toInt = 1 from rfl, nI_toInt (by omega)]; omega) (by rw [nI_toInt (by omega), nI_toInt (by omega)]; omega)
  have a : nI (D + n) ≤ (9999 : Int32) := nI_le (b := 9999) h (by decide)
  simp only [i1, v0_, c0, hd, nI_add, a, b1_0, true_implies, false_implies, not_true_eq_false, not_false_eq_true, and_true, true_and, implies_true]
theorem t3_0 : ((3 : Int32) = 0) = False := by decide
theorem p_days {N tn gn D : Nat} {x : Int32} {kd em ca near sh ts gs m errs me tst gst nm pile nt st : Nat → Int32} {P : Int32 → Int32 → (Nat → Int32) → (Nat → Int32) → (Nat → Int32) → (Nat → Int32) → (Nat → Int32) → Int32 → (Nat → Int32) → (Nat → Int32) → (Nat → Int32) → (Nat → Int32) → (Nat → Int32) → (Nat → Int32) → Prop} (hN : N ≤ 8) (hD : D < 10000) (h : RP N kd em ca near sh m) (hB : BP kd ca near) (hd : m 0 = nI D) (hT : TX 0 tn ts m) (hG : TX 1 gn gs m) (hE : RE errs me)
    (hP : ∀ r D' near' sh' tst' gst' errs' m' me' nm' pile' nt' st', D' < 10000 → RP N kd em ca near' sh' m' → BP kd ca near' → m' 0 = nI D' → FD m m' → RE errs' me' → P r (nI D') near' sh' tst' gst' errs' r m' me' nm' pile' nt' st') :
    v_X6_days x (nI N) kd em (nI D) near sh 99 (nI tn) ts tst 9 (nI gn) gs gst errs (fun r d' near' sh' tst' gst' errs' => v_X7_days x m me nm pile nt st (fun r' m' me' nm' pile' nt' st' => P r d' near' sh' tst' gst' errs' r' m' me' nm' pile' nt' st')) := by
  have herr := hP (-1000000001) D near sh tst gst (upd errs 1 (errs 1 + 1)) m (upd me 1 (me 1 + 1)) nm pile nt st hD h hB hd (fun _ _ => rfl) (RE_up hE 1)
  have herr3 := hP (-1000000003) D near sh tst gst (upd errs 3 (errs 3 + 1)) m (upd me 3 (me 3 + 1)) nm pile nt st hD h hB hd (fun _ _ => rfl) (RE_up hE 3)
  unfold v_X6_days v_X7_days
  have e1 : (1 : Int32).toInt = 1 := rfl
  have e100 : (100 : Int32).toInt = 100 := rfl
  by_cases g1 : x.toInt < 1
  · have w : ∀ K, v_X7_whyNot x 100 m K = K 1 := wn_no (M := 100) (by decide) (Or.inl g1)
    simp only [fa_lt, e1, g1, w, b1_0, j_X6_days_11, er61, er71, b1_0, true_implies, false_implies, not_true_eq_false, not_false_eq_true, and_true, true_and, implies_true]; exact herr
  by_cases g2 : 100 < x.toInt
  · have w : ∀ K, v_X7_whyNot x 100 m K = K 1 := wn_no (M := 100) (by decide) (Or.inr g2)
    have g3 : ¬ x.toInt ≤ 100 := by omega
    simp only [fa_lt, fa_le, e1, e100, g1, g3, w, b1_0, j_X6_days_11, er61, er71, b1_0, true_implies, false_implies, not_true_eq_false, not_false_eq_true, and_true, true_and, implies_true]; exact herr
  obtain ⟨n, hn, rfl⟩ := nI_of (x := x) (by rw [fa_lt, show (0 : Int32).toInt = 0 from rfl]; omega)
  rw [nI_toInt hn] at g1 g2
  have a1 : ¬ nI n < 1 := by rw [fa_lt, e1, nI_toInt hn]; exact g1
  have a2 : nI n ≤ 100 := by rw [fa_le, e100, nI_toInt hn]; omega
  have a3 : (9999 : Int32) - nI D = nI (9999 - D) := pk_sub (a := 9999) (by omega)
  by_cases g3 : D + n ≤ 9999
  · have a4 : nI n ≤ nI (9999 - D) := nI_le (by omega) (by omega)
    have w : ∀ K, v_X7_whyNot (nI n) 100 m K = K 0 := wn_ok (M := 100) (by decide) (by omega) (by omega) hD hd g3
    simp only [a1, a2, a3, a4, w, b1_0, true_implies, false_implies, not_true_eq_false, not_false_eq_true, and_true, true_and, implies_true]
    refine da_6 (m := m) hN (by omega) hT hG (fun tst' gst' => ?_) tst gst
    refine go_7 hN (by omega) h hd hT hG (fun m' nm' pile' nt' st' r r0 f => ?_) nm pile nt st
    rw [v0_, true_and, c0, r0]
    exact hP _ (D + n) _ _ _ _ _ _ _ _ _ _ _ (by omega) r (di_B hN em ts gs tn gn D sh hB n) r0 f hE
  · have a4 : ¬ nI n ≤ nI (9999 - D) := nI_ge (by omega) (by omega)
    have w : ∀ K, v_X7_whyNot (nI n) 100 m K = K 3 := wn_st (M := 100) (by decide) (by omega) (by omega) hD hd (by omega)
    simp only [a1, a2, a3, a4, w, t3_0, er63, er73, b1_0, true_implies, false_implies, not_true_eq_false, not_false_eq_true, and_true, true_and, implies_true]; exact herr3
-- draws
def zz (z : Int32) : Int32 := z * 1103515245 + 12345
def dw (z : Int32) : Nat := (zz z).toBitVec.toNat / 256
theorem dw_lt (z : Int32) : dw z < 16777216 := by
  unfold dw
  have := (zz z).toBitVec.isLt
  omega
theorem bn_eq {x : Int32} {n : Nat} (hn : n < 2 ^ 32) (h : x.toBitVec.toNat = n) : x = nI n := by
  apply Int32.toBitVec_inj.mp
  apply BitVec.eq_of_toNat_eq
  rw [h, pk_tn hn]
theorem dw_e (z : Int32) : (((z * (1103515245 : Int32)) + (12345 : Int32)).toUInt32 >>> ((8 : Int32).toUInt32 &&& Int32.toUInt32 31)).toInt32 = nI (dw z) := by
  have := dw_lt z
  refine bn_eq (by omega) ?_
  rw [pk_ushr _ 8 8 (by decide)]
  rfl
theorem dr_6 (z : Int32) (K : Int32 → Int32 → Prop) : v_X4_draw z K = K (nI (dw z)) (zz z) := by
  unfold v_X4_draw
  rw [dw_e]; rfl
theorem dr_7 {z : Int32} {m : Nat → Int32} (h : m 1 = z) (K : Int32 → (Nat → Int32) → Prop) : v_X7_draw m K = K (nI (dw z)) (upd m 1 (zz z)) := by
  unfold v_X7_draw
  rw [v1_, true_and, true_and, true_and, c1, pk_us, h, dw_e]; rfl
theorem dw_r (z : Int32) {N : Nat} (h0 : 0 < N) (hN : N ≤ 8) : nI (dw z) - nI (dw z) / nI N * nI N = nI (dw z % N) := pk_rem (by have := dw_lt z; omega) h0 (by omega)
theorem dw_10 (z : Int32) : nI (dw z) - nI (dw z) / 10 * 10 = nI (dw z % 10) := pk_rem (d := 10) (by have := dw_lt z; omega) (by decide) (by decide)
theorem RP_1 {N : Nat} {kd em ca near sh m : Nat → Int32} (h : RP N kd em ca near sh m) (v : Int32) : RP N kd em ca near sh (upd m 1 v) := by
  refine ⟨by rw [pk_un (by decide)]; exact h.1, fun j hj => ?_⟩
  rw [pk_un (by omega), pk_un (by omega), pk_un (by omega), pk_un (by omega), pk_un (by omega)]
  exact h.2 j hj
/-- what days by draws leave as it was -/
def FL (m m' : Nat → Int32) : Prop := ∀ i, (i = 2 ∨ i = 3 ∨ (4 < i ∧ i < 8) ∨ 48 ≤ i) → m' i = m i
theorem dm_t {N : Nat} (hN : N ≤ 8) (z : Int32) {kd ca near : Nat → Int32} (sh : Nat → Int32) (hB : BP kd ca near) : ∃ z' ca' near' sh', BP kd ca' near' ∧ (∀ K : Int32 → (Nat → Int32) → (Nat → Int32) → (Nat → Int32) → Prop, K z' ca' near' sh' → v_X4_drawMoves (nI N) z ca near sh K) ∧
    (∀ (em m : Nat → Int32) (d : Int32), RP N kd em ca near sh m → m 1 = z → m 0 = d → (N < 2 → RP N kd em ca' near' sh' m ∧ z' = z) ∧ (2 ≤ N → ∀ K : (Nat → Int32) → Prop, (∀ m', RP N kd em ca' near' sh' m' → m' 1 = z' → m' 0 = d → FL m m' → K m') → v_X7_errands m K)) := by
  by_cases c : N < 2
  · refine ⟨z, ca, near, sh, hB, fun K hK => ?_, fun em m d r r1 r0 => ⟨fun _ => ⟨r, rfl⟩, fun q => absurd q (by omega)⟩⟩
    unfold v_X4_drawMoves
    have a : ¬ (2 : Int32) ≤ nI N := nI_ge (b := 2) c (by decide)
    rw [br_n a]; exact hK
  · have hN0 : 0 < N := by omega
    have a : (2 : Int32) ≤ nI N := nI_le (a := 2) (by omega) (by omega)
    have nz : ¬ nI N = 0 := nI_ne0 hN0 (by omega)
    have l1 : dw z % N < 8 := by have := Nat.mod_lt (dw z) hN0; omega
    have l3 : dw (zz (zz z)) % N < 8 := by have := Nat.mod_lt (dw (zz (zz z))) hN0; omega
    have l4 : dw (zz (zz (zz z))) % N < 8 := by have := Nat.mod_lt (dw (zz (zz (zz z)))) hN0; omega
    have six : ∀ K : Int32 → (Nat → Int32) → (Nat → Int32) → (Nat → Int32) → Prop, ((nI (dw (zz (zz z)) % N) = nI (dw (zz (zz (zz z))) % N) → K (zz (zz (zz (zz z)))) ca near (upd sh (dw z % N) (nI (dw (zz z) % 10)))) ∧ (¬ nI (dw (zz (zz z)) % N) = nI (dw (zz (zz (zz z))) % N) → v_X4_meet (nI (dw (zz (zz z)) % N)) (nI (dw (zz (zz (zz z))) % N)) ca near (fun r_16 called_16 near_16 => K (zz (zz (zz (zz z)))) called_16 near_16 (upd sh (dw z % N) (nI (dw (zz z) % 10)))))) → v_X4_drawMoves (nI N) z ca near sh K := by
      intro K hK
      unfold v_X4_drawMoves
      rw [br_y a, dr_6]
      refine ⟨nz, ?_⟩
      rw [dr_6, d10, true_and, dw_r _ hN0 hN, vi_8 l1, true_and, dr_6]
      refine ⟨nz, ?_⟩
      rw [dr_6]
      refine ⟨nz, ?_⟩
      rw [dw_r _ hN0 hN, dw_r _ hN0 hN, dw_10, cl_8 l1]
      exact hK
    have sev : ∀ (em m : Nat → Int32) (d : Int32), RP N kd em ca near sh m → m 1 = z → m 0 = d → ∀ K : (Nat → Int32) → Prop, (∀ m', RP N kd em ca near (upd sh (dw z % N) (nI (dw (zz z) % 10))) m' → m' 1 = zz (zz (zz (zz z))) → m' 0 = d → FL m m' → ((nI (dw (zz (zz z)) % N) = nI (dw (zz (zz (zz z))) % N) → K m') ∧ (¬ nI (dw (zz (zz z)) % N) = nI (dw (zz (zz (zz z))) % N) → v_X7_calls (nI (dw (zz (zz z)) % N)) (nI (dw (zz (zz (zz z))) % N)) m' (fun r_19 m_s_19 => K m_s_19)))) → v_X7_errands m K := by
      intro em m d r r1 r0 K hK
      unfold v_X7_errands
      have m4 : ∀ (f : Nat → Int32) v, upd f 1 v 4 = f 4 := fun f v => pk_un (by decide)
      rw [dr_7 r1, v4_, true_and, c4, m4, r.1]
      refine ⟨nz, ?_⟩
      rw [dr_7 (z := zz z) pk_us, d10, true_and, dw_r _ hN0 hN, dw_10, ly_3 l1]
      have q3 : upd (upd (upd m 1 (zz z)) 1 (zz (zz z))) (8 + 5 * (dw z % N) + 3) (nI (dw (zz z) % 10)) 1 = zz (zz z) := by
        rw [pk_un (by omega), pk_us]
      have q4 : upd (upd (upd m 1 (zz z)) 1 (zz (zz z))) (8 + 5 * (dw z % N) + 3) (nI (dw (zz z) % 10)) 4 = nI N := by
        rw [pk_un (by omega), m4, m4, r.1]
      rw [dr_7 q3, true_and, m4, q4]
      refine ⟨nz, ?_⟩
      rw [dr_7 (z := zz (zz (zz z))) pk_us, true_and, m4, m4, q4]
      refine ⟨nz, ?_⟩
      rw [dw_r _ hN0 hN, dw_r _ hN0 hN]
      refine hK _ (RP_1 (RP_1 (RP_sh (RP_1 (RP_1 r _) _) l1 _) _) _) pk_us ?_ (fun i hi => ?_)
      · rw [pk_un (by decide), pk_un (by decide), pk_un (by omega), pk_un (by decide), pk_un (by decide)]; exact r0
      · rw [pk_un (by omega), pk_un (by omega), pk_un (by omega), pk_un (by omega), pk_un (by omega)]
    by_cases q : dw (zz (zz z)) % N = dw (zz (zz (zz z))) % N
    · have e : nI (dw (zz (zz z)) % N) = nI (dw (zz (zz (zz z))) % N) := by rw [q]
      refine ⟨zz (zz (zz (zz z))), ca, near, upd sh (dw z % N) (nI (dw (zz z) % 10)), hB, ?_, ?_⟩
      · intro K hK
        exact six K ⟨fun _ => hK, fun w => absurd e w⟩
      · intro em m d r r1 r0
        refine ⟨fun w => absurd w c, fun _ K hK => sev em m d r r1 r0 K (fun m' a1 a2 a3 a4 => ⟨fun _ => hK m' a1 a2 a3 a4, fun w => absurd e w⟩)⟩
    · have e : ¬ nI (dw (zz (zz z)) % N) = nI (dw (zz (zz (zz z))) % N) := fun w => q ((nI_eq (by omega) (by omega)).mp w)
      have six2 := six
      have sev2 := sev
      generalize dw (zz (zz z)) % N = i at *
      generalize dw (zz (zz (zz z))) % N = j at *
      refine ⟨zz (zz (zz (zz z))), upd ca i (ca i ||| nI (2 ^ j)), upd (upd near i (if near i < near j then near j else near i)) j (if near i < near j then near j else near i), upd sh (dw z % N) (nI (dw (zz z) % 10)), me_B l3 l4 hB, ?_, ?_⟩
      · intro K hK
        refine six K ⟨fun w => absurd w e, fun _ => ?_⟩
        rw [me_6 l3 l4]; exact hK
      · intro em m d r r1 r0
        refine ⟨fun w => absurd w c, fun _ K hK => sev em m d r r1 r0 K (fun m' a1 a2 a3 a4 => ⟨fun w => absurd w e, fun _ => ?_⟩)⟩
        rw [me_7 l3 l4 a1]
        refine hK _ (me_R l3 l4 a1 _ _) ?_ ?_ (fun k hk => ?_)
        · rw [pk_un (by omega), pk_un (by omega), pk_un (by omega)]; exact a2
        · rw [pk_un (by omega), pk_un (by omega), pk_un (by omega)]; exact a3
        · rw [pk_un (by omega), pk_un (by omega), pk_un (by omega)]; exact a4 k hk
