/-! signs -/
def bcx (p1 : Int32) : Int32 := ((((((((p1 - (((p1.toUInt32 >>> ((1 : Int32).toUInt32 &&& Int32.toUInt32 31)).toInt32) &&& (1431655765 : Int32))) &&& (858993459 : Int32)) + ((((p1 - (((p1.toUInt32 >>> ((1 : Int32).toUInt32 &&& Int32.toUInt32 31)).toInt32) &&& (1431655765 : Int32))).toUInt32 >>> ((2 : Int32).toUInt32 &&& Int32.toUInt32 31)).toInt32) &&& (858993459 : Int32))) + (((((p1 - (((p1.toUInt32 >>> ((1 : Int32).toUInt32 &&& Int32.toUInt32 31)).toInt32) &&& (1431655765 : Int32))) &&& (858993459 : Int32)) + ((((p1 - (((p1.toUInt32 >>> ((1 : Int32).toUInt32 &&& Int32.toUInt32 31)).toInt32) &&& (1431655765 : Int32))).toUInt32 >>> ((2 : Int32).toUInt32 &&& Int32.toUInt32 31)).toInt32) &&& (858993459 : Int32))).toUInt32 >>> ((4 : Int32).toUInt32 &&& Int32.toUInt32 31)).toInt32)) &&& (252645135 : Int32)) + (((((((p1 - (((p1.toUInt32 >>> ((1 : Int32).toUInt32 &&& Int32.toUInt32 31)).toInt32) &&& (1431655765 : Int32))) &&& (858993459 : Int32)) + ((((p1 - (((p1.toUInt32 >>> ((1 : Int32).toUInt32 &&& Int32.toUInt32 31)).toInt32) &&& (1431655765 : Int32))).toUInt32 >>> ((2 : Int32).toUInt32 &&& Int32.toUInt32 31)).toInt32) &&& (858993459 : Int32))) + (((((p1 - (((p1.toUInt32 >>> ((1 : Int32).toUInt32 &&& Int32.toUInt32 31)).toInt32) &&& (1431655765 : Int32))) &&& (858993459 : Int32)) + ((((p1 - (((p1.toUInt32 >>> ((1 : Int32).toUInt32 &&& Int32.toUInt32 31)).toInt32) &&& (1431655765 : Int32))).toUInt32 >>> ((2 : Int32).toUInt32 &&& Int32.toUInt32 31)).toInt32) &&& (858993459 : Int32))).toUInt32 >>> ((4 : Int32).toUInt32 &&& Int32.toUInt32 31)).toInt32)) &&& (252645135 : Int32)).toUInt32 >>> ((8 : Int32).toUInt32 &&& Int32.toUInt32 31)).toInt32)) + ((((((((p1 - (((p1.toUInt32 >>> ((1 : Int32).toUInt32 &&& Int32.toUInt32 31)).toInt32) &&& (1431655765 : Int32))) &&& (858993459 : Int32)) + ((((p1 - (((p1.toUInt32 >>> ((1 : Int32).toUInt32 &&& Int32.toUInt32 31)).toInt32) &&& (1431655765 : Int32))).toUInt32 >>> ((2 : Int32).toUInt32 &&& Int32.toUInt32 31)).toInt32) &&& (858993459 : Int32))) + (((((p1 - (((p1.toUInt32 >>> ((1 : Int32).toUInt32 &&& Int32.toUInt32 31)).toInt32) &&& (1431655765 : Int32))) &&& (858993459 : Int32)) + ((((p1 - (((p1.toUInt32 >>> ((1 : Int32).toUInt32 &&& Int32.toUInt32 31)).toInt32) &&& (1431655765 : Int32))).toUInt32 >>> ((2 : Int32).toUInt32 &&& Int32.toUInt32 31)).toInt32) &&& (858993459 : Int32))).toUInt32 >>> ((4 : Int32).toUInt32 &&& Int32.toUInt32 31)).toInt32)) &&& (252645135 : Int32)) + (((((((p1 - (((p1.toUInt32 >>> ((1 : Int32).toUInt32 &&& Int32.toUInt32 31)).toInt32) &&& (1431655765 : Int32))) &&& (858993459 : Int32)) + ((((p1 - (((p1.toUInt32 >>> ((1 : Int32).toUInt32 &&& Int32.toUInt32 31)).toInt32) &&& (1431655765 : Int32))).toUInt32 >>> ((2 : Int32).toUInt32 &&& Int32.toUInt32 31)).toInt32) &&& (858993459 : Int32))) + (((((p1 - (((p1.toUInt32 >>> ((1 : Int32).toUInt32 &&& Int32.toUInt32 31)).toInt32) &&& (1431655765 : Int32))) &&& (858993459 : Int32)) + ((((p1 - (((p1.toUInt32 >>> ((1 : Int32).toUInt32 &&& Int32.toUInt32 31)).toInt32) &&& (1431655765 : Int32))).toUInt32 >>> ((2 : Int32).toUInt32 &&& Int32.toUInt32 31)).toInt32) &&& (858993459 : Int32))).toUInt32 >>> ((4 : Int32).toUInt32 &&& Int32.toUInt32 31)).toInt32)) &&& (252645135 : Int32)).toUInt32 >>> ((8 : Int32).toUInt32 &&& Int32.toUInt32 31)).toInt32)).toUInt32 >>> ((16 : Int32).toUInt32 &&& Int32.toUInt32 31)).toInt32)) &&& (63 : Int32))
theorem bc_6 (x : Int32) (K : Int32 → Prop) : v_J6_bitCount_0f7a4 x K = K (bcx x) := rfl
def mci (s : Int32) : Nat → Int32
  | 0 => 0
  | k + 1 => mci s k + ((s >>> (nI k &&& 31)) &&& 1)
theorem bc_mc : ∀ s, s < 256 → mci (nI s) 8 = bcx (nI s) := by decide +kernel
theorem mi_7 {s : Nat} (hs : s < 256) (K : Int32 → Prop) (hK : K (bcx (nI s))) : v_X7_manyIn (nI s) K := by
  unfold v_X7_manyIn
  have lo : ∀ e k, k + e = 8 → l_X7_manyIn_4 (nI s) K (e + 1) (mci (nI s) k) (nI k) := by
    intro e
    induction e with
    | zero =>
      intro k hk
      have e : k = 8 := by omega
      subst e
      rw [l_X7_manyIn_4, br_y (show (8 : Int32) ≤ nI 8 by decide), bc_mc s hs]
      exact hK
    | succ e ih =>
      intro k hk
      have a0 : ¬ (8 : Int32) ≤ nI k := nI_ge (b := 8) (by omega) (by decide)
      have n := ih (k + 1) (by omega)
      rw [mci] at n
      rw [l_X7_manyIn_4, br_n a0, nI_1]
      exact n
  exact ⟨9, lo 8 0 (by omega)⟩
theorem s_l : ∀ n, n < 32 → ((nI n &&& 31).toBitVec.smod 32).toNat = n := by decide +kernel
theorem bt_e {s q : Nat} (hs : s < 256) (hq : q < 8) : (nI s >>> (nI q &&& 31)) &&& 1 = nI (s / 2 ^ q % 2) := by
  have h1 : s / 2 ^ q ≤ s := Nat.div_le_self _ _
  rw [pk_shrN (by omega) _ q (s_l q (by omega)), pk_andN (by omega) 1 (by decide)]
/-- what one becomes comes of one's own -/
theorem di_loc {N : Nat} (kd em ts gs : Nat → Int32) (tn gn D : Nat) {n1 s1 n2 s2 : Nat → Int32} {q : Nat} (hq : q < N) (h1 : n1 q = n2 q) (h2 : s1 q = s2 q) : ∀ k, (di N kd em ts gs tn gn D n1 s1 k).1 q = (di N kd em ts gs tn gn D n2 s2 k).1 q ∧ (di N kd em ts gs tn gn D n1 s1 k).2 q = (di N kd em ts gs tn gn D n2 s2 k).2 q
  | 0 => ⟨h1, h2⟩
  | k + 1 => by
    obtain ⟨a, b⟩ := di_loc kd em ts gs tn gn D hq h1 h2 k
    simp only [di, dN, dS]
    rw [if_pos hq, if_pos hq, if_pos hq, if_pos hq, a, b]
    exact ⟨rfl, rfl⟩
theorem be_cong {n1 n2 : Nat → Int32} : ∀ k, (∀ q, q < k → n1 q = n2 q) → be n1 k = be n2 k
  | 0, _ => rfl
  | k + 1, h => by
    have ih := be_cong k (fun q hq => h q (by omega))
    rw [be, be, ih]
    by_cases c : k = 0
    · rw [if_pos c, if_pos c]
    · rw [if_neg c, if_neg c, h k (by omega), h (be n2 k) (by have := be_lt n2 k (by omega); omega)]
theorem bst_cong {n1 n2 : Nat → Int32} (k : Nat) (h : ∀ q, q < k → n1 q = n2 q) : bst n1 k = bst n2 k := by
  unfold bst
  rw [be_cong k h]
theorem bst_or (f : Nat → Int32) {k : Nat} (hk : k ≤ 8) : bst f k = -1 ∨ ∃ j : Nat, j < k ∧ bst f k = nI j := by
  unfold bst
  by_cases c : k = 0
  · exact Or.inl (if_pos c)
  · exact Or.inr ⟨be f k, be_lt f k (by omega), if_neg c⟩
/-- all who SHOW a sign -/
def sgd (N : Nat) (sh : Nat → Int32) (v : Int32) : Nat → Int32 := fun q => if q < N then v else sh q
theorem ts_6 {N tn gn D n : Nat} {v : Int32} {kd em ts gs m near sh gnear gsh : Nat → Int32} {gd : Int32} {K : (Nat → Int32) → (Nat → Int32) → Int32 → (Nat → Int32) → (Nat → Int32) → Prop} (hN : N ≤ 8) (hn : n < 200) (hT : TX 0 tn ts m) (hG : TX 1 gn gs m)
    (hK : ∀ tst' gst', K tst' gst' (nI (D + n)) (di N kd em ts gs tn gn D (t0 near gnear) (sgd N (t0 sh gsh) v) n).1 (di N kd em ts gs tn gn D (t0 near gnear) (sgd N (t0 sh gsh) v) n).2) (tst gst : Nat → Int32) : v_X6_thinkSigned v (nI n) (nI N) kd em (nI D) near sh 99 (nI tn) ts tst 9 (nI gn) gs gst gd gnear gsh K := by
  unfold v_X6_thinkSigned
  refine cy_3 ?_
  have lo2 : ∀ e k tst gst, k + e = n → l_X6_thinkSigned_45 v (nI n) (nI N) kd em (nI D) near sh 99 (nI tn) ts 9 (nI gn) gs K (e + 1) (nI k) tst gst (nI (D + k)) (di N kd em ts gs tn gn D (t0 near gnear) (sgd N (t0 sh gsh) v) k).1 (di N kd em ts gs tn gn D (t0 near gnear) (sgd N (t0 sh gsh) v) k).2 := by
    intro e
    induction e with
    | zero =>
      intro k tst gst hk
      have e : k = n := by omega
      subst e
      rw [l_X6_thinkSigned_45, br_y (nI_le (Nat.le_refl _) (by omega))]
      exact hK _ _
    | succ e ih =>
      intro k tst gst hk
      have a0 : ¬ nI n ≤ nI k := nI_ge (by omega) (by omega)
      rw [l_X6_thinkSigned_45, br_n a0]
      refine pa_6 hN hT hG (fun r tst' gst' _ => ?_) tst gst
      rw [nI_1, nI_1]
      exact ih (k + 1) _ _ (by omega)
  have lo : ∀ e k s1, k + e = N → (s1 = fun q => if q < k then v else t0 sh gsh q) → l_X6_thinkSigned_16 v (nI n) (nI N) kd em (nI D) near sh 99 (nI tn) ts 9 (nI gn) gs K (e + 1) (nI k) tst gst (nI D) (t0 near gnear) s1 := by
    intro e
    induction e with
    | zero =>
      intro k s1 hk h1
      have e : k = N := by omega
      subst e
      rw [l_X6_thinkSigned_16, br_y (nI_le (Nat.le_refl _) (by omega)), h1]
      exact ⟨n + 1, lo2 n 0 tst gst (by omega)⟩
    | succ e ih =>
      intro k s1 hk h1
      have a0 : ¬ nI N ≤ nI k := nI_ge (by omega) (by omega)
      have hk8 : k < 8 := by omega
      rw [l_X6_thinkSigned_16, br_n a0, vi_8 hk8, true_and, cl_8 hk8, nI_1]
      refine ih (k + 1) _ (by omega) ?_
      rw [h1]; funext q; rw [up_at]
      by_cases y : q = k
      · subst y; rw [if_pos rfl, if_pos (by omega)]
      · rw [if_neg y]
        by_cases w : q < k
        · rw [if_pos w, if_pos (by omega)]
        · rw [if_neg w, if_neg (by omega)]
  refine ⟨N + 1, lo N 0 _ (by omega) ?_⟩
  funext q; rw [if_neg (Nat.not_lt_zero q)]
/-- looked up person by person -/
def mx (tnr gnr : Nat → Int32) (s : Nat) : Nat → Int32 := fun q => if s / 2 ^ q % 2 = 0 then tnr q else gnr q
theorem ni_6 {s q : Nat} (hs : s < 256) (hq : q < 8) {tnr gnr : Nat → Int32} {K : Int32 → Prop} (hK : K (mx tnr gnr s q)) : v_X6_nearIfSigned (nI q) (nI s) tnr gnr K := by
  unfold v_X6_nearIfSigned
  rw [bt_e hs hq, vi_8 hq, true_and, true_and, cl_8 hq]
  unfold mx at hK
  refine ⟨fun w => ?_, fun w => ?_⟩
  · have w2 : s / 2 ^ q % 2 = 0 := (nI_eq (b := 0) (by omega) (by decide)).mp w
    rw [if_pos w2] at hK; exact hK
  · have w2 : ¬ s / 2 ^ q % 2 = 0 := fun z => w (by rw [z]; rfl)
    rw [if_neg w2] at hK; exact hK
theorem ns_6 {N s : Nat} (hN : N ≤ 8) (hs : s < 256) {tnr gnr : Nat → Int32} {K : Int32 → Prop} (hK : K (bst (mx tnr gnr s) N)) : v_X6_nearestIfSigned (nI s) (nI N) tnr gnr K := by
  unfold v_X6_nearestIfSigned
  have lo : ∀ e k, k + e = N → l_X6_nearestIfSigned_4 (nI s) (nI N) tnr gnr K (e + 1) (bst (mx tnr gnr s) k) (nI k) := by
    intro e
    induction e with
    | zero =>
      intro k hk
      have e : k = N := by omega
      subst e
      rw [l_X6_nearestIfSigned_4, br_y (nI_le (Nat.le_refl _) (by omega))]
      exact hK
    | succ e ih =>
      intro k hk
      have a0 : ¬ nI N ≤ nI k := nI_ge (by omega) (by omega)
      have hk8 : k < 8 := by omega
      have n := ih (k + 1) (by omega)
      rw [l_X6_nearestIfSigned_4, br_n a0]
      simp only [j_X6_nearestIfSigned_34, j_X6_nearestIfSigned_36, nI_1]
      by_cases c : k = 0
      · subst c
        have e1 : bst (mx tnr gnr s) (0 + 1) = nI 0 := rfl
        rw [e1] at n
        rw [br_y (show bst (mx tnr gnr s) 0 < 0 from (by decide : (-1 : Int32) < 0))]
        exact n
      · have hb := be_lt (mx tnr gnr s) k (by omega)
        have e1 : bst (mx tnr gnr s) k = nI (be (mx tnr gnr s) k) := if_neg c
        have e2 : bst (mx tnr gnr s) (k + 1) = nI (be (mx tnr gnr s) (k + 1)) := if_neg (by omega)
        rw [e2, be, if_neg c] at n
        rw [e1, br_n (nI_pos (by omega))]
        refine ni_6 hs hk8 ?_
        refine ni_6 hs (by omega) ?_
        refine ⟨fun q => ?_, fun q => ?_⟩
        · rw [if_pos q] at n; exact n
        · rw [if_neg q] at n; exact n
  exact ⟨N + 1, lo N 0 (by omega)⟩
def fwb (N p : Nat) (tnr gnr : Nat → Int32) : Nat → Int32
  | 0 => -1
  | s + 1 => if (fwb N p tnr gnr s < 0 ∨ bcx (nI s) < bcx (fwb N p tnr gnr s)) ∧ bst (mx tnr gnr s) N = nI p then nI s else fwb N p tnr gnr s
theorem fwb_or (N p : Nat) (tnr gnr : Nat → Int32) : ∀ s, fwb N p tnr gnr s = -1 ∨ ∃ b : Nat, b < s ∧ fwb N p tnr gnr s = nI b
  | 0 => Or.inl rfl
  | s + 1 => by
    rw [fwb]
    split
    · exact Or.inr ⟨s, by omega, rfl⟩
    · rcases fwb_or N p tnr gnr s with h | ⟨b, hb, e⟩
      · exact Or.inl h
      · exact Or.inr ⟨b, by omega, e⟩
theorem p2_8 {N : Nat} (hN : N ≤ 8) : 2 ^ N ≤ 256 := by
  have h := Nat.pow_le_pow_right (n := 2) (by decide) hN
  exact h
theorem sh_N : ∀ N, N < 9 → (1 : Int32) <<< (nI N &&& 31) = nI (2 ^ N) := by decide +kernel
theorem fw_6 {N p : Nat} (hN : N ≤ 8) {tnr gnr : Nat → Int32} {K : Int32 → Prop} (hK : K (fwb N p tnr gnr (2 ^ N))) : v_X6_fewestFor (nI p) (nI N) tnr gnr K := by
  unfold v_X6_fewestFor
  have h256 := p2_8 hN
  have lo : ∀ e s, s + e = 2 ^ N → l_X6_fewestFor_4 (nI p) (nI N) tnr gnr K (e + 1) (fwb N p tnr gnr s) (nI s) := by
    intro e
    induction e with
    | zero =>
      intro s hs
      have e : s = 2 ^ N := by omega
      subst e
      rw [l_X6_fewestFor_4, sh_N N (by omega), br_y (nI_le (Nat.le_refl _) (by omega))]
      exact hK
    | succ e ih =>
      intro s hs
      have a0 : ¬ nI (2 ^ N) ≤ nI s := nI_ge (by omega) (by omega)
      have n := ih (s + 1) (by omega)
      rw [fwb] at n
      rw [l_X6_fewestFor_4, sh_N N (by omega), br_n a0]
      have yes : (fwb N p tnr gnr s < 0 ∨ bcx (nI s) < bcx (fwb N p tnr gnr s)) → j_X6_fewestFor_32 (nI p) (nI N) tnr gnr (fun x2' x3' => l_X6_fewestFor_4 (nI p) (nI N) tnr gnr K (e + 1) x2' x3') K (fwb N p tnr gnr s) (nI s) := by
        intro hy
        simp only [j_X6_fewestFor_32, j_X6_fewestFor_37, j_X6_fewestFor_55, b1_0, b1_0, true_implies, false_implies, not_true_eq_false, not_false_eq_true, and_true, true_and, implies_true, nI_1]
        refine ns_6 hN (by omega) ⟨fun q => ?_, fun q => ?_⟩
        · rw [if_neg (fun z => q z.2)] at n; exact n
        · rw [if_pos ⟨hy, q⟩] at n; exact n
      refine ⟨fun q => yes (Or.inl q), fun q => ?_⟩
      rw [bc_6, bc_6]
      refine ⟨fun q2 => ?_, fun q2 => yes (Or.inr ?_)⟩
      · have q3 : ¬ bcx (nI s) < bcx (fwb N p tnr gnr s) := by
          rw [fa_le] at q2; rw [fa_lt]; omega
        rw [if_neg (fun z => z.1.elim q q3)] at n
        simp only [j_X6_fewestFor_37, j_X6_fewestFor_55, b1_0, true_implies, false_implies, not_true_eq_false, not_false_eq_true, and_true, true_and, implies_true, nI_1]
        exact n
      · rw [fa_le] at q2; rw [fa_lt]; omega
  exact ⟨2 ^ N + 1, lo (2 ^ N) 0 (by omega)⟩
