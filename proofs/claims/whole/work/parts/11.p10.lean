/-! signs -/
def bcx (p1 : Int32) : Int32 := ((((((((p1 - (((p1.toUInt32 >>> ((1 : Int32).toUInt32 &&& Int32.toUInt32 31)).toInt32) &&& (1431655765 : Int32))) &&& (858993459 : Int32)) + ((((p1 - (((p1.toUInt32 >>> ((1 : Int32).toUInt32 &&& Int32.toUInt32 31)).toInt32) &&& (1431655765 : Int32))).toUInt32 >>> ((2 : Int32).toUInt32 &&& Int32.toUInt32 31)).toInt32) &&& (858993459 : Int32))) + (((((p1 - (((p1.toUInt32 >>> ((1 : Int32).toUInt32 &&& Int32.toUInt32 31)).toInt32) &&& (1431655765 : Int32))) &&& (858993459 : Int32)) + ((((p1 - (((p1.toUInt32 >>> ((1 : Int32).toUInt32 &&& Int32.toUInt32 31)).toInt32) &&& (1431655765 : Int32))).toUInt32 >>> ((2 : Int32).toUInt32 &&& Int32.toUInt32 31)).toInt32) &&& (858993459 : Int32))).toUInt32 >>> ((4 : Int32).toUInt32 &&& Int32.toUInt32 31)).toInt32)) &&& (252645135 : Int32)) + (((((((p1 - (((p1.toUInt32 >>> ((1 : Int32).toUInt32 &&& Int32.toUInt32 31)).toInt32) &&& (1431655765 : Int32))) &&& (858993459 : Int32)) + ((((p1 - (((p1.toUInt32 >>> ((1 : Int32).toUInt32 &&& Int32.toUInt32 31)).toInt32) &&& (1431655765 : Int32))).toUInt32 >>> ((2 : Int32).toUInt32 &&& Int32.toUInt32 31)).toInt32) &&& (858993459 : Int32))) + (((((p1 - (((p1.toUInt32 >>> ((1 : Int32).toUInt32 &&& Int32.toUInt32 31)).toInt32) &&& (1431655765 : Int32))) &&& (858993459 : Int32)) + ((((p1 - (((p1.toUInt32 >>> ((1 : Int32).toUInt32 &&& Int32.toUInt32 31)).toInt32) &&& (1431655765 : Int32))).toUInt32 >>> ((2 : Int32).toUInt32 &&& Int32.toUInt32 31)).toInt32) &&& (858993459 : Int32))).toUInt32 >>> ((4 : Int32).toUInt32 &&& Int32.toUInt32 31)).toInt32)) &&& (252645135 : Int32)).toUInt32 >>> ((8 : Int32).toUInt32 &&& Int32.toUInt32 31)).toInt32)) + ((((((((p1 - (((p1.toUInt32 >>> ((1 : Int32).toUInt32 &&& Int32.toUInt32 31)).toInt32) &&& (1431655765 : Int32))) &&& (858993459 : Int32)) + ((((p1 - (((p1.toUInt32 >>> ((1 : Int32).toUInt32 &&& Int32.toUInt32 31)).toInt32) &&& (1431655765 : Int32))).toUInt32 >>> ((2 : Int32).toUInt32 &&& Int32.toUInt32 31)).toInt32) &&& (858993459 : Int32))) + (((((p1 - (((p1.toUInt32 >>> ((1 : Int32).toUInt32 &&& Int32.toUInt32 31)).toInt32) &&& (1431655765 : Int32))) &&& (858993459 : Int32)) + ((((p1 - (((p1.toUInt32 >>> ((1 : Int32).toUInt32 &&& Int32.toUInt32 31)).toInt32) &&& (1431655765 : Int32))).toUInt32 >>> ((2 : Int32).toUInt32 &&& Int32.toUInt32 31)).toInt32) &&& (858993459 : Int32))).toUInt32 >>> ((4 : Int32).toUInt32 &&& Int32.toUInt32 31)).toInt32)) &&& (252645135 : Int32)) + (((((((p1 - (((p1.toUInt32 >>> ((1 : Int32).toUInt32 &&& Int32.toUInt32 31)).toInt32) &&& (1431655765 : Int32))) &&& (858993459 : Int32)) + ((((p1 - (((p1.toUInt32 >>> ((1 : Int32).toUInt32 &&& Int32.toUInt32 31)).toInt32) &&& (1431655765 : Int32))).toUInt32 >>> ((2 : Int32).toUInt32 &&& Int32.toUInt32 31)).toInt32) &&& (858993459 : Int32))) + (((((p1 - (((p1.toUInt32 >>> ((1 : Int32).toUInt32 &&& Int32.toUInt32 31)).toInt32) &&& (1431655765 : Int32))) &&& (858993459 : Int32)) + ((((p1 - (((p1.toUInt32 >>> ((1 : Int32).toUInt32 &&& Int32.toUInt32 31)).toInt32) &&& (1431655765 : Int32))).toUInt32 >>> ((2 : Int32).toUInt32 &&& Int32.toUInt32 31)).toInt32) &&& (858993459 : Int32))).toUInt32 >>> ((4 : Int32).toUInt32 &&& Int32.toUInt32 31)).toInt32)) &&& (252645135 : Int32)).toUInt32 >>> ((8 : Int32).toUInt32 &&& Int32.toUInt32 31)).toInt32)).toUInt32 >>> ((16 : Int32).toUInt32 &&& Int32.toUInt32 31)).toInt32)) &&& (63 : Int32))
theorem bc_6 (x : Int32) (K : Int32 → Prop) : v_J6_bitCount_0f7a4 x K = K (bcx x) := rfl
def mci (s : Int32) : Nat → Int32
  | 0 => 0
  | k + 1 => mci s k + ((s >>> (nI k &&& 31)) &&& 1)
theorem bc_mc : ∀ s, s < 256 → mci (nI s) 8 = bcx (nI s) := by decide +kernel
theorem mi_7 {s : Nat} (hs : s < 256) (K : Int32 → Prop) (hK : K (bcx (nI s))) : v_X7_manyIn (nI s) K := by
  unfold v_X7_manyIn
  have lo : ∀ e k, k + e = 8 → l_X7_manyIn_4 (nI s) K (e + 1) (mci (nI s) k) (nI k) := by
    intro e
    induction e with
    | zero =>
      intro k hk
      have e : k = 8 := by omega
      subst e
      rw [l_X7_manyIn_4, br_y (show (8 : Int32) ≤ nI 8 by decide), bc_mc s hs]
      exact hK
    | succ e ih =>
      intro k hk
      have a0 : ¬ (8 : Int32) ≤ nI k := nI_ge (b := 8) (by omega) (by decide)
      have n := ih (k + 1) (by omega)
      rw [mci] at n
      rw [l_X7_manyIn_4, br_n a0, nI_1]
      exact n
  exact ⟨9, lo 8 0 (by omega)⟩
theorem s_l : ∀ n, n < 32 → ((nI n &&& 31).toBitVec.smod 32).toNat = n := by decide +kernel
theorem bt_e {s q : Nat} (hs : s < 256) (hq : q < 8) : (nI s >>> (nI q &&& 31)) &&& 1 = nI (s / 2 ^ q % 2) := by
  have h1 : s / 2 ^ q ≤ s := Nat.div_le_self _ _
  rw [pk_shrN (by omega) _ q (s_l q (by omega)), pk_andN (by omega) 1 (by decide)]
/-- what one becomes comes of one's own -/
theorem di_loc {N : Nat} (kd em ts gs : Nat → Int32) (tn gn D : Nat) {n1 s1 n2 s2 : Nat → Int32} {q : Nat} (hq : q < N) (h1 : n1 q = n2 q) (h2 : s1 q = s2 q) : ∀ k, (di N kd em ts gs tn gn D n1 s1 k).1 q = (di N kd em ts gs tn gn D n2 s2 k).1 q ∧ (di N kd em ts gs tn gn D n1 s1 k).2 q = (di N kd em ts gs tn gn D n2 s2 k).2 q
  | 0 => ⟨h1, h2⟩
  | k + 1 => by
    obtain ⟨a, b⟩ := di_loc kd em ts gs tn gn D hq h1 h2 k
    simp only [di, dN, dS]
    rw [if_pos hq, if_pos hq, if_pos hq, if_pos hq, a, b]
    exact ⟨rfl, rfl⟩
theorem be_cong {n1 n2 : Nat → Int32} : ∀ k, (∀ q, q < k → n1 q = n2 q) → be n1 k = be n2 k
  | 0, _ => rfl
  | k + 1, h => by
    have ih := be_cong k (fun q hq => h q (by omega))
    rw [be, be, ih]
    by_cases c : k = 0
    · rw [if_pos c, if_pos c]
    · rw [if_neg c, if_neg c, h k (by omega), h (be n2 k) (by have := be_lt n2 k (by omega); omega)]
theorem bst_cong {n1 n2 : Nat → Int32} (k : Nat) (h : ∀ q, q < k → n1 q = n2 q) : bst n1 k = bst n2 k := by
  unfold bst
  rw [be_cong k h]
theorem bst_or (f : Nat → Int32) {k : Nat} (hk : k ≤ 8) : bst f k = -1 ∨ ∃ j : Nat, j < k ∧ bst f k = nI j := by
  unfold bst
  by_cases c : k = 0
  · exact Or.inl (if_pos c)
  · exact Or.inr ⟨be f k, be_lt f k (by omega), if_neg c⟩
/-- all who SHOW a sign -/
def sgd (N : Nat) (sh : Nat → Int32) (v : Int32) : Nat → Int32 := fun q => if q < N then v else sh q
theorem ts_6 {N tn gn D n : Nat} {v : Int32} {kd em ts gs m near sh gnear gsh : Nat → Int32} {gd : Int32} {K : (Nat → Int32) → (Nat → Int32) → Int32 → (Nat → Int32) → (Nat → Int32) → Prop} (hN : N ≤ 8) (hn : n < 200) (hT : TX 0 tn ts m) (hG : TX 1 gn gs m)
    (hK : ∀ tst' gst', K tst' gst' (nI (D + n)) (di N kd em ts gs tn gn D (t0 near gnear) (sgd N (t0 sh gsh) v) n).1 (di N kd em ts gs tn gn D (t0 near gnear) (sgd N (t0 sh gsh) v) n).2) (tst gst : Nat → Int32) : v_X6_thinkSigned v (nI n) (nI N) kd em (nI D) near sh 99 (nI tn) ts tst 9 (nI gn) gs gst gd gnear gsh K := by
  unfold v_X6_thinkSigned
  refine cy_3 ?_
  have lo2 : ∀ e k tst gst, k + e = n → l_X6_thinkSigned_45 v (nI n) (nI N) kd em (nI D) near sh 99 (nI tn) ts 9 (nI gn) gs K (e + 1) (nI k) tst gst (nI (D + k)) (di N kd em ts gs tn gn D (t0 near gnear) (sgd N (t0 sh gsh) v) k).1 (di N kd em ts gs tn gn D (t0 near gnear) (sgd N (t0 sh gsh) v) k).2 := by
    intro e
    induction e with
    | zero =>
      intro k tst gst hk
      have e : k = n := by omega
      subst e
      rw [l_X6_thinkSigned_45, br_y (nI_le (Nat.le_refl _) (by omega))]
      exact hK _ _
    | succ e ih =>
      intro k tst gst hk
      have a0 : ¬ nI n ≤ nI k := nI_ge (by omega) (by omega)
      rw [l_X6_thinkSigned_45, br_n a0]
      refine pa_6 hN hT hG (fun r tst' gst' _ => ?_) tst gst
      rw [nI_1, nI_1]
      exact ih (k + 1) _ _ (by omega)
  have lo : ∀ e k s1, k + e = N → (s1 = fun q => if q < k then v else t0 sh gsh q) → l_X6_thinkSigned_16 v (nI n) (nI N) kd em (nI D) near sh 99 (nI tn) ts 9 (nI gn) gs K (e + 1) (nI k) tst gst (nI D) (t0 near gnear) s1 := by
    intro e
    induction e with
    | zero =>
      intro k s1 hk h1
      have e : k = N := by omega
      subst e
      rw [l_X6_thinkSigned_16, br_y (nI_le (Nat.le_refl _) (by omega)), h1]
      exact ⟨n + 1, lo2 n 0 tst gst (by omega)⟩
    | succ e ih =>
      intro k s1 hk h1
      have a0 : ¬ nI N ≤ nI k := nI_ge (by omega) (by omega)
      have hk8 : k < 8 := by omega
      rw [l_X6_thinkSigned_16, br_n a0, vi_8 hk8, true_and, cl_8 hk8, nI_1]
      refine ih (k + 1) _ (by omega) ?_
      rw [h1]; funext q; rw [up_at]
      by_cases y : q = k
      · subst y; rw [if_pos rfl, if_pos (by omega)]
      · rw [if_neg y]
        by_cases w : q < k
        · rw [if_pos w, if_pos (by omega)]
        · rw [if_neg w, if_neg (by omega)]
  refine ⟨N + 1, lo N 0 _ (by omega) ?_⟩
  funext q; rw [if_neg (Nat.not_lt_zero q)]
/-- looked up person by person -/
def mx (tnr gnr : Nat → Int32) (s : Nat) : Nat → Int32 := fun q => if s / 2 ^ q % 2 = 0 then tnr q else gnr q
theorem ni_6 {s q : Nat} (hs : s < 256) (hq : q < 8) {tnr gnr : Nat → Int32} {K : Int32 → Prop} (hK : K (mx tnr gnr s q)) : v_X6_nearIfSigned (nI q) (nI s) tnr gnr K := by
  unfold v_X6_nearIfSigned
  rw [bt_e hs hq, vi_8 hq, true_and, true_and, cl_8 hq]
  unfold mx at hK
  refine ⟨fun w => ?_, fun w => ?_⟩
  · have w2 : s / 2 ^ q % 2 = 0 := (nI_eq (b := 0) (by omega) (by decide)).mp w
    rw [if_pos w2] at hK; exact hK
  · have w2 : ¬ s / 2 ^ q % 2 = 0 := fun z => w (by rw [z]; rfl)
    rw [if_neg w2] at hK; exact hK
theorem ns_6 {N s : Nat} (hN : N ≤ 8) (hs : s < 256) {tnr gnr : Nat → Int32} {K : Int32 → Prop} (hK : K (bst (mx tnr gnr s) N)) : v_X6_nearestIfSigned (nI s) (nI N) tnr gnr K := by
  unfold v_X6_nearestIfSigned
  have lo : ∀ e k, k + e = N → l_X6_nearestIfSigned_4 (nI s) (nI N) tnr gnr K (e + 1) (bst (mx tnr gnr s) k) (nI k) := by
    intro e
    induction e with
    | zero =>
      intro k hk
      have e : k = N := by omega
      subst e
      rw [l_X6_nearestIfSigned_4, br_y (nI_le (Nat.le_refl _) (by omega))]
      exact hK
    | succ e ih =>
      intro k hk
      have a0 : ¬ nI N ≤ nI k := nI_ge (by omega) (by omega)
      have hk8 : k < 8 := by omega
      have n := ih (k + 1) (by omega)
      rw [l_X6_nearestIfSigned_4, br_n a0]
      simp only [j_X6_nearestIfSigned_34, j_X6_nearestIfSigned_36, nI_1]
      by_cases c : k = 0
      · subst c
        have e1 : bst (mx tnr gnr s) (0 + 1) = nI 0 := rfl
        rw [e1] at n
        rw [br_y (show bst (mx tnr gnr s) 0 < 0 from (by decide : (-1 : Int32) < 0))]
        exact n
      · have hb := be_lt (mx tnr gnr s) k (by omega)
        have e1 : bst (mx tnr gnr s) k = nI (be (mx tnr gnr s) k) := if_neg c
        have e2 : bst (mx tnr gnr s) (k + 1) = nI (be (mx tnr gnr s) (k + 1)) := if_neg (by omega)
        rw [e2, be, if_neg c] at n
        rw [e1, br_n (nI_pos (by omega))]
        refine ni_6 hs hk8 ?_
        refine ni_6 hs (by omega) ?_
        refine ⟨fun q => ?_, fun q => ?_⟩
        · rw [if_pos q] at n; exact n
        · rw [if_neg q] at n; exact n
  exact ⟨N + 1, lo N 0 (by omega)⟩
def fwb (N p : Nat) (tnr gnr : Nat → Int32) : Nat → Int32
  | 0 => -1
  | s + 1 => if (fwb N p tnr gnr s < 0 ∨ bcx (nI s) < bcx (fwb N p tnr gnr s)) ∧ bst (mx tnr gnr s) N = nI p then nI s else fwb N p tnr gnr s
theorem fwb_or (N p : Nat) (tnr gnr : Nat → Int32) : ∀ s, fwb N p tnr gnr s = -1 ∨ ∃ b : Nat, b < s ∧ fwb N p tnr gnr s = nI b
  | 0 => Or.inl rfl
  | s + 1 => by
    rw [fwb]
    split
    · exact Or.inr ⟨s, by omega, rfl⟩
    · rcases fwb_or N p tnr gnr s with h | ⟨b, hb, e⟩
      · exact Or.inl h
      · exact Or.inr ⟨b, by omega, e⟩
theorem p2_8 {N : Nat} (hN : N ≤ 8) : 2 ^ N ≤ 256 := by
  have h := Nat.pow_le_pow_right (n := 2) (by decide) hN
  exact h
theorem sh_N : ∀ N, N < 9 → (1 : Int32) <<< (nI N &&& 31) = nI (2 ^ N) := by decide +kernel
theorem fw_6 {N p : Nat} (hN : N ≤ 8) {tnr gnr : Nat → Int32} {K : Int32 → Prop} (hK : K (fwb N p tnr gnr (2 ^ N))) : v_X6_fewestFor (nI p) (nI N) tnr gnr K := by
  unfold v_X6_fewestFor
  have h256 := p2_8 hN
  have lo : ∀ e s, s + e = 2 ^ N → l_X6_fewestFor_4 (nI p) (nI N) tnr gnr K (e + 1) (fwb N p tnr gnr s) (nI s) := by
    intro e
    induction e with
    | zero =>
      intro s hs
      have e : s = 2 ^ N := by omega
      subst e
      rw [l_X6_fewestFor_4, sh_N N (by omega), br_y (nI_le (Nat.le_refl _) (by omega))]
      exact hK
    | succ e ih =>
      intro s hs
      have a0 : ¬ nI (2 ^ N) ≤ nI s := nI_ge (by omega) (by omega)
      have n := ih (s + 1) (by omega)
      rw [fwb] at n
      rw [l_X6_fewestFor_4, sh_N N (by omega), br_n a0]
      have yes : (fwb N p tnr gnr s < 0 ∨ bcx (nI s) < bcx (fwb N p tnr gnr s)) → j_X6_fewestFor_32 (nI p) (nI N) tnr gnr (fun x2' x3' => l_X6_fewestFor_4 (nI p) (nI N) tnr gnr K (e + 1) x2' x3') K (fwb N p tnr gnr s) (nI s) := by
        intro hy
        simp only [j_X6_fewestFor_32, j_X6_fewestFor_37, j_X6_fewestFor_55, b1_0, b1_0, true_implies, false_implies, not_true_eq_false, not_false_eq_true, and_true, true_and, implies_true, nI_1]
        refine ns_6 hN (by omega) ⟨fun q => ?_, fun q => ?_⟩
        · rw [if_neg (fun z => q z.2)] at n; exact n
        · rw [if_pos ⟨hy, q⟩] at n; exact n
      refine ⟨fun q => yes (Or.inl q), fun q => ?_⟩
      rw [bc_6, bc_6]
      refine ⟨fun q2 => ?_, fun q2 => yes (Or.inr ?_)⟩
      · have q3 : ¬ bcx (nI s) < bcx (fwb N p tnr gnr s) := by
          rw [fa_le] at q2; rw [fa_lt]; omega
        rw [if_neg (fun z => z.1.elim q q3)] at n
        simp only [j_X6_fewestFor_37, j_X6_fewestFor_55, b1_0, true_implies, false_implies, not_true_eq_false, not_false_eq_true, and_true, true_and, implies_true, nI_1]
        exact n
      · rw [fa_le] at q2; rw [fa_lt]; omega
  exact ⟨2 ^ N + 1, lo (2 ^ N) 0 (by omega)⟩
-- the twin's side
def shs_ (k : Nat) (sh : Nat → Int32) (v : Int32) (s : Nat) : Nat → Int32 := fun q => if q < k ∧ s / 2 ^ q % 2 = 1 then v else sh q
theorem dl_7 {N tn gn D n p s : Nat} {v : Int32} {kd em ca near sh ts gs m : Nat → Int32} {K : Int32 → (Nat → Int32) → (Nat → Int32) → (Nat → Int32) → (Nat → Int32) → (Nat → Int32) → (Nat → Int32) → Prop} (hN : N ≤ 8) (hn : n < 200) (hs : s < 256) (h : RP N kd em ca near sh m) (hd : m 0 = nI D) (hT : TX 0 tn ts m) (hG : TX 1 gn gs m)
    (hK : ∀ r laid' nm' pile' nt' st', (¬ r = 0 ↔ bst (di N kd em ts gs tn gn D near (shs_ N sh v s) n).1 N = nI p) → K r m laid' nm' pile' nt' st') (laid nm pile nt st : Nat → Int32) : v_X7_doesLead (nI p) v (nI n) (nI s) m laid nm pile nt st K := by
  unfold v_X7_doesLead
  refine ld_7 (fun laid' hl => ?_)
  have lo : ∀ e k m1, k + e = N → RP N kd em ca near (shs_ k sh v s) m1 → m1 0 = nI D → FD m m1 → l_X7_doesLead_7 (nI p) v (nI n) (nI s) K (e + 1) (nI k) m1 laid' nm pile nt st := by
    intro e
    induction e with
    | zero =>
      intro k m1 hk r r0 f
      have e : k = N := by omega
      subst e
      rw [l_X7_doesLead_7, v4_, true_and, c4, r.1, br_y (nI_le (Nat.le_refl _) (by omega))]
      refine go_7 hN hn r r0 (TX_fr hT (fun i hi => f i (by omega))) (TX_fr hG (fun i hi => f i (by omega))) (fun m2 nm2 pile2 nt2 st2 w w0 wf => ?_) nm pile nt st
      refine ne_7 hN w _ ?_
      have back : ∀ t, (¬ t = 0 ↔ bst (di k kd em ts gs tn gn D near (shs_ k sh v s) n).1 k = nI p) → j_X7_doesLead_71 (nI p) v (nI n) (nI s) K t m2 laid' nm2 pile2 nt2 st2 := by
        intro t ht
        unfold j_X7_doesLead_71
        refine lb_7 hl (fun i hi => by rw [wf i (by omega)]; exact f i (by omega)) ?_
        exact hK _ _ _ _ _ _ ht
      exact ⟨fun q => back 0 ⟨fun z => absurd rfl z, fun z => absurd z q⟩, fun q => back 1 ⟨fun _ => q, fun _ => by decide⟩⟩
    | succ e ih =>
      intro k m1 hk r r0 f
      have hkN : k < N := by omega
      have hk8 : k < 8 := by omega
      have a0 : ¬ nI N ≤ nI k := nI_ge hkN (by omega)
      rw [l_X7_doesLead_7, v4_, true_and, c4, r.1, br_n a0, bt_e hs hk8, it_3 hk8, (r.2 k hk8).2.2.2.1]
      have step : ∀ w, w = shs_ (k + 1) sh v s k → j_X7_doesLead_44 (nI p) v (nI n) (nI s) (fun x5' m_s' m_laid' m_named' m_pile' m_nearThen' m_shownThen' => l_X7_doesLead_7 (nI p) v (nI n) (nI s) K (e + 1) x5' m_s' m_laid' m_named' m_pile' m_nearThen' m_shownThen') K (nI k) (nI k) 3 w m1 laid' nm pile nt st := by
        intro w hw
        unfold j_X7_doesLead_44
        rw [ly_3 hk8, nI_1]
        refine ih (k + 1) _ (by omega) ?_ ?_ ?_
        · have q := RP_sh r hk8 w
          have e1 : upd (shs_ k sh v s) k w = shs_ (k + 1) sh v s := by
            funext q; rw [up_at]
            by_cases y : q = k
            · subst y; rw [if_pos rfl, hw]
            · rw [if_neg y]
              unfold shs_
              by_cases z : q < k
              · by_cases b : s / 2 ^ q % 2 = 1
                · rw [if_pos ⟨z, b⟩, if_pos ⟨by omega, b⟩]
                · rw [if_neg (fun g => b g.2), if_neg (fun g => b g.2)]
              · rw [if_neg (fun g => z g.1), if_neg (fun g => absurd g.1 (by omega))]
          rw [e1] at q; exact q
        · rw [pk_un (by omega)]; exact r0
        · intro i hi; rw [pk_un (by omega)]; exact f i hi
      refine ⟨fun q => ?_, fun q => ?_⟩
      · have q2 : ¬ s / 2 ^ k % 2 = 1 := fun z => q (by rw [z]; rfl)
        refine step _ ?_
        unfold shs_
        rw [if_neg (fun g => q2 g.2), if_neg (fun g => q2 g.2)]
      · have q2 : s / 2 ^ k % 2 = 1 := (nI_eq (b := 1) (by omega) (by decide)).mp q
        refine step _ ?_
        unfold shs_
        rw [if_pos ⟨by omega, q2⟩]
  refine ⟨N + 1, lo N 0 m (by omega) ?_ hd (fun _ _ => rfl)⟩
  have e1 : shs_ 0 sh v s = sh := by
    funext q; unfold shs_; rw [if_neg (fun g => absurd g.1 (Nat.not_lt_zero q))]
  rw [e1]; exact h
theorem mx_e {N tn gn D n s : Nat} {v : Int32} (kd em ts gs near sh tnr tsh gnr gsh : Nat → Int32) (hN : N ≤ 8) : bst (di N kd em ts gs tn gn D near (shs_ N sh v s) n).1 N = bst (mx (di N kd em ts gs tn gn D (t0 near tnr) (t0 sh tsh) n).1 (di N kd em ts gs tn gn D (t0 near gnr) (sgd N (t0 sh gsh) v) n).1 s) N := by
  refine bst_cong N (fun q hq => ?_)
  unfold mx
  by_cases b : s / 2 ^ q % 2 = 0
  · rw [if_pos b]
    refine (di_loc kd em ts gs tn gn D hq (t0_j _ _ (by omega)).symm ?_ n).1
    rw [t0_j _ _ (by omega)]
    unfold shs_
    rw [if_neg (fun g => absurd g.2 (by omega))]
  · rw [if_neg b]
    refine (di_loc kd em ts gs tn gn D hq (t0_j _ _ (by omega)).symm ?_ n).1
    unfold sgd shs_
    rw [if_pos hq, if_pos ⟨hq, by omega⟩]
theorem sg_7 {N tn gn D n p : Nat} {v y4 : Int32} {kd em ca near sh ts gs m me tnr gnr : Nat → Int32} {K : Int32 → (Nat → Int32) → (Nat → Int32) → (Nat → Int32) → (Nat → Int32) → (Nat → Int32) → (Nat → Int32) → (Nat → Int32) → Prop} (hN : N ≤ 8) (hn : n < 200) (h : RP N kd em ca near sh m) (hd : m 0 = nI D) (hT : TX 0 tn ts m) (hG : TX 1 gn gs m)
    (hm : ∀ s, bst (di N kd em ts gs tn gn D near (shs_ N sh v s) n).1 N = bst (mx tnr gnr s) N)
    (h1 : fwb N p tnr gnr (2 ^ N) = -1 → ∀ laid' nm' pile' nt' st', v_X7_error 2 me (fun r e => K r m laid' e nm' pile' nt' st'))
    (h2 : ∀ b, b < 256 → fwb N p tnr gnr (2 ^ N) = nI b → ∀ laid' nm' pile' nt' st', (¬ y4 = 0 → K (nI b) m laid' me nm' pile' nt' st') ∧ (y4 = 0 → K (bcx (nI b)) m laid' me nm' pile' nt' st')) : ∀ laid nm pile nt st, ∃ z, l_X7_signs_49 (nI p) v (nI n) y4 K z (-1) 0 m laid me nm pile nt st := by
  intro laid nm pile nt st
  have h256 := p2_8 hN
  have nn : ∀ b : Nat, b < 256 → ¬ nI b = -1 := fun b hb q => by
    have := (fa_eq _ _).mp q
    rw [nI_toInt (by omega), show (-1 : Int32).toInt = -1 by decide] at this
    omega
  have lo : ∀ e s laid nm pile nt st, s + e = 2 ^ N → l_X7_signs_49 (nI p) v (nI n) y4 K (e + 1) (fwb N p tnr gnr s) (nI s) m laid me nm pile nt st := by
    intro e
    induction e with
    | zero =>
      intro s laid nm pile nt st hs
      have e : s = 2 ^ N := by omega
      subst e
      rw [l_X7_signs_49, v4_, true_and, c4, h.1, sh_N N (by omega), br_y (nI_le (Nat.le_refl _) (by omega))]
      rcases fwb_or N p tnr gnr (2 ^ N) with w | ⟨b, hb, w⟩
      · rw [w, br_v rfl]
        exact h1 w _ _ _ _ _
      · have w2 : ¬ fwb N p tnr gnr (2 ^ N) = -1 := by rw [w]; exact nn b (by omega)
        rw [br_u w2, w]
        obtain ⟨u1, u2⟩ := h2 b (by omega) w laid nm pile nt st
        exact ⟨u1, fun q => mi_7 (by omega) _ (u2 q)⟩
    | succ e ih =>
      intro s laid nm pile nt st hs
      have a0 : ¬ nI (2 ^ N) ≤ nI s := nI_ge (by omega) (by omega)
      have n1 := fun a b c d e => ih (s + 1) a b c d e (by omega)
      rw [fwb] at n1
      rw [l_X7_signs_49, v4_, true_and, c4, h.1, sh_N N (by omega), br_n a0]
      have yes : (fwb N p tnr gnr s < 0 ∨ bcx (nI s) < bcx (fwb N p tnr gnr s)) → j_X7_signs_81 (nI p) v (nI n) y4 (fun x5' x6' m_s' m_laid' m_errors' m_named' m_pile' m_nearThen' m_shownThen' => l_X7_signs_49 (nI p) v (nI n) y4 K (e + 1) x5' x6' m_s' m_laid' m_errors' m_named' m_pile' m_nearThen' m_shownThen') K (fwb N p tnr gnr s) (nI s) m laid me nm pile nt st := by
        intro hy
        simp only [j_X7_signs_81, j_X7_signs_86, j_X7_signs_110, j_X7_signs_112, b1_0, b1_0, true_implies, false_implies, not_true_eq_false, not_false_eq_true, and_true, true_and, implies_true, nI_1]
        refine dl_7 hN hn (by omega) h hd hT hG (fun r laid' nm' pile' nt' st' hr => ?_) laid nm pile nt st
        rw [hm s] at hr
        refine ⟨fun q => ?_, fun q => ?_⟩
        · have := n1 laid' nm' pile' nt' st'
          rw [if_neg (fun z => hr.mpr z.2 q)] at this; exact this
        · have := n1 laid' nm' pile' nt' st'
          rw [if_pos ⟨hy, hr.mp q⟩] at this; exact this
      rcases fwb_or N p tnr gnr s with w | ⟨b, hb, w⟩
      · rw [br_y w]
        refine yes (Or.inl ?_)
        rw [w]; decide
      · have w2 : ¬ fwb N p tnr gnr s = -1 := by rw [w]; exact nn b (by omega)
        rw [br_n w2]
        refine mi_7 (by omega) _ ?_
        have e1 : ∀ K : Int32 → Prop, K (bcx (fwb N p tnr gnr s)) → v_X7_manyIn (fwb N p tnr gnr s) K := by
          rw [w]; exact fun K hK => mi_7 (by omega) K hK
        refine e1 _ ⟨fun q2 => ?_, fun q2 => yes (Or.inr ?_)⟩
        · have q3 : ¬ bcx (nI s) < bcx (fwb N p tnr gnr s) := by
            rw [fa_le] at q2; rw [fa_lt]; omega
          have q4 : ¬ fwb N p tnr gnr s < 0 := by rw [w]; exact nI_pos (by omega)
          simp only [j_X7_signs_86, j_X7_signs_110, j_X7_signs_112, b1_0, true_implies, false_implies, not_true_eq_false, not_false_eq_true, and_true, true_and, implies_true, nI_1]
          have := n1 laid nm pile nt st
          rw [if_neg (fun z => z.1.elim q4 q3)] at this
          exact this
        · rw [fa_le] at q2; rw [fa_lt]; omega
  exact ⟨2 ^ N + 1, lo (2 ^ N) 0 laid nm pile nt st (by omega)⟩
theorem p_signs {N tn gn D : Nat} {x v y y4 td gd : Int32} {kd em ca near sh ts gs m errs me tst gst tnr tsh gnr gsh laid nm pile nt st : Nat → Int32} {P : Int32 → (Nat → Int32) → (Nat → Int32) → Int32 → (Nat → Int32) → (Nat → Int32) → Int32 → (Nat → Int32) → (Nat → Int32) → (Nat → Int32) → Int32 → (Nat → Int32) → (Nat → Int32) → (Nat → Int32) → (Nat → Int32) → (Nat → Int32) → (Nat → Int32) → (Nat → Int32) → Prop} (hN : N ≤ 8) (h : RP N kd em ca near sh m) (hd : m 0 = nI D) (hT : TX 0 tn ts m) (hG : TX 1 gn gs m) (hE : RE errs me)
    (hP : ∀ r tst' gst' td' tnr' tsh' gd' gnr' gsh' errs' laid' me' nm' pile' nt' st', RE errs' me' → P r tst' gst' td' tnr' tsh' gd' gnr' gsh' errs' r m laid' me' nm' pile' nt' st') :
    v_X6_signs x v y y4 (nI N) kd em (nI D) near sh 99 (nI tn) ts tst 9 (nI gn) gs gst td tnr tsh gd gnr gsh errs (fun r tst' gst' td' tnr' tsh' gd' gnr' gsh' errs' => v_X7_signs x v y y4 m laid me nm pile nt st (fun r' m' laid' me' nm' pile' nt' st' => P r tst' gst' td' tnr' tsh' gd' gnr' gsh' errs' r' m' laid' me' nm' pile' nt' st')) := by
  have herr := hP (-1000000001) tst gst td tnr tsh gd gnr gsh (upd errs 1 (errs 1 + 1)) laid (upd me 1 (me 1 + 1)) nm pile nt st (RE_up hE 1)
  unfold v_X6_signs v_X7_signs
  rcases ou_or x (n := N) (by omega) with hx | ⟨p, hp, rfl⟩
  · simp only [ha_no hN hx, ip_no hN h.1 hx, j_X6_signs_37, j_X7_signs_37, er61, er71, b1_0, true_implies, false_implies, not_true_eq_false, not_false_eq_true, and_true, true_and, implies_true]; exact herr
  rcases ou_or v (n := 10) (by decide) with hv | ⟨w, hw, rfl⟩
  · have i1 : ∀ K, v_X7_in v 0 9 K = K 0 := i_no 9 (by decide) hv
    simp only [ha_yes hN hp, ip_yes hN h.1 hp, sg_no hv, i1, j_X6_signs_37, j_X7_signs_37, er61, er71, b1_0, true_implies, false_implies, not_true_eq_false, not_false_eq_true, and_true, true_and, implies_true]; exact herr
  have i1 : ∀ K, v_X7_in (nI w) 0 9 K = K 1 := i_yes 9 (by decide) hw
  have e1 : (1 : Int32).toInt = 1 := rfl
  have e4 : (4 : Int32).toInt = 4 := rfl
  by_cases g1 : y.toInt < 1
  · have i2 : ∀ K, v_X7_in y 1 4 K = K 0 := in_no (Or.inl g1)
    simp only [ha_yes hN hp, ip_yes hN h.1 hp, sg_yes hw, i1, i2, fa_lt, e1, g1, j_X6_signs_37, j_X7_signs_37, er61, er71, b1_0, true_implies, false_implies, not_true_eq_false, not_false_eq_true, and_true, true_and, implies_true]; exact herr
  by_cases g2 : 4 < y.toInt
  · have i2 : ∀ K, v_X7_in y 1 4 K = K 0 := in_no (Or.inr g2)
    simp only [ha_yes hN hp, ip_yes hN h.1 hp, sg_yes hw, i1, i2, fa_lt, e1, e4, g1, g2, j_X6_signs_37, j_X7_signs_37, er61, er71, b1_0, true_implies, false_implies, not_true_eq_false, not_false_eq_true, and_true, true_and, implies_true]; exact herr
  have i2 : ∀ K, v_X7_in y 1 4 K = K 1 := in_yes (by omega) (by omega)
  obtain ⟨n, hn, rfl⟩ := nI_of (x := y) (by rw [fa_lt, show (0 : Int32).toInt = 0 from rfl]; omega)
  rw [nI_toInt hn] at g1 g2
  have a1 : ¬ nI n < 1 := by rw [fa_lt, e1, nI_toInt hn]; exact g1
  have a2 : ¬ (4 : Int32) < nI n := by rw [fa_lt, e4, nI_toInt hn]; exact g2
  rcases ou_or y4 (n := 2) (by decide) with hz | ⟨u, hu, rfl⟩
  · have i3 : ∀ K, v_X7_in y4 0 1 K = K 0 := i_no 1 (by decide) hz
    have i4 : ∀ K, v_X6_isWithin y4 1 K = K 0 := w_no 1 (by decide) hz
    simp only [ha_yes hN hp, ip_yes hN h.1 hp, sg_yes hw, i1, i2, i3, i4, a1, a2, j_X6_signs_37, j_X7_signs_37, er61, er71, b1_0, true_implies, false_implies, not_true_eq_false, not_false_eq_true, and_true, true_and, implies_true]; exact herr
  have i3 : ∀ K, v_X7_in (nI u) 0 1 K = K 1 := i_yes 1 (by decide) hu
  have i4 : ∀ K, v_X6_isWithin (nI u) 1 K = K 1 := w_yes 1 (by decide) hu
  simp only [ha_yes hN hp, ip_yes hN h.1 hp, sg_yes hw, i1, i2, i3, i4, a1, a2, b1_0, true_implies, false_implies, not_true_eq_false, not_false_eq_true, and_true, true_and, implies_true]
  refine th_6 hN (by omega) hT hG (fun tst1 gst1 => ?_) tst gst
  refine ts_6 hN (by omega) hT hG (fun tst2 gst2 => ?_) tst1 gst1
  refine fw_6 hN ?_
  have hm := fun s => mx_e (N := N) (tn := tn) (gn := gn) (D := D) (n := n) (s := s) (v := nI w) kd em ts gs near sh tnr tsh gnr gsh hN
  have h256 := p2_8 hN
  rcases fwb_or N p (di N kd em ts gs tn gn D (t0 near tnr) (t0 sh tsh) n).1 (di N kd em ts gs tn gn D (t0 near gnr) (sgd N (t0 sh gsh) (nI w)) n).1 (2 ^ N) with q | ⟨b, hb, q⟩
  · rw [q, br_n (show ¬ (0 : Int32) ≤ -1 by decide), er62]
    refine sg_7 hN (by omega) h hd hT hG hm (fun _ a b c d e => ?_) (fun b hb q2 => ?_) laid nm pile nt st
    · rw [er72]; exact hP _ _ _ _ _ _ _ _ _ _ _ _ _ _ _ _ (RE_up hE 2)
    · exfalso
      rw [q] at q2
      have := (fa_eq _ _).mp q2
      rw [nI_toInt (by omega), show (-1 : Int32).toInt = -1 by decide] at this
      omega
  · have hb2 : b < 256 := by omega
    rw [q, br_y (nI_pos' (show b < 2 ^ 31 by omega)), bc_6]
    have fin : ∀ r, (¬ nI u = 0 → r = nI b) → (nI u = 0 → r = bcx (nI b)) → ∃ z, l_X7_signs_49 (nI p) (nI w) (nI n) (nI u) (fun r' m' laid' me' nm' pile' nt' st' => P r tst2 gst2 (nI (D + n)) (di N kd em ts gs tn gn D (t0 near tnr) (t0 sh tsh) n).1 (di N kd em ts gs tn gn D (t0 near tnr) (t0 sh tsh) n).2 (nI (D + n)) (di N kd em ts gs tn gn D (t0 near gnr) (sgd N (t0 sh gsh) (nI w)) n).1 (di N kd em ts gs tn gn D (t0 near gnr) (sgd N (t0 sh gsh) (nI w)) n).2 errs r' m' laid' me' nm' pile' nt' st') z (-1) 0 m laid me nm pile nt st := by
      intro r r1 r2
      refine sg_7 hN (by omega) h hd hT hG hm (fun q2 => ?_) (fun c hc q2 l1 l2 l3 l4 l5 => ?_) laid nm pile nt st
      · exfalso
        rw [q] at q2
        have := (fa_eq _ _).mp q2
        rw [nI_toInt (by omega), show (-1 : Int32).toInt = -1 by decide] at this
        omega
      · rw [q] at q2
        rw [← q2]
        refine ⟨fun z => ?_, fun z => ?_⟩
        · rw [r1 z]; exact hP _ _ _ _ _ _ _ _ _ _ _ _ _ _ _ _ hE
        · rw [r2 z]; exact hP _ _ _ _ _ _ _ _ _ _ _ _ _ _ _ _ hE
    exact ⟨fun z => fin _ (fun _ => rfl) (fun z2 => absurd z2 z), fun z => fin _ (fun z2 => absurd z z2) (fun _ => rfl)⟩
