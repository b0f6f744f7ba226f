/-! sheets -/
theorem vu_at {α : Type} (f : Nat → α) (k : Nat) (v : α) (j : Nat) : va_up f k v j = if j = k then v else f j := rfl
def sr (c t : Int32) : Prop := c = t ∨ (ou c 100 ∧ ou t 100)
def RS (shb shs : Nat → Int32) (shn : Nat → Nat → Int32) (mb ms mn : Nat → Int32) : Prop := ∀ s, s < 4 → mb s = shb s ∧ ms s = shs s ∧ (∃ n : Nat, n ≤ 24 ∧ shs s = nI n) ∧ (shb s = 0 ∨ shb s = 8 ∨ shb s = 16 ∨ shb s = 32) ∧ ∀ i, i < 24 → sr (shn s i) (mn (24 * s + i))
theorem cl_4 {j : Nat} (h : j < 4) : (nI j).toNatClampNeg = j := nI_clamp (by omega)
theorem vi_4 {j : Nat} (h : j < 4) : vp_in (nI j) 4 = True := eq_true (vp_in_nI h (by decide))
theorem vi_24 {j : Nat} (h : j < 24) : vp_in (nI j) 24 = True := eq_true (vp_in_nI h (by decide))
theorem vi_96 {j : Nat} (h : j < 96) : vp_in (nI j) 96 = True := eq_true (vp_in_nI h (by decide))
theorem cl_96 {j : Nat} (h : j < 96) : (nI j).toNatClampNeg = j := nI_clamp (by omega)
theorem ix_s (s i : Nat) : ((24 : Int32) * nI s) + nI i = nI (24 * s + i) := by
  rw [show (24 : Int32) = nI 24 from rfl, pk_mul, nI_add]
theorem is_no {x : Int32} (h : ou x 4) (K : Int32 → Prop) : v_X7_isSheet x K = K 0 := i_no 3 (by decide) h K
theorem is_yes {j : Nat} (h : j < 4) (K : Int32 → Prop) : v_X7_isSheet (nI j) K = K 1 := i_yes 3 (by decide) h K
theorem lay_6 {p1 p2 : Int32} {K : Int32 → Int32 → (Nat → Int32) → Prop} {b z : Int32} : ∀ d i f, i + d = 24 → K b z (fun k => if i ≤ k ∧ k < 24 then 0 else f k) → l_X2_lay_32 p1 p2 K (d + 1) (nI i) b z f := by
  intro d
  induction d with
  | zero =>
    intro i f hi h
    have e : i = 24 := by omega
    subst e
    rw [l_X2_lay_32, br_y (show (24 : Int32) ≤ nI 24 by decide)]
    have q : (fun k => if 24 ≤ k ∧ k < 24 then 0 else f k) = f := by
      funext k; rw [if_neg (by omega)]
    rw [q] at h; exact h
  | succ d ih =>
    intro i f hi h
    have a0 : ¬ (24 : Int32) ≤ nI i := nI_ge (b := 24) (by omega) (by decide)
    rw [l_X2_lay_32, br_n a0, vi_24 (by omega), true_and, nI_clamp (by omega), nI_1]
    refine ih (i + 1) _ (by omega) ?_
    have q : (fun k => if i + 1 ≤ k ∧ k < 24 then 0 else upd f i 0 k) = (fun k => if i ≤ k ∧ k < 24 then 0 else f k) := by
      funext k
      by_cases a : k = i
      · subst a; rw [if_neg (by omega), pk_us, if_pos (by omega)]
      · by_cases c : i + 1 ≤ k ∧ k < 24
        · rw [if_pos c, if_pos (by omega)]
        · rw [if_neg c, pk_un a, if_neg (by omega)]
    rw [q]; exact h
theorem lay_7 {s : Nat} (hs : s < 4) {p2 p3 : Int32} {K : Int32 → (Nat → Int32) → (Nat → Int32) → (Nat → Int32) → (Nat → Int32) → Prop} {me mb ms : Nat → Int32} : ∀ d i f, i + d = 24 → K 1 me mb ms (fun k => if 24 * s + i ≤ k ∧ k < 24 * s + 24 then 0 else f k) → l_X7_sheet_90 (nI s) p2 p3 K (d + 1) (nI i) me mb ms f := by
  intro d
  induction d with
  | zero =>
    intro i f hi h
    have e : i = 24 := by omega
    subst e
    rw [l_X7_sheet_90, br_y (show (24 : Int32) ≤ nI 24 by decide)]
    have q : (fun k => if 24 * s + 24 ≤ k ∧ k < 24 * s + 24 then 0 else f k) = f := by
      funext k; rw [if_neg (by omega)]
    rw [q] at h; exact h
  | succ d ih =>
    intro i f hi h
    have a0 : ¬ (24 : Int32) ≤ nI i := nI_ge (b := 24) (by omega) (by decide)
    rw [l_X7_sheet_90, br_n a0, ix_s, vi_96 (by omega), true_and, nI_clamp (by omega), nI_1]
    refine ih (i + 1) _ (by omega) ?_
    have q : (fun k => if 24 * s + (i + 1) ≤ k ∧ k < 24 * s + 24 then 0 else upd f (24 * s + i) 0 k) = (fun k => if 24 * s + i ≤ k ∧ k < 24 * s + 24 then 0 else f k) := by
      funext k
      by_cases a : k = 24 * s + i
      · subst a; rw [if_neg (by omega), pk_us, if_pos (by omega)]
      · by_cases c : 24 * s + (i + 1) ≤ k ∧ k < 24 * s + 24
        · rw [if_pos c, if_pos (by omega)]
        · rw [if_neg c, pk_un a, if_neg (by omega)]
    rw [q]; exact h
theorem RS_lay {shb shs : Nat → Int32} {shn : Nat → Nat → Int32} {mb ms mn : Nat → Int32} (h : RS shb shs shn mb ms mn) {s : Nat} (hs : s < 4) (b : Int32) (hb : b = 0 ∨ b = 8 ∨ b = 16 ∨ b = 32) {n : Nat} (hn : n ≤ 24) :
    RS (va_up shb s b) (va_up shs s (nI n)) (va_up shn s (fun k => if 0 ≤ k ∧ k < 24 then 0 else shn s k)) (upd mb s b) (upd ms s (nI n)) (fun k => if 24 * s + 0 ≤ k ∧ k < 24 * s + 24 then 0 else mn k) := by
  intro t ht
  obtain ⟨a1, a2, a3, a4, a5⟩ := h t ht
  by_cases e : t = s
  · subst e
    simp only [vu_at, up_at, if_true]
    refine ⟨trivial, trivial, ⟨n, hn, rfl⟩, hb, fun i hi => ?_⟩
    rw [if_pos (by omega), if_pos (by omega)]
    exact Or.inl rfl
  · simp only [vu_at, up_at, e, if_false]
    refine ⟨a1, a2, a3, a4, fun i hi => ?_⟩
    rw [if_neg (by omega)]
    exact a5 i hi
theorem p_sheet {x y z : Int32} {shb shs : Nat → Int32} {shn : Nat → Nat → Int32} {mb ms mn errs me : Nat → Int32} {P : Int32 → (Nat → Int32) → (Nat → Int32) → (Nat → Nat → Int32) → (Nat → Int32) → Int32 → (Nat → Int32) → (Nat → Int32) → (Nat → Int32) → (Nat → Int32) → Prop} (h : RS shb shs shn mb ms mn) (hE : RE errs me)
    (hP : ∀ r shb' shs' shn' errs' me' mb' ms' mn', RS shb' shs' shn' mb' ms' mn' → RE errs' me' → P r shb' shs' shn' errs' r me' mb' ms' mn') :
    v_X6_sheet x y z shb shs shn errs (fun r shb' shs' shn' errs' => v_X7_sheet x y z me mb ms mn (fun r' me' mb' ms' mn' => P r shb' shs' shn' errs' r' me' mb' ms' mn')) := by
  have herr := hP (-1000000001) shb shs shn (upd errs 1 (errs 1 + 1)) (upd me 1 (me 1 + 1)) mb ms mn h (RE_up hE 1)
  unfold v_X6_sheet v_X7_sheet
  rcases ou_or x (n := 4) (by decide) with hx | ⟨s, hs, rfl⟩
  · simp only [st_no hx, is_no hx, b1_0, true_implies, false_implies, not_true_eq_false, not_false_eq_true, and_true, true_and, implies_true, j_X6_sheet_29, j_X7_sheet_29, er61, er71]; exact herr
  simp only [st_yes hs, is_yes hs, b1_0, true_implies, false_implies, not_true_eq_false, not_false_eq_true, and_true, true_and, implies_true]
  have ok : ∀ (b : Int32) (n : Nat), (b = 0 ∨ b = 8 ∨ b = 16 ∨ b = 32) → n ≤ 24 → P 1 (va_up shb s b) (va_up shs s (nI n)) (va_up shn s (fun k => if 0 ≤ k ∧ k < 24 then 0 else shn s k)) errs 1 me (upd mb s b) (upd ms s (nI n)) (fun k => if 24 * s + 0 ≤ k ∧ k < 24 * s + 24 then 0 else mn k) := fun b n hb hn => hP _ _ _ _ _ _ _ _ _ (RS_lay h hs b hb hn) hE
  have fin0 : j_X6_sheet_35 (nI s) 0 z (fun r shb' shs' shn' errs' => (j_X7_sheet_35 (nI s) 0 z (fun r' me' mb' ms' mn' => P r shb' shs' shn' errs' r' me' mb' ms' mn') me mb ms mn)) shb shs shn errs := by
    simp only [j_X6_sheet_35, j_X6_sheet_49, j_X6_sheet_65, j_X7_sheet_35, j_X7_sheet_49, j_X7_sheet_65, j_X7_sheet_86, vi_4 hs, cl_4 hs, v_X2_lay, j_X2_lay_27, b1_0, true_implies, false_implies, not_true_eq_false, not_false_eq_true, and_true, true_and, implies_true]
    exact ⟨25, lay_6 24 0 _ rfl ⟨25, lay_7 hs 24 0 _ rfl (ok 0 0 (Or.inl rfl) (by decide))⟩⟩
  have fin : ∀ b : Int32, ¬ b = 0 → (b = 0 ∨ b = 8 ∨ b = 16 ∨ b = 32) → j_X6_sheet_35 (nI s) b z (fun r shb' shs' shn' errs' => (j_X7_sheet_35 (nI s) b z (fun r' me' mb' ms' mn' => P r shb' shs' shn' errs' r' me' mb' ms' mn') me mb ms mn)) shb shs shn errs := by
    intro b n0 hb
    rcases ou_or z (n := 25) (by decide) with hz | ⟨c, hc, rfl⟩
    · rcases hz with q | q
      · have q2 : ¬ 0 ≤ z := by
          rw [fa_lt] at q; rw [fa_le]; omega
        simp only [j_X6_sheet_35, j_X7_sheet_35, n0, q2, er63, er73, b1_0, true_implies, false_implies, not_true_eq_false, not_false_eq_true, and_true, true_and, implies_true]
        exact hP _ _ _ _ _ _ _ _ _ h (RE_up hE 3)
      · have q1 : ¬ z ≤ 24 := by
          rw [fa_le] at q ⊢
          rw [nI_toInt (by decide)] at q
          rw [show (24 : Int32).toInt = 24 from rfl]; omega
        have q2 : 0 ≤ z := by
          rw [fa_le] at q ⊢
          rw [nI_toInt (by decide)] at q
          rw [show (0 : Int32).toInt = 0 from rfl]; omega
        simp only [j_X6_sheet_35, j_X7_sheet_35, j_X6_sheet_49, j_X7_sheet_49, n0, q1, q2, er61, er71, b1_0, true_implies, false_implies, not_true_eq_false, not_false_eq_true, and_true, true_and, implies_true]
        exact herr
    · have q1 : nI c ≤ 24 := nI_le (b := 24) (by omega) (by decide)
      have q2 : 0 ≤ nI c := nI_pos' (by omega)
      have q3 : ¬ (24 : Int32) < nI c := nI_nlt (a := 24) (by omega) (by decide)
      have q4 : (if (0 : Int32) < nI c then nI c else 0) = nI c := by
        by_cases w : c = 0
        · subst w; rfl
        · have w2 : (0 : Int32) < nI c := nI_lt (a := 0) (by omega) (by omega)
          rw [if_pos w2]
      simp only [j_X6_sheet_35, j_X6_sheet_49, j_X6_sheet_65, j_X7_sheet_35, j_X7_sheet_49, j_X7_sheet_65, j_X7_sheet_86, vi_4 hs, cl_4 hs, v_X2_lay, j_X2_lay_27, n0, q1, q2, q3, q4, if_false, b1_0, true_implies, false_implies, not_true_eq_false, not_false_eq_true, and_true, true_and, implies_true]
      exact ⟨25, lay_6 24 0 _ rfl ⟨25, lay_7 hs 24 0 _ rfl (ok b c hb (by omega))⟩⟩
  by_cases b0 : y = 0
  · subst b0; simp only [b1_0, true_implies, false_implies, not_true_eq_false, not_false_eq_true, and_true, true_and, implies_true]; exact fin0
  by_cases b1 : y = 8
  · subst b1; simp only [b0, b1_0, true_implies, false_implies, not_true_eq_false, not_false_eq_true, and_true, true_and, implies_true]; exact fin 8 b0 (by decide)
  by_cases b2 : y = 16
  · subst b2; simp only [b0, b1, b1_0, true_implies, false_implies, not_true_eq_false, not_false_eq_true, and_true, true_and, implies_true]; exact fin 16 b0 (by decide)
  by_cases b3 : y = 32
  · subst b3; simp only [b0, b1, b2, b1_0, true_implies, false_implies, not_true_eq_false, not_false_eq_true, and_true, true_and, implies_true]; exact fin 32 b0 (by decide)
  simp only [b0, b1, b2, b3, j_X6_sheet_29, j_X7_sheet_29, er61, er71, b1_0, true_implies, false_implies, not_true_eq_false, not_false_eq_true, and_true, true_and, implies_true]; exact herr
-- one number of a sheet
theorem fb_rng (x : Int32) : -2147483648 ≤ x.toInt ∧ x.toInt < 2147483648 := by
  have h1 := x.le_toInt
  have h2 := x.toInt_lt
  omega
theorem ti_n (x : Int32) : x.toInt = if 2 * x.toBitVec.toNat < 4294967296 then (x.toBitVec.toNat : Int) else (x.toBitVec.toNat : Int) - 4294967296 := BitVec.toInt_eq_toNat_cond _
theorem shx_toInt (v s : Int32) (k : Nat) (hs : (s.toBitVec.smod 32).toNat = k) : ((v <<< s) >>> s).toInt = (if 2 * (v.toBitVec.toNat * 2 ^ k % 4294967296) < 4294967296 then ((v.toBitVec.toNat * 2 ^ k % 4294967296 : Nat) : Int) else ((v.toBitVec.toNat * 2 ^ k % 4294967296 : Nat) : Int) - 4294967296) / (2 ^ k : Nat) := by
  rw [pk_shr _ s k hs, ti_n, pk_shl v s k hs, Int.shiftRight_eq_div_pow]
theorem sr_32 (v : Int32) : sr v ((v <<< (((32 : Int32) - 32) &&& 31)) >>> (((32 : Int32) - 32) &&& 31)) := by
  refine Or.inl ?_
  rw [fa_eq, shx_toInt v _ 0 (by decide), ti_n]
  have := v.toBitVec.isLt
  simp only [Nat.pow_zero, Nat.mul_one]
  rw [Nat.mod_eq_of_lt (by omega)]
  simp
theorem sr_8 (v : Int32) : sr (v &&& (((1 : Int32) <<< ((8 : Int32) &&& 31)) - 1)) ((v <<< (((32 : Int32) - 8) &&& 31)) >>> (((32 : Int32) - 8) &&& 31)) := by
  rw [show ((1 : Int32) <<< ((8 : Int32) &&& 31)) - 1 = 255 by decide, pk_and v 8 (by decide)]
  have h := shx_toInt v (((32 : Int32) - 8) &&& 31) 24 (by decide)
  generalize (v <<< (((32 : Int32) - 8) &&& 31)) >>> (((32 : Int32) - 8) &&& 31) = t at *
  generalize v.toBitVec.toNat = n at *
  have hc : (nI (n % 2 ^ 8)).toInt = ((n % 2 ^ 8 : Nat) : Int) := nI_toInt (by omega)
  by_cases a : n % 256 < 128
  · refine Or.inl ?_
    rw [fa_eq, hc, h]
    have e : n * 2 ^ 24 % 4294967296 = 16777216 * (n % 256) := by omega
    rw [e]
    rw [if_pos (by omega)]
    omega
  · refine Or.inr ⟨ou_lt (by decide) (by rw [hc]; omega), ou_lt (by decide) ?_⟩
    rw [h]
    have e : n * 2 ^ 24 % 4294967296 = 16777216 * (n % 256) := by omega
    rw [e]
    rw [if_neg (by omega)]
    omega
theorem sr_16 (v : Int32) : sr (v &&& (((1 : Int32) <<< ((16 : Int32) &&& 31)) - 1)) ((v <<< (((32 : Int32) - 16) &&& 31)) >>> (((32 : Int32) - 16) &&& 31)) := by
  rw [show ((1 : Int32) <<< ((16 : Int32) &&& 31)) - 1 = 65535 by decide, pk_and v 16 (by decide)]
  have h := shx_toInt v (((32 : Int32) - 16) &&& 31) 16 (by decide)
  generalize (v <<< (((32 : Int32) - 16) &&& 31)) >>> (((32 : Int32) - 16) &&& 31) = t at *
  generalize v.toBitVec.toNat = n at *
  have hc : (nI (n % 2 ^ 16)).toInt = ((n % 2 ^ 16 : Nat) : Int) := nI_toInt (by omega)
  by_cases a : n % 65536 < 32768
  · refine Or.inl ?_
    rw [fa_eq, hc, h]
    have e : n * 2 ^ 16 % 4294967296 = 65536 * (n % 65536) := by omega
    rw [e]
    rw [if_pos (by omega)]
    omega
  · refine Or.inr ⟨ou_lt (by decide) (by rw [hc]; omega), ou_lt (by decide) ?_⟩
    rw [h]
    have e : n * 2 ^ 16 % 4294967296 = 65536 * (n % 65536) := by omega
    rw [e]
    rw [if_neg (by omega)]
    omega
theorem mi_no {b : Int32} (h : ¬ b = 0) (K : Int32 → Prop) : v_X2_isMissing b K = K 0 := by
  unfold v_X2_isMissing; simp [h]
theorem mi_yes {b : Int32} (h : b = 0) (K : Int32 → Prop) : v_X2_isMissing b K = K 1 := by
  unfold v_X2_isMissing; simp [h]
theorem mi_0 (K : Int32 → Prop) : v_X2_isMissing 0 K = K 1 := mi_yes rfl K
theorem RS_put {shb shs : Nat → Int32} {shn : Nat → Nat → Int32} {mb ms mn : Nat → Int32} (h : RS shb shs shn mb ms mn) {s i : Nat} (hs : s < 4) (hi : i < 24) {c t : Int32} (hct : sr c t) : RS shb shs (va_up shn s (upd (shn s) i c)) mb ms (upd mn (24 * s + i) t) := by
  intro r hr
  obtain ⟨a1, a2, a3, a4, a5⟩ := h r hr
  refine ⟨a1, a2, a3, a4, fun q hq => ?_⟩
  rw [vu_at, up_at]
  by_cases e : r = s
  · subst e
    rw [if_pos rfl, up_at]
    by_cases e2 : q = i
    · subst e2; rw [if_pos rfl, if_pos rfl]; exact hct
    · rw [if_neg e2, if_neg (by omega)]; exact a5 q hq
  · rw [if_neg e, if_neg (by omega)]; exact a5 q hq
theorem p_put {x y z : Int32} {shb shs : Nat → Int32} {shn : Nat → Nat → Int32} {mb ms mn errs me : Nat → Int32} {P : Int32 → (Nat → Nat → Int32) → (Nat → Int32) → Int32 → (Nat → Int32) → (Nat → Int32) → Prop} (h : RS shb shs shn mb ms mn) (hE : RE errs me)
    (hP : ∀ r shn' errs' me' mn', RS shb shs shn' mb ms mn' → RE errs' me' → P r shn' errs' r me' mn') :
    v_X6_put x y z shb shs shn errs (fun r shn' errs' => v_X7_put x y z me mb ms mn (fun r' me' mn' => P r shn' errs' r' me' mn')) := by
  have herr := hP (-1000000001) shn (upd errs 1 (errs 1 + 1)) (upd me 1 (me 1 + 1)) mn h (RE_up hE 1)
  unfold v_X6_put v_X7_put
  rcases ou_or x (n := 4) (by decide) with hx | ⟨s, hs, rfl⟩
  · simp only [st_no hx, is_no hx, b1_0, true_implies, false_implies, not_true_eq_false, not_false_eq_true, and_true, true_and, implies_true, er61, er71]; exact herr
  obtain ⟨a1, a2, ⟨n, hn, a3⟩, a4, a5⟩ := h s hs
  by_cases b0 : shb s = 0
  · simp only [st_yes hs, is_yes hs, vi_4 hs, cl_4 hs, mi_0, a1, b0, er62, er72, b1_0, true_implies, false_implies, not_true_eq_false, not_false_eq_true, and_true, true_and, implies_true]
    exact hP _ _ _ _ _ h (RE_up hE 2)
  have e1 : (nI n - 1).toInt = (n : Int) - 1 := pk_sub_toInt (b := 1) (by omega) (by decide)
  have e0 : (0 : Int32).toInt = 0 := rfl
  rcases ou_or y (n := n) (by omega) with hy | ⟨i, hi, rfl⟩
  · have hi := ou_int (by omega) hy
    have i1 : ∀ K, v_X7_in y 0 (nI n - 1) K = K 0 := in_no (by rw [e0, e1]; omega)
    by_cases c1 : y < 0
    · simp only [st_yes hs, is_yes hs, vi_4 hs, cl_4 hs, mi_no b0, a1, a2, a3, b0, c1, i1, j_X6_put_48, er61, er71, b1_0, true_implies, false_implies, not_true_eq_false, not_false_eq_true, and_true, true_and, implies_true]; exact herr
    · have c2 : ¬ y < nI n := by
        rw [fa_lt] at c1 ⊢
        rw [nI_toInt (by omega)]; omega
      simp only [st_yes hs, is_yes hs, vi_4 hs, cl_4 hs, mi_no b0, a1, a2, a3, b0, c1, c2, i1, j_X6_put_48, er61, er71, b1_0, true_implies, false_implies, not_true_eq_false, not_false_eq_true, and_true, true_and, implies_true]; exact herr
  have i1 : ∀ K, v_X7_in (nI i) 0 (nI n - 1) K = K 1 := in_yes (by rw [e0, nI_toInt (by omega)]; omega) (by rw [e1, nI_toInt (by omega)]; omega)
  have c1 : ¬ nI i < 0 := nI_pos (by omega)
  have c2 : nI i < nI n := nI_lt hi (by omega)
  have c3 : ¬ nI n ≤ nI i := nI_ge hi (by omega)
  have c4 : (nI i).toNatClampNeg = i := nI_clamp (by omega)
  have hi2 : i < 24 := by omega
  simp only [st_yes hs, is_yes hs, vi_4 hs, cl_4 hs, mi_no b0, a1, a2, a3, b0, c1, c2, c3, c4, i1, v_X2_write, j_X2_write_40, vi_24 hi2, ix_s, vi_96 (show 24 * s + i < 96 by omega), cl_96 (show 24 * s + i < 96 by omega), b1_0, true_implies, false_implies, not_true_eq_false, not_false_eq_true, and_true, true_and, implies_true]
  rcases a4 with a4 | a4 | a4 | a4
  · exact absurd a4 b0
  · simp only [a4, show ((8 : Int32) = 32) = False by decide, b1_0, true_implies, false_implies, not_true_eq_false, not_false_eq_true, and_true, true_and, implies_true]
    exact hP _ _ _ _ _ (RS_put h hs hi2 (sr_8 z)) hE
  · simp only [a4, show ((16 : Int32) = 32) = False by decide, b1_0, true_implies, false_implies, not_true_eq_false, not_false_eq_true, and_true, true_and, implies_true]
    exact hP _ _ _ _ _ (RS_put h hs hi2 (sr_16 z)) hE
  · rw [a4]
    simp only [b1_0, true_implies, false_implies, not_true_eq_false, not_false_eq_true, and_true, true_and, implies_true]
    exact hP _ _ _ _ _ (RS_put h hs hi2 (sr_32 z)) hE
-- numbers of a sheet come to another one
theorem ho_no {i n : Int32} {S : Nat} (hS : S ≤ 24) (h : n.toInt < 0 ∨ i.toInt < 0 ∨ (S : Int) < n.toInt + i.toInt) (K : Int32 → Prop) : v_X2_holds i n (nI S) K = K 0 := by
  unfold v_X2_holds
  have e0 : (0 : Int32).toInt = 0 := rfl
  have eS : (nI S).toInt = (S : Int) := nI_toInt (by omega)
  by_cases a : n.toInt < 0
  · simp only [fa_lt, e0, a, b1_0, true_implies, false_implies, not_true_eq_false, not_false_eq_true, and_true, true_and, implies_true]
  by_cases b : i.toInt < 0
  · simp only [fa_lt, e0, a, b, b1_0, true_implies, false_implies, not_true_eq_false, not_false_eq_true, and_true, true_and, implies_true]
  by_cases c : (S : Int) < n.toInt
  · simp only [fa_lt, e0, eS, a, b, c, b1_0, true_implies, false_implies, not_true_eq_false, not_false_eq_true, and_true, true_and, implies_true]
  have e1 : (nI S - n).toInt = (S : Int) - n.toInt := by
    rw [Int32.toInt_sub, eS]
    exact Int.bmod_eq_of_le (by omega) (by omega)
  have d : (S : Int) - n.toInt < i.toInt := by omega
  simp only [fa_lt, e0, eS, e1, a, b, c, d, b1_0, true_implies, false_implies, not_true_eq_false, not_false_eq_true, and_true, true_and, implies_true]
theorem ho_yes {i n : Int32} {S : Nat} (hS : S ≤ 24) (h1 : 0 ≤ n.toInt) (h2 : 0 ≤ i.toInt) (h3 : n.toInt + i.toInt ≤ S) (K : Int32 → Prop) : v_X2_holds i n (nI S) K = K 1 := by
  unfold v_X2_holds
  have e0 : (0 : Int32).toInt = 0 := rfl
  have eS : (nI S).toInt = (S : Int) := nI_toInt (by omega)
  have e1 : (nI S - n).toInt = (S : Int) - n.toInt := by
    rw [Int32.toInt_sub, eS]
    exact Int.bmod_eq_of_le (by omega) (by omega)
  have a : ¬ n.toInt < 0 := by omega
  have b : ¬ i.toInt < 0 := by omega
  have c : ¬ (S : Int) < n.toInt := by omega
  have d : ¬ (S : Int) - n.toInt < i.toInt := by omega
  simp only [fa_lt, e0, eS, e1, a, b, c, d, b1_0, true_implies, false_implies, not_true_eq_false, not_false_eq_true, and_true, true_and, implies_true]
theorem mv_2 {x3 : Int32} {s i o j n : Nat} (hn : n ≤ 24) (hj : j + n ≤ 24) (ho : o < 4) {mb ms me as : Nat → Int32} {K : Int32 → (Nat → Int32) → (Nat → Int32) → (Nat → Int32) → Prop} : ∀ d k f, k + d = n → K (nI n) me (fun q => if 24 * o + j + k ≤ q ∧ q < 24 * o + j + n then as (q - (24 * o + j)) else f q) as → l_X7_move_152 (nI s) (nI i) (nI o) (nI j) (nI n) mb ms K (d + 1) (nI k) me f as := by
  intro d
  induction d with
  | zero =>
    intro k f hk h
    have e : k = n := by omega
    subst e
    rw [l_X7_move_152, br_y (nI_le (Nat.le_refl _) (by omega))]
    have q : (fun q => if 24 * o + j + k ≤ q ∧ q < 24 * o + j + k then as (q - (24 * o + j)) else f q) = f := by
      funext q; rw [if_neg (by omega)]
    rw [q] at h; exact h
  | succ d ih =>
    intro k f hk h
    have a0 : ¬ nI n ≤ nI k := nI_ge (by omega) (by omega)
    rw [l_X7_move_152, br_n a0, vi_24 (by omega), true_and, ix_s, nI_add, vi_96 (by omega), true_and, nI_clamp (by omega), nI_clamp (by omega), nI_1]
    refine ih (k + 1) _ (by omega) ?_
    have q : (fun q => if 24 * o + j + (k + 1) ≤ q ∧ q < 24 * o + j + n then as (q - (24 * o + j)) else upd f (24 * o + j + k) (as k) q) = (fun q => if 24 * o + j + k ≤ q ∧ q < 24 * o + j + n then as (q - (24 * o + j)) else f q) := by
      funext q
      by_cases a : q = 24 * o + j + k
      · subst a; rw [if_neg (by omega), pk_us, if_pos (by omega)]; congr 1; omega
      · by_cases c : 24 * o + j + (k + 1) ≤ q ∧ q < 24 * o + j + n
        · rw [if_pos c, if_pos (by omega)]
        · rw [if_neg c, pk_un a, if_neg (by omega)]
    rw [q]; exact h
theorem mv_1 {s i o j n : Nat} (hn : n ≤ 24) (hi : i + n ≤ 24) (hs : s < 4) {mb ms me mn : Nat → Int32} {K : Int32 → (Nat → Int32) → (Nat → Int32) → (Nat → Int32) → Prop} : ∀ d k as, k + d = n → (∃ z, l_X7_move_152 (nI s) (nI i) (nI o) (nI j) (nI n) mb ms K z 0 me mn (fun q => if k ≤ q ∧ q < n then mn (24 * s + i + q) else as q)) → l_X7_move_115 (nI s) (nI i) (nI o) (nI j) (nI n) mb ms K (d + 1) (nI k) me mn as := by
  intro d
  induction d with
  | zero =>
    intro k f hk h
    have e : k = n := by omega
    subst e
    rw [l_X7_move_115, br_y (nI_le (Nat.le_refl _) (by omega))]
    have q : (fun q => if k ≤ q ∧ q < k then mn (24 * s + i + q) else f q) = f := by
      funext q; rw [if_neg (by omega)]
    rw [q] at h; exact h
  | succ d ih =>
    intro k f hk h
    have a0 : ¬ nI n ≤ nI k := nI_ge (by omega) (by omega)
    rw [l_X7_move_115, br_n a0, ix_s, nI_add, vi_96 (by omega), true_and, vi_24 (by omega), true_and, nI_clamp (by omega), nI_clamp (by omega), nI_1]
    refine ih (k + 1) _ (by omega) ?_
    have q : (fun q => if k + 1 ≤ q ∧ q < n then mn (24 * s + i + q) else upd f k (mn (24 * s + i + k)) q) = (fun q => if k ≤ q ∧ q < n then mn (24 * s + i + q) else f q) := by
      funext q
      by_cases a : q = k
      · subst a; rw [if_neg (by omega), pk_us, if_pos (by omega)]
      · by_cases c : k + 1 ≤ q ∧ q < n
        · rw [if_pos c, if_pos (by omega)]
        · rw [if_neg c, pk_un a, if_neg (by omega)]
    rw [q]; exact h
theorem RS_mv {shb shs : Nat → Int32} {shn : Nat → Nat → Int32} {mb ms mn : Nat → Int32} (h : RS shb shs shn mb ms mn) {s i o j n : Nat} (hs : s < 4) (ho : o < 4) (hi : i + n ≤ 24) (hj : j + n ≤ 24) (as : Nat → Int32) :
    RS shb shs (va_up shn o (va_cpy (shn s) (shn o) i j n)) mb ms (fun q => if 24 * o + j + 0 ≤ q ∧ q < 24 * o + j + n then (fun q => if 0 ≤ q ∧ q < n then mn (24 * s + i + q) else as q) (q - (24 * o + j)) else mn q) := by
  intro r hr
  obtain ⟨a1, a2, a3, a4, a5⟩ := h r hr
  refine ⟨a1, a2, a3, a4, fun q hq => ?_⟩
  simp only [vu_at]
  by_cases e : r = o
  · subst e
    rw [if_pos rfl]
    by_cases c : j ≤ q ∧ q < j + n
    · rw [pk_cpy_in c.1 c.2, if_pos (by omega)]
      rw [if_pos (by omega)]
      have e2 : 24 * s + i + (24 * r + q - (24 * r + j)) = 24 * s + (i + (q - j)) := by omega
      rw [e2]
      exact (h s hs).2.2.2.2 (i + (q - j)) (by omega)
    · rw [pk_cpy_out (by omega), if_neg (by omega)]
      exact a5 q hq
  · rw [if_neg e, if_neg (by omega)]; exact a5 q hq
theorem p_move {x y z w v : Int32} {shb shs : Nat → Int32} {shn : Nat → Nat → Int32} {mb ms mn ma errs me : Nat → Int32} {P : Int32 → (Nat → Nat → Int32) → (Nat → Int32) → Int32 → (Nat → Int32) → (Nat → Int32) → (Nat → Int32) → Prop} (h : RS shb shs shn mb ms mn) (hE : RE errs me)
    (hP : ∀ r shn' errs' me' mn' ma', RS shb shs shn' mb ms mn' → RE errs' me' → P r shn' errs' r me' mn' ma') :
    v_X6_move x y z w v shb shs shn errs (fun r shn' errs' => v_X7_move x y z w v me mb ms mn ma (fun r' me' mn' ma' => P r shn' errs' r' me' mn' ma')) := by
  have herr := hP (-1000000001) shn (upd errs 1 (errs 1 + 1)) (upd me 1 (me 1 + 1)) mn ma h (RE_up hE 1)
  have herr2 := hP (-1000000002) shn (upd errs 2 (errs 2 + 1)) (upd me 2 (me 2 + 1)) mn ma h (RE_up hE 2)
  have herr5 := hP (-1000000005) shn (upd errs 5 (errs 5 + 1)) (upd me 5 (me 5 + 1)) mn ma h (RE_up hE 5)
  unfold v_X6_move v_X7_move
  rcases ou_or x (n := 4) (by decide) with hx | ⟨s, hs, rfl⟩
  · simp only [st_no hx, is_no hx, j_X6_move_14, j_X7_move_14, b1_0, true_implies, false_implies, not_true_eq_false, not_false_eq_true, and_true, true_and, implies_true, er61, er71]; exact herr
  rcases ou_or z (n := 4) (by decide) with hz | ⟨o, ho, rfl⟩
  · simp only [st_yes hs, is_yes hs, st_no hz, is_no hz, j_X6_move_14, j_X7_move_14, b1_0, true_implies, false_implies, not_true_eq_false, not_false_eq_true, and_true, true_and, implies_true, er61, er71]; exact herr
  obtain ⟨a1, a2, ⟨S, hS, a3⟩, a4, a5⟩ := h s hs
  obtain ⟨b1, b2, ⟨O, hO, b3⟩, b4, b5⟩ := h o ho
  by_cases c0 : shb s = 0
  · simp only [st_yes hs, is_yes hs, st_yes ho, is_yes ho, vi_4 hs, vi_4 ho, cl_4 hs, cl_4 ho, a1, b1, c0, mi_0, j_X6_move_52, j_X7_move_38, er62, er72, b1_0, true_implies, false_implies, not_true_eq_false, not_false_eq_true, and_true, true_and, implies_true]; exact herr2
  by_cases d0 : shb o = 0
  · simp only [st_yes hs, is_yes hs, st_yes ho, is_yes ho, vi_4 hs, vi_4 ho, cl_4 hs, cl_4 ho, a1, b1, c0, d0, mi_no c0, mi_0, j_X6_move_52, j_X7_move_38, er62, er72, b1_0, true_implies, false_implies, not_true_eq_false, not_false_eq_true, and_true, true_and, implies_true]; exact herr2
  by_cases e0 : shb s = shb o
  · have eS : (nI S).toInt = (S : Int) := nI_toInt (by omega)
    have eO : (nI O).toInt = (O : Int) := nI_toInt (by omega)
    have z0 : (0 : Int32).toInt = 0 := rfl
    simp only [st_yes hs, is_yes hs, st_yes ho, is_yes ho, vi_4 hs, vi_4 ho, cl_4 hs, cl_4 ho, a1, b1, a2, b2, a3, b3, mi_no c0, mi_no d0, b1_0, true_implies, false_implies, not_true_eq_false, not_false_eq_true, and_true, true_and, implies_true]
    simp only [c0, d0, e0, b1_0, true_implies, false_implies, not_true_eq_false, not_false_eq_true, and_true, true_and, implies_true]
    by_cases g1 : v.toInt < 0
    · simp only [ho_no hS (Or.inl g1), j_X6_move_100, j_X7_move_106, fa_lt, z0, g1, er61, er71, b1_0, true_implies, false_implies, not_true_eq_false, not_false_eq_true, and_true, true_and, implies_true]; exact herr
    by_cases g2 : y.toInt < 0
    · simp only [ho_no hS (Or.inr (Or.inl g2)), j_X6_move_100, j_X7_move_106, fa_lt, z0, g1, g2, er61, er71, b1_0, true_implies, false_implies, not_true_eq_false, not_false_eq_true, and_true, true_and, implies_true]; exact herr
    have r1 := fb_rng v
    have f1 : (nI S - v).toInt = (S : Int) - v.toInt := by
      rw [Int32.toInt_sub, eS]
      exact Int.bmod_eq_of_le (by omega) (by omega)
    have f2 : (nI O - v).toInt = (O : Int) - v.toInt := by
      rw [Int32.toInt_sub, eO]
      exact Int.bmod_eq_of_le (by omega) (by omega)
    by_cases g4 : (S : Int) < v.toInt + y.toInt
    · have f3 : (S : Int) - v.toInt < y.toInt := by omega
      by_cases g3 : w.toInt < 0
      · simp only [ho_no hS (Or.inr (Or.inr g4)), j_X6_move_100, j_X7_move_106, fa_lt, fa_le, z0, g1, g2, g3, er61, er71, b1_0, true_implies, false_implies, not_true_eq_false, not_false_eq_true, and_true, true_and, implies_true]; exact herr
      · simp only [ho_no hS (Or.inr (Or.inr g4)), j_X6_move_100, j_X7_move_106, fa_lt, fa_le, z0, g1, g2, g3, f1, f3, er61, er71, b1_0, true_implies, false_implies, not_true_eq_false, not_false_eq_true, and_true, true_and, implies_true]; exact herr
    have hY := ho_yes (i := y) (n := v) hS (by omega) (by omega) (by omega)
    have f3 : ¬ (S : Int) - v.toInt < y.toInt := by omega
    by_cases g3 : w.toInt < 0
    · simp only [hY, ho_no hO (Or.inr (Or.inl g3)), j_X6_move_100, j_X7_move_106, fa_lt, fa_le, z0, g1, g2, g3, er61, er71, b1_0, true_implies, false_implies, not_true_eq_false, not_false_eq_true, and_true, true_and, implies_true]; exact herr
    by_cases g5 : (O : Int) < v.toInt + w.toInt
    · have f4 : ¬ w.toInt ≤ (O : Int) - v.toInt := by omega
      simp only [hY, ho_no hO (Or.inr (Or.inr g5)), j_X6_move_100, j_X7_move_106, fa_lt, fa_le, z0, g1, g2, g3, f1, f2, f3, f4, er61, er71, b1_0, true_implies, false_implies, not_true_eq_false, not_false_eq_true, and_true, true_and, implies_true]; exact herr
    have hW := ho_yes (i := w) (n := v) hO (by omega) (by omega) (by omega)
    have f4 : w.toInt ≤ (O : Int) - v.toInt := by omega
    obtain ⟨n, hn, rfl⟩ := nI_of (x := v) (by rw [fa_lt, z0]; exact g1)
    obtain ⟨i, hi, rfl⟩ := nI_of (x := y) (by rw [fa_lt, z0]; exact g2)
    obtain ⟨j, hj, rfl⟩ := nI_of (x := w) (by rw [fa_lt, z0]; exact g3)
    rw [nI_toInt hn, nI_toInt hi] at g4
    rw [nI_toInt hn, nI_toInt hj] at g5
    have t1 : ¬ nI n < 0 := nI_pos hn
    have t2 : ¬ nI i < 0 := nI_pos hi
    have t3 : ¬ nI j < 0 := nI_pos hj
    have t4 : ¬ nI S - nI n < nI i := by rw [fa_lt, f1]; exact f3
    have t5 : nI j ≤ nI O - nI n := by rw [fa_le, f2]; exact f4
    have t6 : i + n ≤ 24 := by omega
    have t7 : j + n ≤ 24 := by omega
    simp only [hY, hW, t1, t2, t3, t4, t5, nI_clamp hn, nI_clamp hi, nI_clamp hj, t6, t7, b1_0, true_implies, false_implies, not_true_eq_false, not_false_eq_true, and_true, true_and, implies_true]
    exact ⟨n + 1, mv_1 (by omega) t6 hs n 0 ma (by omega) ⟨n + 1, mv_2 (x3 := 0) (by omega) t7 ho n 0 mn (by omega) (hP _ _ _ _ _ _ (RS_mv h hs ho t6 t7 ma) hE)⟩⟩
  · have e1 : ¬ shb s = shb o := e0
    simp only [st_yes hs, is_yes hs, st_yes ho, is_yes ho, vi_4 hs, vi_4 ho, cl_4 hs, cl_4 ho, a1, b1, c0, d0, e1, mi_no c0, mi_no d0, er65, er75, b1_0, true_implies, false_implies, not_true_eq_false, not_false_eq_true, and_true, true_and, implies_true]; exact herr5
