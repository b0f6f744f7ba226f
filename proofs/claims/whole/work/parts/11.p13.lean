/-! feed -/
theorem fe_k : ∀ x, x < 8 → (((8 : Int32) * nI x).toInt64.toUInt64 &&& Int64.toUInt64 63).toBitVec.toNat % 64 = 8 * x := by decide +kernel
theorem fe_k2 : ∀ x, x < 8 → ((((8 : Int32) * nI x).toInt64 &&& 63).toBitVec.smod 64).toNat = 8 * x := by decide +kernel
theorem tb_k : ∀ a, a < 256 → tb (nI a).toInt8.toInt32 (nI a) := by
  intro a ha
  by_cases c : a < 128
  · refine Or.inl ⟨a, c, ?_, rfl⟩
    revert c; revert a; decide +kernel
  · refine Or.inr ⟨?_, a, by omega, ha, rfl⟩
    revert c; revert a; decide +kernel
theorem i8_nat (y : Int32) : y.toInt8.toBitVec.toNat = y.toBitVec.toNat % 256 := by
  rw [Int32.toBitVec_toInt8]
  have h : y.toBitVec.signExtend 8 = y.toBitVec.setWidth 8 := by
    apply BitVec.eq_of_getLsbD_eq
    intro i hi
    have h2 : i < 32 := by omega
    rw [BitVec.getLsbD_signExtend, BitVec.getLsbD_setWidth, if_pos h2]
  rw [h, BitVec.toNat_setWidth]
theorem i32_nat (y : Int64) : y.toInt32.toBitVec.toNat = y.toBitVec.toNat % 4294967296 := by
  rw [Int64.toBitVec_toInt32]
  have h : y.toBitVec.signExtend 32 = y.toBitVec.setWidth 32 := by
    apply BitVec.eq_of_getLsbD_eq
    intro i hi
    have h2 : i < 64 := by omega
    rw [BitVec.getLsbD_signExtend, BitVec.getLsbD_setWidth, if_pos h2]
  rw [h, BitVec.toNat_setWidth]
theorem ush_nat (p : Int64) (s : UInt64) (k : Nat) (hs : s.toBitVec.toNat % 64 = k) : (p.toUInt64 >>> s).toInt64.toBitVec.toNat = p.toBitVec.toNat / 2 ^ k := by
  show (p.toUInt64 >>> s).toNat = _
  rw [UInt64.toNat_shiftRight, Nat.shiftRight_eq_div_pow]
  have e : s.toNat % 64 = k := hs
  rw [e]
  rfl
theorem feed_6 (p : Int64) {x : Nat} (hx : x < 8) : (((p.toUInt64 >>> (((8 : Int32) * nI x).toInt64.toUInt64 &&& Int64.toUInt64 63)).toInt64).toInt32).toInt8.toInt32 = (nI (p.toBitVec.toNat / 2 ^ (8 * x) % 256)).toInt8.toInt32 := by
  have e : (((p.toUInt64 >>> (((8 : Int32) * nI x).toInt64.toUInt64 &&& Int64.toUInt64 63)).toInt64).toInt32).toInt8 = (nI (p.toBitVec.toNat / 2 ^ (8 * x) % 256)).toInt8 := by
    apply Int8.toBitVec_inj.1
    apply BitVec.eq_of_toNat_eq
    rw [i8_nat, i8_nat, i32_nat, ush_nat p _ (8 * x) (fe_k x hx), pk_tn (by omega)]
    omega
  rw [e]
theorem a64_nat (y : Int64) : (y &&& 255).toBitVec.toNat = y.toBitVec.toNat % 256 := by
  rw [Int64.toBitVec_and, BitVec.toNat_and, show (255 : Int64).toBitVec.toNat = 2 ^ 8 - 1 by decide, Nat.and_two_pow_sub_one_eq_mod]
theorem sbit (y : BitVec 64) (k : Nat) (hk : k + 8 ≤ 64) : (y.sshiftRight k).toNat % 256 = y.toNat / 2 ^ k % 256 := by
  have e : (y.sshiftRight k).setWidth 8 = (y >>> k).setWidth 8 := by
    apply BitVec.eq_of_getLsbD_eq
    intro i hi
    have h1 : i < 64 := by omega
    have h2 : k + i < 64 := by omega
    rw [BitVec.getLsbD_setWidth, BitVec.getLsbD_setWidth, BitVec.getLsbD_sshiftRight, if_pos h2]
    simp [hi, h1]
  have e2 := congrArg BitVec.toNat e
  rw [BitVec.toNat_setWidth, BitVec.toNat_setWidth, BitVec.toNat_ushiftRight, Nat.shiftRight_eq_div_pow] at e2
  exact e2
theorem ssh_nat (p s : Int64) (k : Nat) (hs : (s.toBitVec.smod 64).toNat = k) : (p >>> s).toBitVec = p.toBitVec.sshiftRight k := by
  show p.toBitVec.sshiftRight (s.toBitVec.smod 64).toNat = _
  rw [hs]
theorem feed_7 (p : Int64) {x : Nat} (hx : x < 8) : ((p >>> (((8 : Int32) * nI x).toInt64 &&& 63)) &&& (255 : Int64)).toInt32 = nI (p.toBitVec.toNat / 2 ^ (8 * x) % 256) := by
  have h : ((p >>> (((8 : Int32) * nI x).toInt64 &&& 63)) &&& (255 : Int64)).toBitVec.toNat = p.toBitVec.toNat / 2 ^ (8 * x) % 256 := by
    rw [a64_nat, ssh_nat p _ (8 * x) (fe_k2 x hx), sbit _ _ (by omega)]
  refine bn_eq (by omega) ?_
  rw [i32_nat, h]
  omega
theorem nar_6 (z : Int32) : vp_nar .byte z.toInt8.toInt32 = z.toInt8.toInt32 := pk_vb z
/-- so many bytes come to the tape, on both sides -/
theorem fd_t {n : Nat} (hn : n ≤ 8) (p : Int64) : ∀ e x T (tape m : Nat → Int32), x + e = n → T + e ≤ 60 → RB_ T tape m → ∃ tape' m', RB_ (T + e) tape' m' ∧ (∀ i, i ≠ 2 → (i < 298 ∨ 358 ≤ i) → m' i = m i) ∧
    (∀ (K : Int32 → Int32 → (Nat → Int32) → Prop), K (nI (T + e)) (nI (T + e)) tape' → l_X4_record_3 p (nI n) K (e + 1) (nI x) (nI T) tape) ∧
    (∀ (K : Int32 → (Nat → Int32) → (Nat → Int32) → Prop) me, K (nI (T + e)) m' me → l_X7_feed_38 p (nI n) K (e + 1) (nI x) m me) := by
  intro e
  induction e with
  | zero =>
    intro x T tape m hx hT h
    have e : x = n := by omega
    subst e
    refine ⟨tape, m, h, fun _ _ _ => rfl, fun K hK => ?_, fun K me hK => ?_⟩
    · rw [l_X4_record_3, br_y (nI_le (Nat.le_refl _) (by omega))]; exact hK
    · rw [l_X7_feed_38, br_y (nI_le (Nat.le_refl _) (by omega)), v2_, true_and, c2, h.1]; exact hK
  | succ e ih =>
    intro x T tape m hx hT h
    have hx8 : x < 8 := by omega
    have a0 : ¬ nI n ≤ nI x := nI_ge (by omega) (by omega)
    have a1 : ¬ (60 : Int32) ≤ nI T := nI_ge (b := 60) (by omega) (by decide)
    have cT : (nI T).toNatClampNeg = T := nI_clamp (by omega)
    have i1 : (298 : Int32) + nI T = nI (298 + T) := nI_add 298 T
    have c9 : (nI (298 + T)).toNatClampNeg = 298 + T := nI_clamp (by omega)
    have v9 : vp_in (nI (298 + T)) 382 = True := vi_382 (by omega)
    obtain ⟨h2, hf, hb⟩ := h
    have e2 : upd m (298 + T) (nI (p.toBitVec.toNat / 2 ^ (8 * x) % 256)) 2 = nI T := by rw [pk_un (by omega)]; exact h2
    have nx : RB_ (T + 1) (upd tape T (nI (p.toBitVec.toNat / 2 ^ (8 * x) % 256)).toInt8.toInt32) (upd (upd m (298 + T) (nI (p.toBitVec.toNat / 2 ^ (8 * x) % 256))) 2 (nI (T + 1))) := by
      refine ⟨pk_us, sb_fitU hf (pk_fb _), fun i hi => ?_⟩
      have e5 : ∀ v w, upd (upd m (298 + T) v) 2 w (298 + i) = upd m (298 + T) v (298 + i) := fun v w => pk_un (by omega)
      rw [e5]
      by_cases q : i = T
      · subst q; rw [pk_us, pk_us]; exact tb_k _ (by omega)
      · rw [pk_un q, pk_un (by omega)]; exact hb i hi
    obtain ⟨tape', m', q1, q2, six, sev⟩ := ih (x + 1) (T + 1) _ _ (by omega) (by omega) nx
    rw [show T + 1 + e = T + (e + 1) by omega] at q1 six sev
    refine ⟨tape', m', q1, fun i h3 h4 => ?_, fun K hK => ?_, fun K me hK => ?_⟩
    · rw [q2 i h3 h4, pk_un h3, pk_un (by omega)]
    · rw [l_X4_record_3, br_n a0, br_n a1, vi_60 (by omega), true_and, nI_1, nI_1, cT, feed_6 p hx8, pk_vb]
      exact six K hK
    · rw [l_X7_feed_38, br_n a0, v2_, true_and, true_and, true_and, c2, h2, i1, v9, true_and, c9, feed_7 p hx8, e2, nI_1, nI_1]
      exact sev K me hK
theorem p_feed {p : Int64} {x : Int32} {T : Nat} {tape m errs me : Nat → Int32} {P : Int32 → Int32 → (Nat → Int32) → (Nat → Int32) → Int32 → (Nat → Int32) → (Nat → Int32) → Prop} (hT : T ≤ 60) (h : RB_ T tape m) (hE : RE errs me)
    (hP : ∀ r T' tape' errs' m' me', T' ≤ 60 → RB_ T' tape' m' → (∀ i, i ≠ 2 → (i < 298 ∨ 358 ≤ i) → m' i = m i) → RE errs' me' → P r (nI T') tape' errs' r m' me') :
    v_X6_feed p x (nI T) tape errs (fun r t' tape' errs' => v_X7_feed p x m me (fun r' m' me' => P r t' tape' errs' r' m' me')) := by
  have herr := hP (-1000000001) T tape (upd errs 1 (errs 1 + 1)) m (upd me 1 (me 1 + 1)) hT h (fun _ _ _ => rfl) (RE_up hE 1)
  have herr4 := hP (-1000000004) T tape (upd errs 4 (errs 4 + 1)) m (upd me 4 (me 4 + 1)) hT h (fun _ _ _ => rfl) (RE_up hE 4)
  unfold v_X6_feed v_X7_feed
  have e1 : (1 : Int32).toInt = 1 := rfl
  have e8 : (8 : Int32).toInt = 8 := rfl
  by_cases g1 : x.toInt < 1
  · have w : ∀ K, v_X7_in x 1 8 K = K 0 := in_no (Or.inl g1)
    simp only [fa_lt, e1, g1, w, j_X6_feed_11, er61, er71, b1_0, true_implies, false_implies, not_true_eq_false, not_false_eq_true, and_true, true_and, implies_true]; exact herr
  by_cases g2 : 8 < x.toInt
  · have w : ∀ K, v_X7_in x 1 8 K = K 0 := in_no (Or.inr g2)
    have g3 : ¬ x.toInt ≤ 8 := by omega
    simp only [fa_lt, fa_le, e1, e8, g1, g3, w, j_X6_feed_11, er61, er71, b1_0, true_implies, false_implies, not_true_eq_false, not_false_eq_true, and_true, true_and, implies_true]; exact herr
  have w : ∀ K, v_X7_in x 1 8 K = K 1 := in_yes (by omega) (by omega)
  obtain ⟨n, hn, rfl⟩ := nI_of (x := x) (by rw [fa_lt, show (0 : Int32).toInt = 0 from rfl]; omega)
  rw [nI_toInt hn] at g1 g2
  have a1 : ¬ nI n < 1 := by rw [fa_lt, e1, nI_toInt hn]; exact g1
  have a2 : nI n ≤ 8 := by rw [fa_le, e8, nI_toInt hn]; omega
  have a3 : (60 : Int32) - nI T = nI (60 - T) := pk_sub (a := 60) (by omega)
  by_cases g3 : T + n ≤ 60
  · have a4 : nI n ≤ nI (60 - T) := nI_le (by omega) (by omega)
    have a5 : nI (T + n) ≤ (60 : Int32) := nI_le (b := 60) g3 (by decide)
    obtain ⟨tape', m', q1, q2, six, sev⟩ := fd_t (n := n) (by omega) p n 0 T tape m (by omega) g3 h
    simp only [a1, a2, a3, a4, w, v2_, c2, h.1, nI_add, a5, v_X4_record, b1_0, true_implies, false_implies, not_true_eq_false, not_false_eq_true, and_true, true_and, implies_true]
    exact ⟨n + 1, six _ ⟨n + 1, sev _ me (hP _ (T + n) _ _ _ _ g3 q1 q2 hE)⟩⟩
  · have a4 : ¬ nI n ≤ nI (60 - T) := nI_ge (by omega) (by omega)
    have a5 : ¬ nI (T + n) ≤ (60 : Int32) := nI_ge (a := 60) (by omega) (by omega)
    simp only [a1, a2, a3, a4, w, v2_, c2, h.1, nI_add, a5, er64, er74, b1_0, true_implies, false_implies, not_true_eq_false, not_false_eq_true, and_true, true_and, implies_true]; exact herr4
