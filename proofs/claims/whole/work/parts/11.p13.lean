/-! feed -/
theorem fe_k : ∀ x, x < 8 → (((8 : Int32) * nI x).toInt64.toUInt64 &&& Int64.toUInt64 63).toBitVec.toNat % 64 = 8 * x := by decide +kernel
theorem fe_k2 : ∀ x, x < 8 → ((((8 : Int32) * nI x).toInt64 &&& 63).toBitVec.smod 64).toNat = 8 * x := by decide +kernel
theorem tb_k : ∀ a, a < 256 → tb (nI a).toInt8.toInt32 (nI a) := by
  intro a ha
  by_cases c : a < 128
  · refine Or.inl ⟨a, c, ?_, rfl⟩
    revert c; revert a; decide +kernel
  · refine Or.inr ⟨?_, a, by omega, ha, rfl⟩
    revert c; revert a; decide +kernel
theorem i8_nat (y : Int32) : y.toInt8.toBitVec.toNat = y.toBitVec.toNat % 256 := by
  rw [Int32.toBitVec_toInt8]
  have h : y.toBitVec.signExtend 8 = y.toBitVec.setWidth 8 := by
    apply BitVec.eq_of_getLsbD_eq
    intro i hi
    have h2 : i < 32 := by omega
    rw [BitVec.getLsbD_signExtend, BitVec.getLsbD_setWidth, if_pos h2]
  rw [h, BitVec.toNat_setWidth]
theorem i32_nat (y : Int64) : y.toInt32.toBitVec.toNat = y.toBitVec.toNat % 4294967296 := by
  rw [Int64.toBitVec_toInt32]
  have h : y.toBitVec.signExtend 32 = y.toBitVec.setWidth 32 := by
    apply BitVec.eq_of_getLsbD_eq
    intro i hi
    have h2 : i < 64 := by omega
    rw [BitVec.getLsbD_signExtend, BitVec.getLsbD_setWidth, if_pos h2]
  rw [h, BitVec.toNat_setWidth]
theorem ush_nat (p : Int64) (s : UInt64) (k : Nat) (hs : s.toBitVec.toNat % 64 = k) : (p.toUInt64 >>> s).toInt64.toBitVec.toNat = p.toBitVec.toNat / 2 ^ k := by
  show (p.toUInt64 >>> s).toNat = _
  rw [UInt64.toNat_shiftRight, Nat.shiftRight_eq_div_pow]
  have e : s.toNat % 64 = k := hs
  rw [e]
  rfl
theorem feed_6 (p : Int64) {x : Nat} (hx : x < 8) : (((p.toUInt64 >>> (((8 : Int32) * nI x).toInt64.toUInt64 &&& Int64.toUInt64 63)).toInt64).toInt32).toInt8.toInt32 = (nI (p.toBitVec.toNat / 2 ^ (8 * x) % 256)).toInt8.toInt32 := by
  have e : (((p.toUInt64 >>> (((8 : Int32) * nI x).toInt64.toUInt64 &&& Int64.toUInt64 63)).toInt64).toInt32).toInt8 = (nI (p.toBitVec.toNat / 2 ^ (8 * x) % 256)).toInt8 := by
    apply Int8.toBitVec_inj.1
    apply BitVec.eq_of_toNat_eq
    rw [i8_nat, i8_nat, i32_nat, ush_nat p _ (8 * x) (fe_k x hx), pk_tn (by omega)]
    omega
  rw [e]
theorem a64_nat (y : Int64) : (y &&& 255).toBitVec.toNat = y.toBitVec.toNat % 256 := by
  rw [Int64.toBitVec_and, BitVec.toNat_and, show (255 : Int64).toBitVec.toNat = 2 ^ 8 - 1 by decide, Nat.and_two_pow_sub_one_eq_mod]
theorem sbit (y : BitVec 64) (k : Nat) (hk : k + 8 ≤ 64) : (y.sshiftRight k).toNat % 256 = y.toNat / 2 ^ k % 256 := by
  have e : (y.sshiftRight k).setWidth 8 = (y >>> k).setWidth 8 := by
    apply BitVec.eq_of_getLsbD_eq
    intro i hi
    have h1 : i < 64 := by omega
    have h2 : k + i < 64 := by omega
    rw [BitVec.getLsbD_setWidth, BitVec.getLsbD_setWidth, BitVec.getLsbD_sshiftRight, if_pos h2]
    simp [hi, h1]
  have e2 := congrArg BitVec.toNat e
  rw [BitVec.toNat_setWidth, BitVec.toNat_setWidth, BitVec.toNat_ushiftRight, Nat.shiftRight_eq_div_pow] at e2
  exact e2
