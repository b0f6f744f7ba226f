/-! feed -/
theorem fe_k : ∀ x, x < 8 → (((8 : Int32) * nI x).toInt64.toUInt64 &&& Int64.toUInt64 63).toBitVec.toNat % 64 = 8 * x := by decide +kernel
theorem fe_k2 : ∀ x, x < 8 → ((((8 : Int32) * nI x).toInt64 &&& 63).toBitVec.smod 64).toNat = 8 * x := by decide +kernel
theorem tb_k : ∀ a, a < 256 → tb (nI a).toInt8.toInt32 (nI a) := by
  intro a ha
  by_cases c : a < 128
  · refine Or.inl ⟨a, c, ?_, rfl⟩
    revert c; revert a; decide +kernel
  · refine Or.inr ⟨?_, a, by omega, ha, rfl⟩
    revert c; revert a; decide +kernel
