/-! DOUBLES: rows over the library's float laws (first, so that BUILD reads the whole library from the start) -/
theorem fp_self {a : UInt64} (h : a &&& 0x7fffffffffffffff ≤ 0x7ff0000000000000) : Jvm.FP.dcmp a a = some .eq := by
  show Jvm.FP.Core.dcmp a a = some .eq
  apply Jvm.FP.Core.dcmp_self
  rw [Jvm.FP.Core.ne_nan]
  have h2 := UInt64.le_iff_toNat_le.mp h
  rw [Jvm.FP.Core.mask_toNat] at h2
  exact h2
