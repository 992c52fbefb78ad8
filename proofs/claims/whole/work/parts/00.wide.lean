/-! the first part names a law of the library's rest (FloatLaws3), so that a round is read over the whole library from its first part on -/
theorem zz_wide (a : UInt64) : (a &&& 0x7fffffffffffffff).toNat = a.toNat % 2 ^ 63 := FP.Core.mask_toNat a
