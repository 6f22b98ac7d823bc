/-! write: the bytes -/
theorem byt_eq (x : Int64) (k : Nat) (hk : k < 8) : ((x >>> (Int64.ofNat (8 * k)) &&& 255).toInt).bmod 4294967296 = (((x.toUInt64 >>> (UInt64.ofNat (8 * k))).toInt64.toInt32) &&& 255).toInt ∧ 0 ≤ (((x.toUInt64 >>> (UInt64.ofNat (8 * k))).toInt64.toInt32) &&& 255).toInt ∧ (((x.toUInt64 >>> (UInt64.ofNat (8 * k))).toInt64.toInt32) &&& 255).toInt ≤ 255 := by
  sorry
