/-! quotients of whole numbers are numbers -/
def okD (z : UInt64) : Bool := decide (z &&& 0x7fffffffffffffff ≤ 0x7ff0000000000000)
def okF (z : UInt32) : Bool := decide (z &&& 0x7fffffff ≤ 0x7f800000)
theorem okD_of {x : UInt64} (h : x.toNat % 2 ^ 63 < 2047 * 2 ^ 52) : okD x = true := by
  refine decide_eq_true ?_
  rw [UInt64.le_iff_toNat_le, UInt64.toNat_and]
  rw [show (0x7fffffffffffffff : UInt64).toNat = 2 ^ 63 - 1 by decide, show (0x7ff0000000000000 : UInt64).toNat = 2047 * 2 ^ 52 by decide, Nat.and_two_pow_sub_one_eq_mod]
  omega
theorem okF_of {x : UInt32} (h : x.toNat % 2 ^ 31 < 255 * 2 ^ 23) : okF x = true := by
  refine decide_eq_true ?_
  rw [UInt32.le_iff_toNat_le, UInt32.toNat_and]
  rw [show (0x7fffffff : UInt32).toNat = 2 ^ 31 - 1 by decide, show (0x7f800000 : UInt32).toNat = 255 * 2 ^ 23 by decide, Nat.and_two_pow_sub_one_eq_mod]
  omega
theorem okD_div {x y : Int32} (hy : y.toInt ≠ 0) : okD (FP.ddiv (FP.i2d x) (FP.i2d y)) = true := by
  obtain ⟨h1, h2⟩ := Jvm.FP.Core.i2d_big hy
  have h3 := Jvm.FP.Core.ddiv_mag (K := 1056) (L := 1023) (Jvm.FP.Core.i2d_mag x) h1 h2 (by decide) (by decide)
  exact okD_of (x := FP.ddiv (FP.i2d x) (FP.i2d y)) (Nat.lt_of_lt_of_le h3 (by decide))
theorem okF_div {x y : Int32} (hy : y.toInt ≠ 0) : okF (FP.fdiv (FP.i2f x) (FP.i2f y)) = true := by
  obtain ⟨h1, h2⟩ := Jvm.FP.Core.i2f_big hy
  have h3 := Jvm.FP.Core.fdiv_mag (K := 160) (L := 127) (Jvm.FP.Core.i2f_mag x) h1 h2 (by decide) (by decide)
  exact okF_of (x := FP.fdiv (FP.i2f x) (FP.i2f y)) (Nat.lt_of_lt_of_le h3 (by decide))
