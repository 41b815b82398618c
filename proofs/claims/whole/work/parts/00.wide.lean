/-! ===== the quotient of two ints is a number (the library's laws of doubles: the rounds go over the whole library from this part on) ===== -/
theorem ddNN {a b : Int32} (h : ¬ b = 0) : vf_n64 (FP.ddiv (FP.i2d a) (FP.i2d b)) := by
  have hb : b.toInt ≠ 0 := fun q => h (Int32.toInt_inj.mp (by rw [q]; rfl))
  have h1 := Jvm.FP.Core.i2d_mag a
  have h2 := Jvm.FP.Core.i2d_mag b
  have h3 := Jvm.FP.Core.fromInt_ge (Jvm.FP.Core.toNat_i2d b) hb
  have h4 := Jvm.FP.Core.ddiv_mag (a := Jvm.FP.Core.i2d a) (b := Jvm.FP.Core.i2d b) (K := 1056) (L := 1023) h1 h3 (by omega) (by omega) (by omega)
  show Jvm.FP.Core.ddiv (Jvm.FP.Core.i2d a) (Jvm.FP.Core.i2d b) &&& 0x7fffffffffffffff ≤ 0x7ff0000000000000
  rw [UInt64.le_iff_toNat_le, UInt64.toNat_and]
  have e1 : (0x7fffffffffffffff : UInt64).toNat = 2 ^ 63 - 1 := rfl
  have e2 : (0x7ff0000000000000 : UInt64).toNat = 2047 * 2 ^ 52 := rfl
  rw [e1, e2, Nat.and_two_pow_sub_one_eq_mod]
  omega
