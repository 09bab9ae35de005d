/-! A QUOTIENT OF WHOLE NUMBERS IS NO NaN. -/
theorem z_avg_ok (x : Int64) {y : Int32} (h : ¬ y = 0) : vf_n64 (FP.ddiv (FP.l2d x) (FP.i2d y)) := by
  have h0 : y.toInt ≠ 0 := fun q => h (Int32.toInt_inj.mp (by rw [q]; rfl))
  have h1 := Jvm.FP.Core.l2d_mag x
  have h2 := Jvm.FP.Core.i2d_big h0
  have h3 := Jvm.FP.Core.ddiv_mag (a := FP.l2d x) (b := FP.i2d y) (K := 1088) (L := 1023) h1 h2.1 h2.2 (by decide) (by decide)
  have h4 : (FP.ddiv (FP.l2d x) (FP.i2d y)).toNat % 2 ^ 63 < 1089 * 2 ^ 52 := h3
  clear h1 h2 h3
  unfold vf_n64
  rw [UInt64.le_iff_toNat_le, UInt64.toNat_and]
  have e : (9223372036854775807 : UInt64).toNat = 2 ^ 63 - 1 := rfl
  rw [e, Nat.and_two_pow_sub_one_eq_mod]
  have e2 : (9218868437227405312 : UInt64).toNat = 2047 * 2 ^ 52 := rfl
  rw [e2]
  omega
