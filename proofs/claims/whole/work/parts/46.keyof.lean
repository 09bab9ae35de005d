/-! THE MODEL'S KEY OF A TREE. -/
theorem zshl18 (x : Int64) : x <<< ((18 : Int32).toInt64 &&& 63) = x * 262144 := by
  rw [show ((18 : Int32).toInt64 &&& 63) = (18 : Int64) by decide +kernel]
  refine Int64.toBitVec_inj.mp ?_
  rw [Int64.toBitVec_mul, Int64.toBitVec_shiftLeft]
  rw [show ((18 : Int64).toBitVec.smod 64) = 18#64 by decide +kernel]
  rw [BitVec.shiftLeft_eq', show (18#64).toNat = 18 by decide, BitVec.shiftLeft_eq_mul_twoPow]
  congr 1
