/-! the bytes of a long, on both sides -/
def bvN (v : Int64) (j : Nat) : Nat := v.toBitVec.toNat >>> (8 * j) % 256
theorem bvN_lt (v : Int64) (j : Nat) : bvN v j < 256 := Nat.mod_lt _ (by decide)
theorem bvN_bit (v : Int64) (j i : Nat) : (BitVec.ofNat 32 (bvN v j)).getLsbD i = (decide (i < 8) && v.toBitVec.getLsbD (8 * j + i)) := by
  unfold bvN
  rw [BitVec.getLsbD_ofNat, show (256 : Nat) = 2 ^ 8 from rfl, Nat.testBit_mod_two_pow, Nat.testBit_shiftRight]
  by_cases h : i < 8
  · have : i < 32 := by omega
    simp [h, this, BitVec.getLsbD]
  · simp [h]
theorem bvM_ok (v : Int64) {j : Nat} (hj : j < 8) : bvM v j = nI (bvN v j) := by
  unfold bvM
  apply zN_ext
  rw [zN_bv]
  apply BitVec.eq_of_getLsbD_eq
  intro i hi
  rw [bvN_bit]
  have e : ((nI (8 * j)).toInt64 &&& 63).toBitVec.smod 64 = BitVec.ofNat 64 (8 * j) := by
    rcases (show j = 0 ∨ j = 1 ∨ j = 2 ∨ j = 3 ∨ j = 4 ∨ j = 5 ∨ j = 6 ∨ j = 7 by omega) with rfl | rfl | rfl | rfl | rfl | rfl | rfl | rfl <;> decide
  rw [Int64.toBitVec_toInt32, BitVec.getLsbD_signExtend, Int64.toBitVec_and, Int64.toBitVec_shiftRight, e]
  rw [BitVec.getLsbD_and]
  have h255 : (Int64.ofNat 255).toBitVec.getLsbD i = decide (i < 8) := by
    have : (Int64.ofNat 255).toBitVec = BitVec.ofNat 64 255 := rfl
    rw [this, BitVec.getLsbD_ofNat, show (255 : Nat) = 2 ^ 8 - 1 from rfl, Nat.testBit_two_pow_sub_one]
    have : i < 64 := by omega
    simp [this]
  rw [h255]
  by_cases h : i < 8
  · rw [BitVec.sshiftRight_eq', BitVec.getLsbD_sshiftRight]
    have h1 : (BitVec.ofNat 64 (8 * j)).toNat = 8 * j := by
      rw [BitVec.toNat_ofNat]; exact Nat.mod_eq_of_lt (by omega)
    rw [h1]
    have h2 : ¬ 64 ≤ i := by omega
    have h3 : 8 * j + i < 64 := by omega
    simp [h, h2, h3, hi]
  · have h64 : ¬ 64 ≤ i := by omega
    simp [h, h64]
theorem bvC_ok (v : Int64) {j : Nat} (hj : j < 8) : bvC v j &&& nI 255 = nI (bvN v j) := by
  unfold bvC vp_nar narrow
  dsimp only
  apply zN_ext
  rw [zN_bv]
  apply BitVec.eq_of_getLsbD_eq
  intro i hi
  rw [bvN_bit, Int32.toBitVec_and, BitVec.getLsbD_and]
  have h255 : (nI 255).toBitVec.getLsbD i = decide (i < 8) := by
    rw [zN_bv, BitVec.getLsbD_ofNat, show (255 : Nat) = 2 ^ 8 - 1 from rfl, Nat.testBit_two_pow_sub_one]
    simp [hi]
  rw [h255]
  by_cases h : i < 8
  · have e : ((nI (8 * j)).toInt64.toUInt64 &&& Int64.toUInt64 63).toBitVec % 64 = BitVec.ofNat 64 (8 * j) := by
      rcases (show j = 0 ∨ j = 1 ∨ j = 2 ∨ j = 3 ∨ j = 4 ∨ j = 5 ∨ j = 6 ∨ j = 7 by omega) with rfl | rfl | rfl | rfl | rfl | rfl | rfl | rfl <;> decide
    have h1 : (BitVec.ofNat 64 (8 * j)).toNat = 8 * j := by
      rw [BitVec.toNat_ofNat]; exact Nat.mod_eq_of_lt (by omega)
    rw [Int8.toBitVec_toInt32, BitVec.getLsbD_signExtend, Int32.toBitVec_toInt8, BitVec.getLsbD_signExtend, Int8.toBitVec_toInt32, BitVec.getLsbD_signExtend, Int32.toBitVec_toInt8, BitVec.getLsbD_signExtend, Int64.toBitVec_toInt32, BitVec.getLsbD_signExtend]
    have e2 : ((v.toUInt64 >>> ((nI (8 * j)).toInt64.toUInt64 &&& Int64.toUInt64 63)).toInt64).toBitVec = v.toBitVec >>> (8 * j) := by
      show (v.toUInt64 >>> ((nI (8 * j)).toInt64.toUInt64 &&& Int64.toUInt64 63)).toBitVec = _
      rw [UInt64.toBitVec_shiftRight, e, BitVec.ushiftRight_eq', h1]
      rfl
    rw [e2, BitVec.getLsbD_ushiftRight]
    have q1 : i < 32 := hi
    have q2 : i < 64 := by omega
    simp [h, q1, q2]
  · simp [h]
