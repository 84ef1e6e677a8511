theorem zN_bv (n : Nat) : (nI n).toBitVec = BitVec.ofNat 32 n := rfl
theorem zN_ext {x y : Int32} (h : x.toBitVec = y.toBitVec) : x = y := Int32.toBitVec_inj.mp h
theorem zN_mul (x y : Nat) : nI x * nI y = nI (x * y) := zN_ext (by rw [Int32.toBitVec_mul, zN_bv, zN_bv, zN_bv, BitVec.ofNat_mul])
theorem zN_and (x y : Nat) : nI x &&& nI y = nI (x &&& y) := zN_ext (by rw [Int32.toBitVec_and, zN_bv, zN_bv, zN_bv]; apply BitVec.eq_of_toNat_eq; simp [Nat.and_mod_two_pow])
theorem zN_or (x y : Nat) : nI x ||| nI y = nI (x ||| y) := zN_ext (by rw [Int32.toBitVec_or, zN_bv, zN_bv, zN_bv]; apply BitVec.eq_of_toNat_eq; simp [Nat.or_mod_two_pow])
theorem zN_xor (x y : Nat) : nI x ^^^ nI y = nI (x ^^^ y) := zN_ext (by rw [Int32.toBitVec_xor, zN_bv, zN_bv, zN_bv]; apply BitVec.eq_of_toNat_eq; simp [Nat.xor_mod_two_pow])
theorem zN_sub {x y : Nat} (h : y ≤ x) : nI x - nI y = nI (x - y) := by
  have h1 : nI x = nI (x - y) + nI y := by rw [nI_add]; congr 1; omega
  rw [h1, Int32.add_sub_cancel]
theorem zN_31 {y : Nat} (hy : y < 32) : nI y &&& 31 = nI y := by
  have : (31 : Int32) = nI 31 := by decide
  rw [this, zN_and]
  congr 1
  rw [show (31 : Nat) = 2 ^ 5 - 1 from rfl, Nat.and_two_pow_sub_one_eq_mod]
  omega
theorem zN_shl (x : Nat) {y : Nat} (hy : y < 32) : nI x <<< (nI y &&& 31) = nI (x <<< y) := by
  rw [zN_31 hy]
  apply zN_ext
  rw [Int32.toBitVec_shiftLeft, zN_bv, zN_bv, zN_bv]
  have e : (BitVec.ofNat 32 y).smod 32 = BitVec.ofNat 32 y := by
    revert hy
    revert y
    decide +kernel
  rw [e]
  apply BitVec.eq_of_toNat_eq
  rw [BitVec.shiftLeft_eq', BitVec.toNat_shiftLeft]
  simp only [BitVec.toNat_ofNat]
  rw [Nat.mod_eq_of_lt (a := y) (by omega)]
  simp [Nat.shiftLeft_eq]
theorem zN_shr {x y : Nat} (hx : x < 2 ^ 31) (hy : y < 32) : nI x >>> (nI y &&& 31) = nI (x >>> y) := by
  rw [zN_31 hy]
  apply zN_ext
  rw [Int32.toBitVec_shiftRight, zN_bv, zN_bv, zN_bv]
  have e : (BitVec.ofNat 32 y).smod 32 = BitVec.ofNat 32 y := by
    revert hy
    revert y
    decide +kernel
  rw [e, BitVec.sshiftRight_eq', BitVec.sshiftRight_eq_of_msb_false]
  · apply BitVec.eq_of_toNat_eq
    rw [BitVec.toNat_ushiftRight]
    simp only [BitVec.toNat_ofNat]
    rw [Nat.mod_eq_of_lt (a := y) (by omega), Nat.mod_eq_of_lt (a := x) (by omega), Nat.mod_eq_of_lt]
    exact Nat.lt_of_le_of_lt (Nat.shiftRight_le x y) (by omega)
  · rw [BitVec.msb_eq_decide]
    simp only [BitVec.toNat_ofNat]
    rw [Nat.mod_eq_of_lt (by omega)]
    simp; omega
