/-! the stack of bits -/
theorem nI_and (a b : Nat) : nI a &&& nI b = nI (a &&& b) := Int32.toBitVec_inj.mp (by rw [Int32.toBitVec_and]; exact (BitVec.ofNat_and).symm)
theorem nI_xor (a b : Nat) : nI a ^^^ nI b = nI (a ^^^ b) := Int32.toBitVec_inj.mp (by rw [Int32.toBitVec_xor]; exact (BitVec.ofNat_xor).symm)
theorem nI_bv (a : Nat) : (nI a).toBitVec = BitVec.ofNat 32 a := rfl
theorem nI_shl1 (m : Nat) : nI m <<< ((1 : Int32) &&& 31) = nI (2 * m) := by
  rw [show ((1 : Int32) &&& 31) = 1 by decide]
  apply Int32.toBitVec_inj.mp
  rw [Int32.toBitVec_shiftLeft, show (1 : Int32).toBitVec.smod 32 = 1 by decide, nI_bv, nI_bv]
  apply BitVec.eq_of_toNat_eq
  simp [BitVec.toNat_shiftLeft, Nat.shiftLeft_eq, Nat.mul_comm]
theorem nI_shr1 {m : Nat} (h : m < 2 ^ 31) : nI m >>> ((1 : Int32) &&& 31) = nI (m / 2) := by
  rw [show ((1 : Int32) &&& 31) = 1 by decide]
  apply Int32.toBitVec_inj.mp
  rw [Int32.toBitVec_shiftRight, show (1 : Int32).toBitVec.smod 32 = 1 by decide, nI_bv, nI_bv]
  have hm : (BitVec.ofNat 32 m).msb = false := by
    rw [BitVec.msb_eq_decide]
    simp
    omega
  rw [BitVec.sshiftRight_eq', BitVec.sshiftRight_eq_of_msb_false hm]
  apply BitVec.eq_of_toNat_eq
  simp [BitVec.toNat_ushiftRight, Nat.shiftRight_eq_div_pow]
  omega
theorem n_or1 (m : Nat) {b : Nat} (hb : b < 2) : 2 * m ||| b = 2 * m + b := (Nat.two_pow_add_eq_or_of_lt (i := 1) (by omega) m).symm
