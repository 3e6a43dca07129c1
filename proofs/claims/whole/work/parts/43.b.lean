/-! the stack of bits -/
theorem nI_and (a b : Nat) : nI a &&& nI b = nI (a &&& b) := Int32.toBitVec_inj.mp (by rw [Int32.toBitVec_and]; exact (BitVec.ofNat_and).symm)
theorem nI_xor (a b : Nat) : nI a ^^^ nI b = nI (a ^^^ b) := Int32.toBitVec_inj.mp (by rw [Int32.toBitVec_xor]; exact (BitVec.ofNat_xor).symm)
theorem nI_bv (a : Nat) : (nI a).toBitVec = BitVec.ofNat 32 a := rfl
theorem nI_shl1 (m : Nat) : nI m <<< ((1 : Int32) &&& 31) = nI (2 * m) := by
  rw [show ((1 : Int32) &&& 31) = 1 by decide]
  apply Int32.toBitVec_inj.mp
  rw [Int32.toBitVec_shiftLeft, show (1 : Int32).toBitVec.smod 32 = 1 by decide, nI_bv, nI_bv]
  apply BitVec.eq_of_toNat_eq
  simp [BitVec.toNat_shiftLeft, Nat.shiftLeft_eq, Nat.mul_comm]
theorem nI_shr1 {m : Nat} (h : m < 2 ^ 31) : nI m >>> ((1 : Int32) &&& 31) = nI (m / 2) := by
  rw [show ((1 : Int32) &&& 31) = 1 by decide]
  apply Int32.toBitVec_inj.mp
  rw [Int32.toBitVec_shiftRight, show (1 : Int32).toBitVec.smod 32 = 1 by decide, nI_bv, nI_bv]
  have hm : (BitVec.ofNat 32 m).msb = false := by
    rw [BitVec.msb_eq_decide]
    simp
    omega
  rw [BitVec.sshiftRight_eq', BitVec.sshiftRight_eq_of_msb_false hm]
  apply BitVec.eq_of_toNat_eq
  simp [BitVec.toNat_ushiftRight, Nat.shiftRight_eq_div_pow]
  omega
theorem n_or1 (m : Nat) {b : Nat} (hb : b < 2) : 2 * m ||| b = 2 * m + b := (Nat.two_pow_add_eq_or_of_lt (i := 1) (by omega) m).symm
theorem m2_bit : ∀ i, i < 32 → (-2 : Int32).toBitVec.getLsbD i = decide (1 ≤ i) := by decide
theorem or_m2 (a : Nat) : nI a ||| -2 = if a % 2 = 1 then -1 else -2 := by
  apply Int32.toBitVec_inj.mp
  rw [Int32.toBitVec_or, nI_bv]
  apply BitVec.eq_of_getLsbD_eq
  intro i hi
  rw [BitVec.getLsbD_or, m2_bit i hi, BitVec.getLsbD_ofNat]
  by_cases z : a % 2 = 1
  · rw [if_pos z]
    have h1 : ∀ i, i < 32 → (-1 : Int32).toBitVec.getLsbD i = true := by decide
    rw [h1 i hi]
    cases i with
    | zero => rw [Nat.testBit_zero, decide_eq_true z]; rfl
    | succ i => rw [decide_eq_true (show 1 ≤ i + 1 by omega), Bool.or_true]
  · rw [if_neg z, m2_bit i hi]
    cases i with
    | zero => rw [Nat.testBit_zero, decide_eq_false z]; rfl
    | succ i => rw [decide_eq_true (show 1 ≤ i + 1 by omega), Bool.or_true]
theorem and_m2 (a : Nat) : nI a &&& -2 = nI (2 * (a / 2)) := by
  apply Int32.toBitVec_inj.mp
  rw [Int32.toBitVec_and, nI_bv, nI_bv]
  apply BitVec.eq_of_getLsbD_eq
  intro i hi
  rw [BitVec.getLsbD_and, m2_bit i hi, BitVec.getLsbD_ofNat, BitVec.getLsbD_ofNat]
  cases i with
  | zero => rw [Nat.testBit_zero, Nat.testBit_zero, decide_eq_false (show ¬ 2 * (a / 2) % 2 = 1 by omega), decide_eq_false (show ¬ 1 ≤ 0 by omega), Bool.and_false, Bool.and_false]
  | succ i => rw [decide_eq_true (show 1 ≤ i + 1 by omega), Bool.and_true, Nat.testBit_succ, Nat.testBit_succ, show 2 * (a / 2) / 2 = a / 2 by omega]
theorem and_m1 (a : Int32) : a &&& -1 = a := Int32.toBitVec_inj.mp (by rw [Int32.toBitVec_and, show (-1 : Int32).toBitVec = BitVec.allOnes 32 by decide, BitVec.and_allOnes])
theorem bit_and {m a b : Nat} (ha : a < 2) (hb : b < 2) (h : 2 * (2 * m + a) + b < 2 ^ 31) : (nI (2 * (2 * m + a) + b) >>> ((1 : Int32) &&& 31)) &&& (nI (2 * (2 * m + a) + b) ||| (-2)) = nI (2 * m + (if a = 1 ∧ b = 1 then 1 else 0)) := by
  rw [nI_shr1 h, or_m2, show (2 * (2 * m + a) + b) / 2 = 2 * m + a by omega]
  by_cases z : b = 1
  · rw [if_pos (show (2 * (2 * m + a) + b) % 2 = 1 by omega), and_m1]
    by_cases y : a = 1
    · rw [if_pos ⟨y, z⟩, y]
    · rw [if_neg (fun u => y u.1), show a = 0 by omega]
  · rw [if_neg (show ¬ (2 * (2 * m + a) + b) % 2 = 1 by omega), and_m2, show 2 * ((2 * m + a) / 2) = 2 * m by omega, if_neg (fun u => z u.2)]
    rfl
theorem bit_or {m a b : Nat} (ha : a < 2) (hb : b < 2) (h : 2 * (2 * m + a) + b < 2 ^ 31) : (nI (2 * (2 * m + a) + b) >>> ((1 : Int32) &&& 31)) ||| (nI (2 * (2 * m + a) + b) &&& 1) = nI (2 * m + (if a = 1 ∨ b = 1 then 1 else 0)) := by
  rw [nI_shr1 h, show (1 : Int32) = nI 1 from rfl, nI_and, nI_or, Nat.and_one_is_mod, show (2 * (2 * m + a) + b) / 2 = 2 * m + a by omega, show (2 * (2 * m + a) + b) % 2 = b by omega, ← n_or1 m ha, Nat.or_assoc, ← n_or1 m (show (if a = 1 ∨ b = 1 then 1 else 0) < 2 by split <;> omega)]
  have : a ||| b = (if a = 1 ∨ b = 1 then 1 else 0) := by
    have h1 : ∀ a, a < 2 → ∀ b, b < 2 → a ||| b = (if a = 1 ∨ b = 1 then 1 else 0) := by decide
    exact h1 a ha b hb
  rw [this]
theorem bit_not {m a : Nat} (ha : a < 2) : nI (2 * m + a) ^^^ 1 = nI (2 * m + (1 - a)) := by
  rw [show (1 : Int32) = nI 1 from rfl, nI_xor]
  have e : (2 * m + a) ^^^ 1 = 2 * m + (1 - a) := by
    apply Nat.eq_of_testBit_eq
    intro i
    rw [Nat.testBit_xor]
    cases i with
    | zero =>
      rw [Nat.testBit_zero, Nat.testBit_zero, Nat.testBit_zero]
      rcases (show a = 0 ∨ a = 1 by omega) with rfl | rfl
      · rw [decide_eq_false (show ¬ (2 * m + 0) % 2 = 1 by omega), decide_eq_true (show (2 * m + (1 - 0)) % 2 = 1 by omega)]; rfl
      · rw [decide_eq_true (show (2 * m + 1) % 2 = 1 by omega), decide_eq_false (show ¬ (2 * m + (1 - 1)) % 2 = 1 by omega)]; rfl
    | succ i =>
      rw [Nat.testBit_succ, Nat.testBit_succ, Nat.testBit_succ, show (2 * m + a) / 2 = m by omega, show (2 * m + (1 - a)) / 2 = m by omega, show 1 / 2 = 0 from rfl, Nat.zero_testBit, Bool.xor_false]
  rw [e]
theorem bit_push (m : Nat) {b : Nat} (hb : b < 2) : (nI m <<< ((1 : Int32) &&& 31)) ||| nI b = nI (2 * m + b) := by rw [nI_shl1, nI_or, n_or1 m hb]
/-! steps of the class's code -/
section RX
variable {cf f : Nat → Int32} {lc : Nat}
theorem rnX_add (k1 k2 : Nat) (q : Nat × Int32) : rnX cf f (k1 + k2) q = rnX cf f k2 (rnX cf f k1 q) := by
  induction k1 generalizing q with
  | zero => rw [Nat.zero_add]; rfl
  | succ k1 ih => rw [show k1 + 1 + k2 = (k1 + k2) + 1 by omega]; exact ih (s1X cf f q)
theorem RnX.trans {k1 k2 : Nat} {q q' q'' : Nat × Int32} (h1 : RnX cf lc f k1 q q') (h2 : RnX cf lc f k2 q' q'') : RnX cf lc f (k1 + k2) q q'' := by
  refine ⟨by rw [rnX_add, h1.1, h2.1], fun j hj => ?_⟩
  by_cases z : j < k1
  · exact h1.2 j z
  · have := h2.2 (j - k1) (by omega)
    rw [show j = k1 + (j - k1) by omega, rnX_add, h1.1]
    exact this
theorem RnX.one {q : Nat × Int32} (h : o1X cf lc q.1) : RnX cf lc f 1 q (s1X cf f q) := by
  refine ⟨rfl, fun j hj => ?_⟩
  rw [show j = 0 by omega]
  exact h
end RX
