/-! leave: which props must go -/
theorem bt_nat {k i : Nat} (hi : i < 32) : bt (nI k) i = k.testBit i := by
  show (BitVec.ofNat 32 k).getLsbD i = _
  rw [BitVec.getLsbD_ofNat, decide_eq_true hi, Bool.true_and]
def cnt8 (s : Nat) : Nat := s % 2 + s / 2 % 2 + s / 4 % 2 + s / 8 % 2 + s / 16 % 2 + s / 32 % 2 + s / 64 % 2 + s / 128 % 2
theorem bc_tab : ∀ s, s < 256 → bcS (nI s) = nI (cnt8 s) := by decide +kernel
theorem sub_bits {s M : Nat} (h : nI s &&& (nI M ^^^ -1) = 0) (i : Nat) (hi : i < 8) : s / 2 ^ i % 2 ≤ M / 2 ^ i % 2 := by
  have e := congrArg (fun z => bt z i) h
  have e : bt (nI s &&& (nI M ^^^ -1)) i = bt 0 i := e
  rw [b_and, b_xor, b_m1 i (by omega), b_0, bt_nat (by omega), bt_nat (by omega), Nat.testBit_eq_decide_div_mod_eq, Nat.testBit_eq_decide_div_mod_eq] at e
  by_cases z : s / 2 ^ i % 2 = 1
  · by_cases y : M / 2 ^ i % 2 = 1
    · omega
    · rw [decide_eq_true z, decide_eq_false y] at e; cases e
  · omega
theorem dig8 : ∀ s, s < 256 → s = s % 2 + (2 * (s / 2 % 2) + (4 * (s / 4 % 2) + (8 * (s / 8 % 2) + (16 * (s / 16 % 2) + (32 * (s / 32 % 2) + (64 * (s / 64 % 2) + 128 * (s / 128 % 2))))))) := by decide +kernel
theorem two_le {a b c d : Nat} (h1 : a ≤ b) (h2 : c ≤ d) : a + c ≤ b + d ∧ (a + c = b + d → a = b ∧ c = d) := ⟨by omega, fun h => by omega⟩
theorem sub_le {s M : Nat} (hs : s < 256) (hM : M < 256) (h : nI s &&& (nI M ^^^ -1) = 0) : s ≤ M ∧ cnt8 s ≤ cnt8 M ∧ (cnt8 s = cnt8 M → s = M) := by
  have b0 := sub_bits h 0 (by omega)
  have b1 := sub_bits h 1 (by omega)
  have b2 := sub_bits h 2 (by omega)
  have b3 := sub_bits h 3 (by omega)
  have b4 := sub_bits h 4 (by omega)
  have b5 := sub_bits h 5 (by omega)
  have b6 := sub_bits h 6 (by omega)
  have b7 := sub_bits h 7 (by omega)
  simp only [Nat.reducePow, Nat.div_one] at b0 b1 b2 b3 b4 b5 b6 b7
  have es := dig8 s hs
  have eM := dig8 M hM
  unfold cnt8
  generalize s % 2 = a0 at *
  generalize s / 2 % 2 = a1 at *
  generalize s / 4 % 2 = a2 at *
  generalize s / 8 % 2 = a3 at *
  generalize s / 16 % 2 = a4 at *
  generalize s / 32 % 2 = a5 at *
  generalize s / 64 % 2 = a6 at *
  generalize s / 128 % 2 = a7 at *
  generalize M % 2 = c0 at *
  generalize M / 2 % 2 = c1 at *
  generalize M / 4 % 2 = c2 at *
  generalize M / 8 % 2 = c3 at *
  generalize M / 16 % 2 = c4 at *
  generalize M / 32 % 2 = c5 at *
  generalize M / 64 % 2 = c6 at *
  generalize M / 128 % 2 = c7 at *
  have t1 := two_le b0 b1
  have t2 := two_le t1.1 b2
  have t3 := two_le t2.1 b3
  have t4 := two_le t3.1 b4
  have t5 := two_le t4.1 b5
  have t6 := two_le t5.1 b6
  have t7 := two_le t6.1 b7
  refine ⟨?_, t7.1, fun y => ?_⟩
  · rw [es, eM]
    exact Nat.add_le_add b0 (Nat.add_le_add (Nat.mul_le_mul_left 2 b1) (Nat.add_le_add (Nat.mul_le_mul_left 4 b2) (Nat.add_le_add (Nat.mul_le_mul_left 8 b3) (Nat.add_le_add (Nat.mul_le_mul_left 16 b4) (Nat.add_le_add (Nat.mul_le_mul_left 32 b5) (Nat.add_le_add (Nat.mul_le_mul_left 64 b6) (Nat.mul_le_mul_left 128 b7)))))))
  · obtain ⟨y, e7⟩ := t7.2 y
    obtain ⟨y, e6⟩ := t6.2 y
    obtain ⟨y, e5⟩ := t5.2 y
    obtain ⟨y, e4⟩ := t4.2 y
    obtain ⟨y, e3⟩ := t3.2 y
    obtain ⟨y, e2⟩ := t2.2 y
    obtain ⟨e0, e1⟩ := t1.2 y
    rw [es, eM, e0, e1, e2, e3, e4, e5, e6, e7]
