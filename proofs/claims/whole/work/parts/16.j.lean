def F_J6_bitCount_0f7a4 (Θ : GP) (l0 : Int32) (ω : OW) (n : Nat) : RO := some (.inl (some (.int ((((((((l0 - ((((l0 : Int32).toUInt32 >>> ((1 : Int32).toUInt32 &&& Int32.toUInt32 31)).toInt32) &&& 1431655765)) &&& 858993459) + ((((l0 - ((((l0 : Int32).toUInt32 >>> ((1 : Int32).toUInt32 &&& Int32.toUInt32 31)).toInt32) &&& 1431655765) : Int32).toUInt32 >>> ((2 : Int32).toUInt32 &&& Int32.toUInt32 31)).toInt32) &&& 858993459)) + (((((l0 - ((((l0 : Int32).toUInt32 >>> ((1 : Int32).toUInt32 &&& Int32.toUInt32 31)).toInt32) &&& 1431655765)) &&& 858993459) + ((((l0 - ((((l0 : Int32).toUInt32 >>> ((1 : Int32).toUInt32 &&& Int32.toUInt32 31)).toInt32) &&& 1431655765) : Int32).toUInt32 >>> ((2 : Int32).toUInt32 &&& Int32.toUInt32 31)).toInt32) &&& 858993459) : Int32).toUInt32 >>> ((4 : Int32).toUInt32 &&& Int32.toUInt32 31)).toInt32)) &&& 252645135) + (((((((l0 - ((((l0 : Int32).toUInt32 >>> ((1 : Int32).toUInt32 &&& Int32.toUInt32 31)).toInt32) &&& 1431655765)) &&& 858993459) + ((((l0 - ((((l0 : Int32).toUInt32 >>> ((1 : Int32).toUInt32 &&& Int32.toUInt32 31)).toInt32) &&& 1431655765) : Int32).toUInt32 >>> ((2 : Int32).toUInt32 &&& Int32.toUInt32 31)).toInt32) &&& 858993459)) + (((((l0 - ((((l0 : Int32).toUInt32 >>> ((1 : Int32).toUInt32 &&& Int32.toUInt32 31)).toInt32) &&& 1431655765)) &&& 858993459) + ((((l0 - ((((l0 : Int32).toUInt32 >>> ((1 : Int32).toUInt32 &&& Int32.toUInt32 31)).toInt32) &&& 1431655765) : Int32).toUInt32 >>> ((2 : Int32).toUInt32 &&& Int32.toUInt32 31)).toInt32) &&& 858993459) : Int32).toUInt32 >>> ((4 : Int32).toUInt32 &&& Int32.toUInt32 31)).toInt32)) &&& 252645135 : Int32).toUInt32 >>> ((8 : Int32).toUInt32 &&& Int32.toUInt32 31)).toInt32)) + ((((((((l0 - ((((l0 : Int32).toUInt32 >>> ((1 : Int32).toUInt32 &&& Int32.toUInt32 31)).toInt32) &&& 1431655765)) &&& 858993459) + ((((l0 - ((((l0 : Int32).toUInt32 >>> ((1 : Int32).toUInt32 &&& Int32.toUInt32 31)).toInt32) &&& 1431655765) : Int32).toUInt32 >>> ((2 : Int32).toUInt32 &&& Int32.toUInt32 31)).toInt32) &&& 858993459)) + (((((l0 - ((((l0 : Int32).toUInt32 >>> ((1 : Int32).toUInt32 &&& Int32.toUInt32 31)).toInt32) &&& 1431655765)) &&& 858993459) + ((((l0 - ((((l0 : Int32).toUInt32 >>> ((1 : Int32).toUInt32 &&& Int32.toUInt32 31)).toInt32) &&& 1431655765) : Int32).toUInt32 >>> ((2 : Int32).toUInt32 &&& Int32.toUInt32 31)).toInt32) &&& 858993459) : Int32).toUInt32 >>> ((4 : Int32).toUInt32 &&& Int32.toUInt32 31)).toInt32)) &&& 252645135) + (((((((l0 - ((((l0 : Int32).toUInt32 >>> ((1 : Int32).toUInt32 &&& Int32.toUInt32 31)).toInt32) &&& 1431655765)) &&& 858993459) + ((((l0 - ((((l0 : Int32).toUInt32 >>> ((1 : Int32).toUInt32 &&& Int32.toUInt32 31)).toInt32) &&& 1431655765) : Int32).toUInt32 >>> ((2 : Int32).toUInt32 &&& Int32.toUInt32 31)).toInt32) &&& 858993459)) + (((((l0 - ((((l0 : Int32).toUInt32 >>> ((1 : Int32).toUInt32 &&& Int32.toUInt32 31)).toInt32) &&& 1431655765)) &&& 858993459) + ((((l0 - ((((l0 : Int32).toUInt32 >>> ((1 : Int32).toUInt32 &&& Int32.toUInt32 31)).toInt32) &&& 1431655765) : Int32).toUInt32 >>> ((2 : Int32).toUInt32 &&& Int32.toUInt32 31)).toInt32) &&& 858993459) : Int32).toUInt32 >>> ((4 : Int32).toUInt32 &&& Int32.toUInt32 31)).toInt32)) &&& 252645135 : Int32).toUInt32 >>> ((8 : Int32).toUInt32 &&& Int32.toUInt32 31)).toInt32) : Int32).toUInt32 >>> ((16 : Int32).toUInt32 &&& Int32.toUInt32 31)).toInt32)) &&& 63)), ω, n))
theorem ok_J6_bitCount_0f7a4 (Θ : GP) (l0 : Int32) (ω : OW) (n : Nat) : Ok Θ 1 0 0 yJ6_bitCount_0f7a4 cJ6_bitCount_0f7a4 1 (some .int) [.int l0] ω n (F_J6_bitCount_0f7a4 Θ l0 ω n) := by
  refine Ok.of (by decide +kernel) (Nat.le_of_ble_eq_true rfl) (fun r h => ?_)
  unfold F_J6_bitCount_0f7a4 at h
  show GR Θ yJ6_bitCount_0f7a4 cJ6_bitCount_0f7a4 1 (some .int) 1 (0, 0) 0 [(0, .int l0)] [] ω n r
  refine g_iload_n dJ6_bitCount_0f7a4_0 rfl 0 rfl ?_
  refine g_iload_n dJ6_bitCount_0f7a4_1 rfl 0 rfl ?_
  refine g_iconst (v := 1) dJ6_bitCount_0f7a4_2 (by decide) ?_
  refine g_iushr dJ6_bitCount_0f7a4_3 rfl ?_
  refine g_ldc_w (v := 1431655765) wd_668 dJ6_bitCount_0f7a4_4 ?_
  refine g_iand dJ6_bitCount_0f7a4_7 ?_
  refine g_isub dJ6_bitCount_0f7a4_8 ?_
  refine g_istore_n (lv' := [(0, .int (l0 - ((((l0 : Int32).toUInt32 >>> ((1 : Int32).toUInt32 &&& Int32.toUInt32 31)).toInt32) &&& 1431655765)))]) dJ6_bitCount_0f7a4_9 rfl (by decide) rfl ?_
  refine g_iload_n dJ6_bitCount_0f7a4_10 rfl 0 rfl ?_
  refine g_ldc_w (v := 858993459) wd_669 dJ6_bitCount_0f7a4_11 ?_
  refine g_iand dJ6_bitCount_0f7a4_14 ?_
  refine g_iload_n dJ6_bitCount_0f7a4_15 rfl 0 rfl ?_
  refine g_iconst (v := 2) dJ6_bitCount_0f7a4_16 (by decide) ?_
  refine g_iushr dJ6_bitCount_0f7a4_17 rfl ?_
  refine g_ldc_w (v := 858993459) wd_669 dJ6_bitCount_0f7a4_18 ?_
  refine g_iand dJ6_bitCount_0f7a4_21 ?_
  refine g_iadd dJ6_bitCount_0f7a4_22 ?_
  refine g_istore_n (lv' := [(0, .int (((l0 - ((((l0 : Int32).toUInt32 >>> ((1 : Int32).toUInt32 &&& Int32.toUInt32 31)).toInt32) &&& 1431655765)) &&& 858993459) + ((((l0 - ((((l0 : Int32).toUInt32 >>> ((1 : Int32).toUInt32 &&& Int32.toUInt32 31)).toInt32) &&& 1431655765) : Int32).toUInt32 >>> ((2 : Int32).toUInt32 &&& Int32.toUInt32 31)).toInt32) &&& 858993459)))]) dJ6_bitCount_0f7a4_23 rfl (by decide) rfl ?_
  refine g_iload_n dJ6_bitCount_0f7a4_24 rfl 0 rfl ?_
  refine g_iload_n dJ6_bitCount_0f7a4_25 rfl 0 rfl ?_
  refine g_iconst (v := 4) dJ6_bitCount_0f7a4_26 (by decide) ?_
  refine g_iushr dJ6_bitCount_0f7a4_27 rfl ?_
  refine g_iadd dJ6_bitCount_0f7a4_28 ?_
  refine g_ldc_w (v := 252645135) wd_670 dJ6_bitCount_0f7a4_29 ?_
  refine g_iand dJ6_bitCount_0f7a4_32 ?_
  refine g_istore_n (lv' := [(0, .int (((((l0 - ((((l0 : Int32).toUInt32 >>> ((1 : Int32).toUInt32 &&& Int32.toUInt32 31)).toInt32) &&& 1431655765)) &&& 858993459) + ((((l0 - ((((l0 : Int32).toUInt32 >>> ((1 : Int32).toUInt32 &&& Int32.toUInt32 31)).toInt32) &&& 1431655765) : Int32).toUInt32 >>> ((2 : Int32).toUInt32 &&& Int32.toUInt32 31)).toInt32) &&& 858993459)) + (((((l0 - ((((l0 : Int32).toUInt32 >>> ((1 : Int32).toUInt32 &&& Int32.toUInt32 31)).toInt32) &&& 1431655765)) &&& 858993459) + ((((l0 - ((((l0 : Int32).toUInt32 >>> ((1 : Int32).toUInt32 &&& Int32.toUInt32 31)).toInt32) &&& 1431655765) : Int32).toUInt32 >>> ((2 : Int32).toUInt32 &&& Int32.toUInt32 31)).toInt32) &&& 858993459) : Int32).toUInt32 >>> ((4 : Int32).toUInt32 &&& Int32.toUInt32 31)).toInt32)) &&& 252645135))]) dJ6_bitCount_0f7a4_33 rfl (by decide) rfl ?_
  refine g_iload_n dJ6_bitCount_0f7a4_34 rfl 0 rfl ?_
  refine g_iload_n dJ6_bitCount_0f7a4_35 rfl 0 rfl ?_
  refine g_bipush (v := 8) dJ6_bitCount_0f7a4_36 (by decide) ?_
  refine g_iushr dJ6_bitCount_0f7a4_38 rfl ?_
  refine g_iadd dJ6_bitCount_0f7a4_39 ?_
  refine g_istore_n (lv' := [(0, .int ((((((l0 - ((((l0 : Int32).toUInt32 >>> ((1 : Int32).toUInt32 &&& Int32.toUInt32 31)).toInt32) &&& 1431655765)) &&& 858993459) + ((((l0 - ((((l0 : Int32).toUInt32 >>> ((1 : Int32).toUInt32 &&& Int32.toUInt32 31)).toInt32) &&& 1431655765) : Int32).toUInt32 >>> ((2 : Int32).toUInt32 &&& Int32.toUInt32 31)).toInt32) &&& 858993459)) + (((((l0 - ((((l0 : Int32).toUInt32 >>> ((1 : Int32).toUInt32 &&& Int32.toUInt32 31)).toInt32) &&& 1431655765)) &&& 858993459) + ((((l0 - ((((l0 : Int32).toUInt32 >>> ((1 : Int32).toUInt32 &&& Int32.toUInt32 31)).toInt32) &&& 1431655765) : Int32).toUInt32 >>> ((2 : Int32).toUInt32 &&& Int32.toUInt32 31)).toInt32) &&& 858993459) : Int32).toUInt32 >>> ((4 : Int32).toUInt32 &&& Int32.toUInt32 31)).toInt32)) &&& 252645135) + (((((((l0 - ((((l0 : Int32).toUInt32 >>> ((1 : Int32).toUInt32 &&& Int32.toUInt32 31)).toInt32) &&& 1431655765)) &&& 858993459) + ((((l0 - ((((l0 : Int32).toUInt32 >>> ((1 : Int32).toUInt32 &&& Int32.toUInt32 31)).toInt32) &&& 1431655765) : Int32).toUInt32 >>> ((2 : Int32).toUInt32 &&& Int32.toUInt32 31)).toInt32) &&& 858993459)) + (((((l0 - ((((l0 : Int32).toUInt32 >>> ((1 : Int32).toUInt32 &&& Int32.toUInt32 31)).toInt32) &&& 1431655765)) &&& 858993459) + ((((l0 - ((((l0 : Int32).toUInt32 >>> ((1 : Int32).toUInt32 &&& Int32.toUInt32 31)).toInt32) &&& 1431655765) : Int32).toUInt32 >>> ((2 : Int32).toUInt32 &&& Int32.toUInt32 31)).toInt32) &&& 858993459) : Int32).toUInt32 >>> ((4 : Int32).toUInt32 &&& Int32.toUInt32 31)).toInt32)) &&& 252645135 : Int32).toUInt32 >>> ((8 : Int32).toUInt32 &&& Int32.toUInt32 31)).toInt32)))]) dJ6_bitCount_0f7a4_40 rfl (by decide) rfl ?_
  refine g_iload_n dJ6_bitCount_0f7a4_41 rfl 0 rfl ?_
  refine g_iload_n dJ6_bitCount_0f7a4_42 rfl 0 rfl ?_
  refine g_bipush (v := 16) dJ6_bitCount_0f7a4_43 (by decide) ?_
  refine g_iushr dJ6_bitCount_0f7a4_45 rfl ?_
  refine g_iadd dJ6_bitCount_0f7a4_46 ?_
  refine g_istore_n (lv' := [(0, .int (((((((l0 - ((((l0 : Int32).toUInt32 >>> ((1 : Int32).toUInt32 &&& Int32.toUInt32 31)).toInt32) &&& 1431655765)) &&& 858993459) + ((((l0 - ((((l0 : Int32).toUInt32 >>> ((1 : Int32).toUInt32 &&& Int32.toUInt32 31)).toInt32) &&& 1431655765) : Int32).toUInt32 >>> ((2 : Int32).toUInt32 &&& Int32.toUInt32 31)).toInt32) &&& 858993459)) + (((((l0 - ((((l0 : Int32).toUInt32 >>> ((1 : Int32).toUInt32 &&& Int32.toUInt32 31)).toInt32) &&& 1431655765)) &&& 858993459) + ((((l0 - ((((l0 : Int32).toUInt32 >>> ((1 : Int32).toUInt32 &&& Int32.toUInt32 31)).toInt32) &&& 1431655765) : Int32).toUInt32 >>> ((2 : Int32).toUInt32 &&& Int32.toUInt32 31)).toInt32) &&& 858993459) : Int32).toUInt32 >>> ((4 : Int32).toUInt32 &&& Int32.toUInt32 31)).toInt32)) &&& 252645135) + (((((((l0 - ((((l0 : Int32).toUInt32 >>> ((1 : Int32).toUInt32 &&& Int32.toUInt32 31)).toInt32) &&& 1431655765)) &&& 858993459) + ((((l0 - ((((l0 : Int32).toUInt32 >>> ((1 : Int32).toUInt32 &&& Int32.toUInt32 31)).toInt32) &&& 1431655765) : Int32).toUInt32 >>> ((2 : Int32).toUInt32 &&& Int32.toUInt32 31)).toInt32) &&& 858993459)) + (((((l0 - ((((l0 : Int32).toUInt32 >>> ((1 : Int32).toUInt32 &&& Int32.toUInt32 31)).toInt32) &&& 1431655765)) &&& 858993459) + ((((l0 - ((((l0 : Int32).toUInt32 >>> ((1 : Int32).toUInt32 &&& Int32.toUInt32 31)).toInt32) &&& 1431655765) : Int32).toUInt32 >>> ((2 : Int32).toUInt32 &&& Int32.toUInt32 31)).toInt32) &&& 858993459) : Int32).toUInt32 >>> ((4 : Int32).toUInt32 &&& Int32.toUInt32 31)).toInt32)) &&& 252645135 : Int32).toUInt32 >>> ((8 : Int32).toUInt32 &&& Int32.toUInt32 31)).toInt32)) + ((((((((l0 - ((((l0 : Int32).toUInt32 >>> ((1 : Int32).toUInt32 &&& Int32.toUInt32 31)).toInt32) &&& 1431655765)) &&& 858993459) + ((((l0 - ((((l0 : Int32).toUInt32 >>> ((1 : Int32).toUInt32 &&& Int32.toUInt32 31)).toInt32) &&& 1431655765) : Int32).toUInt32 >>> ((2 : Int32).toUInt32 &&& Int32.toUInt32 31)).toInt32) &&& 858993459)) + (((((l0 - ((((l0 : Int32).toUInt32 >>> ((1 : Int32).toUInt32 &&& Int32.toUInt32 31)).toInt32) &&& 1431655765)) &&& 858993459) + ((((l0 - ((((l0 : Int32).toUInt32 >>> ((1 : Int32).toUInt32 &&& Int32.toUInt32 31)).toInt32) &&& 1431655765) : Int32).toUInt32 >>> ((2 : Int32).toUInt32 &&& Int32.toUInt32 31)).toInt32) &&& 858993459) : Int32).toUInt32 >>> ((4 : Int32).toUInt32 &&& Int32.toUInt32 31)).toInt32)) &&& 252645135) + (((((((l0 - ((((l0 : Int32).toUInt32 >>> ((1 : Int32).toUInt32 &&& Int32.toUInt32 31)).toInt32) &&& 1431655765)) &&& 858993459) + ((((l0 - ((((l0 : Int32).toUInt32 >>> ((1 : Int32).toUInt32 &&& Int32.toUInt32 31)).toInt32) &&& 1431655765) : Int32).toUInt32 >>> ((2 : Int32).toUInt32 &&& Int32.toUInt32 31)).toInt32) &&& 858993459)) + (((((l0 - ((((l0 : Int32).toUInt32 >>> ((1 : Int32).toUInt32 &&& Int32.toUInt32 31)).toInt32) &&& 1431655765)) &&& 858993459) + ((((l0 - ((((l0 : Int32).toUInt32 >>> ((1 : Int32).toUInt32 &&& Int32.toUInt32 31)).toInt32) &&& 1431655765) : Int32).toUInt32 >>> ((2 : Int32).toUInt32 &&& Int32.toUInt32 31)).toInt32) &&& 858993459) : Int32).toUInt32 >>> ((4 : Int32).toUInt32 &&& Int32.toUInt32 31)).toInt32)) &&& 252645135 : Int32).toUInt32 >>> ((8 : Int32).toUInt32 &&& Int32.toUInt32 31)).toInt32) : Int32).toUInt32 >>> ((16 : Int32).toUInt32 &&& Int32.toUInt32 31)).toInt32)))]) dJ6_bitCount_0f7a4_47 rfl (by decide) rfl ?_
  refine g_iload_n dJ6_bitCount_0f7a4_48 rfl 0 rfl ?_
  refine g_bipush (v := 63) dJ6_bitCount_0f7a4_49 (by decide) ?_
  refine g_iand dJ6_bitCount_0f7a4_51 ?_
  cases h
  exact g_iret rfl dJ6_bitCount_0f7a4_52 rfl
def J_J6_numberOfTrailingZeros_0f7a4_74 (Θ : GP) (l0 : Int32) (l1 : Int32) (ω : OW) (n : Nat) : RO := some (.inl (some (.int (l1 + (((l0 : Int32).toUInt32 >>> ((1 : Int32).toUInt32 &&& Int32.toUInt32 31)).toInt32))), ω, n))
def J_J6_numberOfTrailingZeros_0f7a4_62 (Θ : GP) (l0 : Int32) (l1 : Int32) (ω : OW) (n : Nat) : RO := if l0 ≤ 4 then (J_J6_numberOfTrailingZeros_0f7a4_74 Θ l0 l1 ω n) else (J_J6_numberOfTrailingZeros_0f7a4_74 Θ (((l0 : Int32).toUInt32 >>> ((2 : Int32).toUInt32 &&& Int32.toUInt32 31)).toInt32) (l1 + 2) ω n)
def J_J6_numberOfTrailingZeros_0f7a4_49 (Θ : GP) (l0 : Int32) (l1 : Int32) (ω : OW) (n : Nat) : RO := if l0 ≤ 16 then (J_J6_numberOfTrailingZeros_0f7a4_62 Θ l0 l1 ω n) else (J_J6_numberOfTrailingZeros_0f7a4_62 Θ (((l0 : Int32).toUInt32 >>> ((4 : Int32).toUInt32 &&& Int32.toUInt32 31)).toInt32) (l1 + 4) ω n)
def J_J6_numberOfTrailingZeros_0f7a4_34 (Θ : GP) (l0 : Int32) (l1 : Int32) (ω : OW) (n : Nat) : RO := if l0 ≤ 256 then (J_J6_numberOfTrailingZeros_0f7a4_49 Θ l0 l1 ω n) else (J_J6_numberOfTrailingZeros_0f7a4_49 Θ (((l0 : Int32).toUInt32 >>> ((8 : Int32).toUInt32 &&& Int32.toUInt32 31)).toInt32) (l1 + 8) ω n)
def F_J6_numberOfTrailingZeros_0f7a4 (Θ : GP) (l0 : Int32) (ω : OW) (n : Nat) : RO := if 0 < ((l0 ^^^ (-1)) &&& (l0 - 1)) then (if ((l0 ^^^ (-1)) &&& (l0 - 1)) ≤ 65536 then (J_J6_numberOfTrailingZeros_0f7a4_34 Θ ((l0 ^^^ (-1)) &&& (l0 - 1)) 1 ω n) else (J_J6_numberOfTrailingZeros_0f7a4_34 Θ ((((l0 ^^^ (-1)) &&& (l0 - 1) : Int32).toUInt32 >>> ((16 : Int32).toUInt32 &&& Int32.toUInt32 31)).toInt32) (1 + 16) ω n)) else (some (.inl (some (.int (((l0 ^^^ (-1)) &&& (l0 - 1)) &&& 32)), ω, n)))
theorem ok_J_J6_numberOfTrailingZeros_0f7a4_74 (Θ : GP) (l0 : Int32) (l1 : Int32) (ω : OW) (n : Nat) (r : Out) (h : J_J6_numberOfTrailingZeros_0f7a4_74 Θ l0 l1 ω n = some r) : GR Θ yJ6_numberOfTrailingZeros_0f7a4 cJ6_numberOfTrailingZeros_0f7a4 2 (some .int) 1 (0, 0) 74 [(0, .int l0), (1, .int l1)] [] ω n r := by
  unfold J_J6_numberOfTrailingZeros_0f7a4_74 at h
  refine g_iload_n dJ6_numberOfTrailingZeros_0f7a4_74 rfl 1 rfl ?_
  refine g_iload_n dJ6_numberOfTrailingZeros_0f7a4_75 rfl 0 rfl ?_
  refine g_iconst (v := 1) dJ6_numberOfTrailingZeros_0f7a4_76 (by decide) ?_
  refine g_iushr dJ6_numberOfTrailingZeros_0f7a4_77 rfl ?_
  refine g_iadd dJ6_numberOfTrailingZeros_0f7a4_78 ?_
  cases h
  exact g_iret rfl dJ6_numberOfTrailingZeros_0f7a4_79 rfl
theorem ok_J_J6_numberOfTrailingZeros_0f7a4_62 (Θ : GP) (l0 : Int32) (l1 : Int32) (ω : OW) (n : Nat) (r : Out) (h : J_J6_numberOfTrailingZeros_0f7a4_62 Θ l0 l1 ω n = some r) : GR Θ yJ6_numberOfTrailingZeros_0f7a4 cJ6_numberOfTrailingZeros_0f7a4 2 (some .int) 1 (0, 0) 62 [(0, .int l0), (1, .int l1)] [] ω n r := by
  unfold J_J6_numberOfTrailingZeros_0f7a4_62 at h
  refine g_iload_n dJ6_numberOfTrailingZeros_0f7a4_62 rfl 0 rfl ?_
  refine g_iconst (v := 4) dJ6_numberOfTrailingZeros_0f7a4_63 (by decide) ?_
  refine g_icmp_le (tgt := 74) dJ6_numberOfTrailingZeros_0f7a4_64 (by decide) (fun c1 => ?_) (fun c1 => ?_)
  · rw [if_pos c1] at h
    exact ok_J_J6_numberOfTrailingZeros_0f7a4_74 Θ l0 l1 _ _ r h
  · rw [if_neg c1] at h
    refine g_iinc (j := 1) (v := l1 + 2) (lv' := [(1, .int (l1 + 2)), (0, .int l0)]) dJ6_numberOfTrailingZeros_0f7a4_67 rfl rfl (by decide) rfl ?_
    refine g_iload_n dJ6_numberOfTrailingZeros_0f7a4_70 rfl 1 rfl ?_
    refine g_iconst (v := 2) dJ6_numberOfTrailingZeros_0f7a4_71 (by decide) ?_
    refine g_iushr dJ6_numberOfTrailingZeros_0f7a4_72 rfl ?_
    refine g_istore_n (lv' := [(0, .int (((l0 : Int32).toUInt32 >>> ((2 : Int32).toUInt32 &&& Int32.toUInt32 31)).toInt32)), (1, .int (l1 + 2))]) dJ6_numberOfTrailingZeros_0f7a4_73 rfl (by decide) rfl ?_
    exact ok_J_J6_numberOfTrailingZeros_0f7a4_74 Θ (((l0 : Int32).toUInt32 >>> ((2 : Int32).toUInt32 &&& Int32.toUInt32 31)).toInt32) (l1 + 2) _ _ r h
theorem ok_J_J6_numberOfTrailingZeros_0f7a4_49 (Θ : GP) (l0 : Int32) (l1 : Int32) (ω : OW) (n : Nat) (r : Out) (h : J_J6_numberOfTrailingZeros_0f7a4_49 Θ l0 l1 ω n = some r) : GR Θ yJ6_numberOfTrailingZeros_0f7a4 cJ6_numberOfTrailingZeros_0f7a4 2 (some .int) 1 (0, 0) 49 [(0, .int l0), (1, .int l1)] [] ω n r := by
  unfold J_J6_numberOfTrailingZeros_0f7a4_49 at h
  refine g_iload_n dJ6_numberOfTrailingZeros_0f7a4_49 rfl 0 rfl ?_
  refine g_bipush (v := 16) dJ6_numberOfTrailingZeros_0f7a4_50 (by decide) ?_
  refine g_icmp_le (tgt := 62) dJ6_numberOfTrailingZeros_0f7a4_52 (by decide) (fun c2 => ?_) (fun c2 => ?_)
  · rw [if_pos c2] at h
    exact ok_J_J6_numberOfTrailingZeros_0f7a4_62 Θ l0 l1 _ _ r h
  · rw [if_neg c2] at h
    refine g_iinc (j := 1) (v := l1 + 4) (lv' := [(1, .int (l1 + 4)), (0, .int l0)]) dJ6_numberOfTrailingZeros_0f7a4_55 rfl rfl (by decide) rfl ?_
    refine g_iload_n dJ6_numberOfTrailingZeros_0f7a4_58 rfl 1 rfl ?_
    refine g_iconst (v := 4) dJ6_numberOfTrailingZeros_0f7a4_59 (by decide) ?_
    refine g_iushr dJ6_numberOfTrailingZeros_0f7a4_60 rfl ?_
    refine g_istore_n (lv' := [(0, .int (((l0 : Int32).toUInt32 >>> ((4 : Int32).toUInt32 &&& Int32.toUInt32 31)).toInt32)), (1, .int (l1 + 4))]) dJ6_numberOfTrailingZeros_0f7a4_61 rfl (by decide) rfl ?_
    exact ok_J_J6_numberOfTrailingZeros_0f7a4_62 Θ (((l0 : Int32).toUInt32 >>> ((4 : Int32).toUInt32 &&& Int32.toUInt32 31)).toInt32) (l1 + 4) _ _ r h
theorem ok_J_J6_numberOfTrailingZeros_0f7a4_34 (Θ : GP) (l0 : Int32) (l1 : Int32) (ω : OW) (n : Nat) (r : Out) (h : J_J6_numberOfTrailingZeros_0f7a4_34 Θ l0 l1 ω n = some r) : GR Θ yJ6_numberOfTrailingZeros_0f7a4 cJ6_numberOfTrailingZeros_0f7a4 2 (some .int) 1 (0, 0) 34 [(0, .int l0), (1, .int l1)] [] ω n r := by
  unfold J_J6_numberOfTrailingZeros_0f7a4_34 at h
  refine g_iload_n dJ6_numberOfTrailingZeros_0f7a4_34 rfl 0 rfl ?_
  refine g_sipush (v := 256) dJ6_numberOfTrailingZeros_0f7a4_35 (by decide) ?_
  refine g_icmp_le (tgt := 49) dJ6_numberOfTrailingZeros_0f7a4_38 (by decide) (fun c3 => ?_) (fun c3 => ?_)
  · rw [if_pos c3] at h
    exact ok_J_J6_numberOfTrailingZeros_0f7a4_49 Θ l0 l1 _ _ r h
  · rw [if_neg c3] at h
    refine g_iinc (j := 1) (v := l1 + 8) (lv' := [(1, .int (l1 + 8)), (0, .int l0)]) dJ6_numberOfTrailingZeros_0f7a4_41 rfl rfl (by decide) rfl ?_
    refine g_iload_n dJ6_numberOfTrailingZeros_0f7a4_44 rfl 1 rfl ?_
    refine g_bipush (v := 8) dJ6_numberOfTrailingZeros_0f7a4_45 (by decide) ?_
    refine g_iushr dJ6_numberOfTrailingZeros_0f7a4_47 rfl ?_
    refine g_istore_n (lv' := [(0, .int (((l0 : Int32).toUInt32 >>> ((8 : Int32).toUInt32 &&& Int32.toUInt32 31)).toInt32)), (1, .int (l1 + 8))]) dJ6_numberOfTrailingZeros_0f7a4_48 rfl (by decide) rfl ?_
    exact ok_J_J6_numberOfTrailingZeros_0f7a4_49 Θ (((l0 : Int32).toUInt32 >>> ((8 : Int32).toUInt32 &&& Int32.toUInt32 31)).toInt32) (l1 + 8) _ _ r h
theorem ok_J6_numberOfTrailingZeros_0f7a4 (Θ : GP) (l0 : Int32) (ω : OW) (n : Nat) : Ok Θ 1 0 0 yJ6_numberOfTrailingZeros_0f7a4 cJ6_numberOfTrailingZeros_0f7a4 2 (some .int) [.int l0] ω n (F_J6_numberOfTrailingZeros_0f7a4 Θ l0 ω n) := by
  refine Ok.of (by decide +kernel) (Nat.le_of_ble_eq_true rfl) (fun r h => ?_)
  unfold F_J6_numberOfTrailingZeros_0f7a4 at h
  show GR Θ yJ6_numberOfTrailingZeros_0f7a4 cJ6_numberOfTrailingZeros_0f7a4 2 (some .int) 1 (0, 0) 0 [(0, .int l0)] [] ω n r
  refine g_iload_n dJ6_numberOfTrailingZeros_0f7a4_0 rfl 0 rfl ?_
  refine g_iconst (v := (-1)) dJ6_numberOfTrailingZeros_0f7a4_1 (by decide) ?_
  refine g_ixor dJ6_numberOfTrailingZeros_0f7a4_2 ?_
  refine g_iload_n dJ6_numberOfTrailingZeros_0f7a4_3 rfl 0 rfl ?_
  refine g_iconst (v := 1) dJ6_numberOfTrailingZeros_0f7a4_4 (by decide) ?_
  refine g_isub dJ6_numberOfTrailingZeros_0f7a4_5 ?_
  refine g_iand dJ6_numberOfTrailingZeros_0f7a4_6 ?_
  refine g_istore_n (lv' := [(0, .int ((l0 ^^^ (-1)) &&& (l0 - 1)))]) dJ6_numberOfTrailingZeros_0f7a4_7 rfl (by decide) rfl ?_
  refine g_iload_n dJ6_numberOfTrailingZeros_0f7a4_8 rfl 0 rfl ?_
  refine g_if_gt (tgt := 17) dJ6_numberOfTrailingZeros_0f7a4_9 (by decide) (fun c4 => ?_) (fun c4 => ?_)
  · rw [if_pos c4] at h
    refine g_iconst (v := 1) dJ6_numberOfTrailingZeros_0f7a4_17 (by decide) ?_
    refine g_istore_n (lv' := [(1, .int 1), (0, .int ((l0 ^^^ (-1)) &&& (l0 - 1)))]) dJ6_numberOfTrailingZeros_0f7a4_18 rfl (by decide) rfl ?_
    refine g_iload_n dJ6_numberOfTrailingZeros_0f7a4_19 rfl 1 rfl ?_
    refine g_ldc_w (v := 65536) wd_1685 dJ6_numberOfTrailingZeros_0f7a4_20 ?_
    refine g_icmp_le (tgt := 34) dJ6_numberOfTrailingZeros_0f7a4_23 (by decide) (fun c5 => ?_) (fun c5 => ?_)
    · rw [if_pos c5] at h
      refine G.lsub [1, 0] rfl ?_
      exact ok_J_J6_numberOfTrailingZeros_0f7a4_34 Θ ((l0 ^^^ (-1)) &&& (l0 - 1)) 1 _ _ r h
    · rw [if_neg c5] at h
      refine g_iinc (j := 0) (v := 1 + 16) (lv' := [(1, .int (1 + 16)), (0, .int ((l0 ^^^ (-1)) &&& (l0 - 1)))]) dJ6_numberOfTrailingZeros_0f7a4_26 rfl rfl (by decide) rfl ?_
      refine g_iload_n dJ6_numberOfTrailingZeros_0f7a4_29 rfl 1 rfl ?_
      refine g_bipush (v := 16) dJ6_numberOfTrailingZeros_0f7a4_30 (by decide) ?_
      refine g_iushr dJ6_numberOfTrailingZeros_0f7a4_32 rfl ?_
      refine g_istore_n (lv' := [(0, .int ((((l0 ^^^ (-1)) &&& (l0 - 1) : Int32).toUInt32 >>> ((16 : Int32).toUInt32 &&& Int32.toUInt32 31)).toInt32)), (1, .int (1 + 16))]) dJ6_numberOfTrailingZeros_0f7a4_33 rfl (by decide) rfl ?_
      exact ok_J_J6_numberOfTrailingZeros_0f7a4_34 Θ ((((l0 ^^^ (-1)) &&& (l0 - 1) : Int32).toUInt32 >>> ((16 : Int32).toUInt32 &&& Int32.toUInt32 31)).toInt32) (1 + 16) _ _ r h
  · rw [if_neg c4] at h
    refine g_iload_n dJ6_numberOfTrailingZeros_0f7a4_12 rfl 0 rfl ?_
    refine g_bipush (v := 32) dJ6_numberOfTrailingZeros_0f7a4_13 (by decide) ?_
    refine g_iand dJ6_numberOfTrailingZeros_0f7a4_15 ?_
    cases h
    exact g_iret rfl dJ6_numberOfTrailingZeros_0f7a4_16 rfl
def B_J7_fill_53178_5 (Θ : GP) (k_5 : Nat → Int32 → Int32 → Int32 → OW → Nat → RO) (l0 : Nat) (l1 : Int32) (l2 : Int32) (l3 : Int32) (ω : OW) (n : Nat) : RO := if l3 ≤ l2 then (some (.inl (none, ω, n))) else (sI ω (gI Θ) l0 l2 l1 (fun ω => k_5 l0 l1 (l2 + 1) l3 ω n))
def L_J7_fill_53178_5 (Θ : GP) : Nat → Nat → Int32 → Int32 → Int32 → OW → Nat → RO
  | 0, _, _, _, _, _, _ => none
  | f + 1, l0, l1, l2, l3, ω, n => B_J7_fill_53178_5 Θ (L_J7_fill_53178_5 Θ f) l0 l1 l2 l3 ω n
def F_J7_fill_53178 (Θ : GP) (l0 : Nat) (l1 : Int32) (ω : OW) (n : Nat) : RO := alN ω l0 (gI Θ) (fun x2 => L_J7_fill_53178_5 Θ 5000 l0 l1 0 x2 ω n)
theorem ok_B_J7_fill_53178_5 (Θ : GP) (k_5 : Nat → Int32 → Int32 → Int32 → OW → Nat → RO) (hk_5 : ∀ l0 l1 l2 l3 ω n r, k_5 l0 l1 l2 l3 ω n = some r → GR Θ yJ7_fill_53178 cJ7_fill_53178 4 (none : Option Jvm.ClassFile.FieldType) 1 (0, 0) 5 [(0, .ref l0), (1, .int l1), (2, .int l2), (3, .int l3)] [] ω n r) (l0 : Nat) (l1 : Int32) (l2 : Int32) (l3 : Int32) (ω : OW) (n : Nat) (r : Out) (h : B_J7_fill_53178_5 Θ k_5 l0 l1 l2 l3 ω n = some r) : GR Θ yJ7_fill_53178 cJ7_fill_53178 4 (none : Option Jvm.ClassFile.FieldType) 1 (0, 0) 5 [(0, .ref l0), (1, .int l1), (2, .int l2), (3, .int l3)] [] ω n r := by
  unfold B_J7_fill_53178_5 at h
  refine g_iload_n dJ7_fill_53178_5 rfl 2 rfl ?_
  refine g_iload_n dJ7_fill_53178_6 rfl 3 rfl ?_
  refine g_icmp_ge (tgt := 20) dJ7_fill_53178_7 (by decide) (fun c1 => ?_) (fun c1 => ?_)
  · rw [if_pos c1] at h
    cases h
    exact g_vret rfl dJ7_fill_53178_20 rfl
  · rw [if_neg c1] at h
    refine g_aload_n dJ7_fill_53178_10 rfl 0 rfl ?_
    refine g_iload_n dJ7_fill_53178_11 rfl 2 rfl ?_
    refine g_iload_n dJ7_fill_53178_12 rfl 1 rfl ?_
    refine g_sIi dJ7_fill_53178_13 h (fun ω h => ?_)
    refine g_iinc (j := 2) (v := l2 + 1) (lv' := [(2, .int (l2 + 1)), (0, .ref l0), (1, .int l1), (3, .int l3)]) dJ7_fill_53178_14 rfl rfl (by decide) rfl ?_
    refine g_goto (tgt := 5) dJ7_fill_53178_17 (by decide) ?_
    refine G.lsub [1, 2, 0, 3] rfl ?_
    exact hk_5 l0 l1 (l2 + 1) l3 _ _ r h
theorem ok_L_J7_fill_53178_5 (Θ : GP) : ∀ (f : Nat) (l0 : Nat) (l1 : Int32) (l2 : Int32) (l3 : Int32) (ω : OW) (n : Nat) (r : Out), L_J7_fill_53178_5 Θ f l0 l1 l2 l3 ω n = some r → GR Θ yJ7_fill_53178 cJ7_fill_53178 4 (none : Option Jvm.ClassFile.FieldType) 1 (0, 0) 5 [(0, .ref l0), (1, .int l1), (2, .int l2), (3, .int l3)] [] ω n r := by
  intro f
  induction f with
  | zero =>
    intro l0 l1 l2 l3 ω n r h
    unfold L_J7_fill_53178_5 at h
    cases h
  | succ f ih =>
    intro l0 l1 l2 l3 ω n r h
    unfold L_J7_fill_53178_5 at h
    exact ok_B_J7_fill_53178_5 Θ (L_J7_fill_53178_5 Θ f) ih l0 l1 l2 l3 ω n r h
theorem ok_J7_fill_53178 (Θ : GP) (l0 : Nat) (l1 : Int32) (ω : OW) (n : Nat) : Ok Θ 1 0 0 yJ7_fill_53178 cJ7_fill_53178 4 (none : Option Jvm.ClassFile.FieldType) [.ref l0, .int l1] ω n (F_J7_fill_53178 Θ l0 l1 ω n) := by
  refine Ok.of (by decide +kernel) (Nat.le_of_ble_eq_true rfl) (fun r h => ?_)
  unfold F_J7_fill_53178 at h
  show GR Θ yJ7_fill_53178 cJ7_fill_53178 4 (none : Option Jvm.ClassFile.FieldType) 1 (0, 0) 0 [(0, .ref l0), (1, .int l1)] [] ω n r
  refine g_iconst (v := 0) dJ7_fill_53178_0 (by decide) ?_
  refine g_istore_n (lv' := [(2, .int 0), (0, .ref l0), (1, .int l1)]) dJ7_fill_53178_1 rfl (by decide) rfl ?_
  refine g_aload_n dJ7_fill_53178_2 rfl 1 rfl ?_
  refine g_lNn (t0 := 0) dJ7_fill_53178_3 rfl h (fun x2 h => ?_)
  refine g_istore_n (lv' := [(3, .int x2), (2, .int 0), (0, .ref l0), (1, .int l1)]) dJ7_fill_53178_4 rfl (by decide) rfl ?_
  refine G.lsub [2, 3, 1, 0] rfl ?_
  exact ok_L_J7_fill_53178_5 Θ 5000 l0 l1 0 x2 _ _ r h
