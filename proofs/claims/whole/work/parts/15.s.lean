section GS
variable {Θ : GP} {y : MethodName} {cc : ByteArray} {nL : Nat} {ret : Option FieldType} {d : Nat} {tab : List ExceptionTableEntry} {Qv : Option Value → OW → Nat → Prop} {Qx : String → OW → Nat → Prop} {B : Nat × Nat} {pc : Nat} {lv : List (Nat × Value)} {st : List Value} {ω : OW} {n : Nat}
theorem g_gsC {index : Nat} (hl : Cond.fieldLink y.cls index "java/lang/String" "COMPACT_STRINGS" "Z" ∈ g_T) (hd : decode cc pc = .ok (.getstatic index, 3)) (K : G Θ y cc nL ret d tab Qv Qx B (pc + 3) lv (.int 1 :: st) ω n) : G Θ y cc nL ret d tab Qv Qx B pc lv st ω n :=
  G.pureC (fun _ _ _ _ _ _ _ _ _ _ _ _ _ _ _ hC hS hH hlv kk => va_gets hC.1 hC.2.1 hC.sf.2.2.2.2.2.2.2.2.2.2.2.2.1 hS hC.2.2.2.2.1 (hC.2.2.2.2.2.1 _ hl) (fun _ h => h) hd (kk _ hlv)) K
theorem g_gsP {index : Nat} (hl : Cond.fieldLink y.cls index "jdk/internal/util/Preconditions" "SIOOBE_FORMATTER" "Ljava/util/function/BiFunction;" ∈ g_T) (hd : decode cc pc = .ok (.getstatic index, 3)) (K : ∀ v : Value, (v = .null ∨ ∃ t, v = .ref t) → G Θ y cc nL ret d tab Qv Qx B (pc + 3) lv (v :: st) ω n) : G Θ y cc nL ret d tab Qv Qx B pc lv st ω n := by
  intro p e R s m args below meth c H locs cells slots mc ms ls hC hS hlv
  rcases hC.sf.2.2.2.2.2.2.2.2.2.2.2.2.2 with hz | ⟨t, hz⟩
  · exact va_gets hC.1 hC.2.1 hz hS.2.2.2.2.2.2 hC.2.2.2.2.1 (hC.2.2.2.2.2.1 _ hl) (fun _ h => h) hd (K _ (Or.inl rfl) p e R s m args below meth c H locs cells slots mc ms ls hC hS hlv)
  · exact va_gets hC.1 hC.2.1 hz hS.2.2.2.2.2.2 hC.2.2.2.2.1 (hC.2.2.2.2.2.1 _ hl) (fun _ h => h) hd (K _ (Or.inr ⟨t, rfl⟩) p e R s m args below meth c H locs cells slots mc ms ls hC hS hlv)
theorem g_strV {index q : Nat} (hq : q < 21) (hl : Cond.fieldLink y.cls index "java/lang/String" "value" "[B" ∈ g_T) (hd : decode cc pc = .ok (.getfield index, 3)) (K : G Θ y cc nL ret d tab Qv Qx B (pc + 3) lv (.ref (gV Θ q) :: st) ω n) : G Θ y cc nL ret d tab Qv Qx B pc lv (.ref (gK Θ q) :: st) ω n :=
  G.pureC (fun _ _ _ _ _ _ _ _ _ _ _ _ _ _ _ hC hS hH hlv kk => vk_getf hC.1 hC.2.1 (hC.sf.2.2.2.1.1 q hq).2.2.1 hS hC.2.2.2.2.1 (hC.2.2.2.2.2.1 _ hl) (fun _ h => h) hd (kk _ hlv)) K
theorem g_strK {index q : Nat} (hq : q < 21) (hl : Cond.fieldLink y.cls index "java/lang/String" "coder" "B" ∈ g_T) (hd : decode cc pc = .ok (.getfield index, 3)) (K : G Θ y cc nL ret d tab Qv Qx B (pc + 3) lv (.int 0 :: st) ω n) : G Θ y cc nL ret d tab Qv Qx B pc lv (.ref (gK Θ q) :: st) ω n :=
  G.pureC (fun _ _ _ _ _ _ _ _ _ _ _ _ _ _ _ hC hS hH hlv kk => vk_getf hC.1 hC.2.1 (hC.sf.2.2.2.1.1 q hq).2.1 hS hC.2.2.2.2.1 (hC.2.2.2.2.2.1 _ hl) (fun _ h => h) hd (kk _ hlv)) K
theorem g_strL {q : Nat} (hq : q < 21) (hd : decode cc pc = .ok (.arraylength, 1)) (K : G Θ y cc nL ret d tab Qv Qx B (pc + 1) lv (.int (Int32.ofNat (g_lens.getD q 0)) :: st) ω n) : G Θ y cc nL ret d tab Qv Qx B pc lv (.ref (gV Θ q) :: st) ω n :=
  G.pureC (fun _ _ _ _ _ _ _ _ _ _ _ _ _ _ _ hC hS hH hlv kk => va_tlen hC.1 hC.2.1 (hC.sf.2.2.2.1.1 q hq).2.2.2 hS rfl hd (kk _ hlv)) K
theorem g_strB {q : Nat} {i : Int32} (hq : q < 21) (hi : vp_in i (g_lens.getD q 0)) (hd : decode cc pc = .ok (.baload, 1)) (K : G Θ y cc nL ret d tab Qv Qx B (pc + 1) lv (.int ((g_byts.getD q []).getD i.toNatClampNeg 0) :: st) ω n) : G Θ y cc nL ret d tab Qv Qx B pc lv (.int i :: .ref (gV Θ q) :: st) ω n :=
  G.pureC (fun _ _ _ _ _ _ _ _ _ _ _ _ _ _ _ hC hS hH hlv kk => va_tb hC.1 hC.2.1 (hC.sf.2.2.2.1.1 q hq).2.2.2 hS hi rfl hd (kk _ hlv)) K
theorem g_callVS {index na q d' nL' : Nat} {y' : MethodName} {cc' : ByteArray} {ret' : Option FieldType} {As st0 : List Value} {r : Option Value} (hq : q < 21) (L : g_Mv y.cls index "java/lang/String" y' cc' nL' ret' na) (hd : decode cc pc = .ok (.invokevirtual index, 3))
    (hm : Ok Θ d' 0 0 y' cc' nL' ret' (.ref (gK Θ q) :: As) ω n (some (.inl (r, ω, n)))) (hna : As.length = na) (hst : st0 = As.reverse ++ .ref (gK Θ q) :: st) (hcat : (st.map fun v => v.category).sum ≤ 8) (hdep : d' + 1 ≤ d)
    (K : G Θ y cc nL ret d [] Qv Qx B (pc + 3) lv (r.toList ++ st) ω n) : G Θ y cc nL ret d [] Qv Qx B pc lv st0 ω n := by
  intro p e R s m args below meth c H locs cells slots mc ms ls hC hS hl
  obtain ⟨q1, q2, q3, q4, q5, q6, q7⟩ := hS
  obtain ⟨l1, l2, l3, l4, l5, l6, l7⟩ := L
  have hts := hC.2.2.2.2.2.1
  have hfr := hC.2.2.2.2.2.2.2.2.1
  have hlo := hC.2.2.2.2.2.2.2.2.2.1
  have hg : GoodIn g_T (wsV y.cls index "java/lang/String" y' (.code y' cc' nL' ret' :: g_T)) := by
    intro w hw
    unfold wsV at hw
    rcases List.mem_append.mp hw with h | h
    · simp only [List.mem_cons, List.not_mem_nil, or_false] at h
      rcases h with rfl | rfl | rfl | rfl
      · exact ⟨l3, good_of_word (g_T_good _ l3)⟩
      · exact ⟨l4, good_of_word (g_T_good _ l4)⟩
      · exact ⟨l5, good_of_word (g_T_good _ l5)⟩
      · exact ⟨l6, good_of_word (g_T_good _ l6)⟩
    · exact g_T_self l7 w h
  refine g_run (vx_runV (As := As) (rest := st) ⟨hC.1, hC.2.1, hC.2.2.2.1, hC.2.2.2.2.1, hts⟩ (hm _ rfl) (cwV (C := "java/lang/String") na hts hg rfl rfl rfl l1 ⟨by show d' + 1 ≤ R.frames; omega, by show 8 + (nL' + 11) + 64 * d' ≤ R.locals; omega⟩) ⟨?_, vk_recv hC.sf.2.2.2.1 hq q7, fun U hU hW => ⟨rfl, g_SF.at hC.sf q7 hU hW, by rw [hU]; exact q5, by rw [hU]; exact q6⟩⟩ rfl hna hl.1 hst (lv_room hcat) hd ⟨by omega, by omega⟩) q7 ?_ ?_
  · intro a U g mk hp
    exact ⟨hp.1, hp.2.calling g mk a⟩
  · intro E ce q9 ω' n' H1 locs1 hq9 hH hz hS1 hce hcv hcl
    cases hq9
  · intro v ω' n' H1 locs1 hq9 hH hz hS1
    cases hq9
    exact K p e R s m args below meth c H1 locs1 (cells + 0) (slots + 0) mc ms ls hC ⟨q1, q2, q3, q4, hH, hz, hS1⟩ hl
end GS
section GSO
variable {Θ : GP} {ω : OW} {n : Nat}
theorem okS_coder {q : Nat} (hq : q < 21) : Ok Θ 1 0 0 yJ0_coder_7d493 cJ0_coder_7d493 1 (some .byte) [.ref (gK Θ q)] ω n (some (.inl (some (.int 0), ω, n))) := by
  refine Ok.of (by decide +kernel) (Nat.le_of_ble_eq_true rfl) (fun r h => ?_)
  cases h
  show GR Θ yJ0_coder_7d493 cJ0_coder_7d493 1 (some .byte) 1 (0, 0) 0 [(0, .ref (gK Θ q))] [] ω n _
  refine g_gsC wd_1597 dJ0_coder_7d493_0 ?_
  refine g_if_eq (tgt := 13) dJ0_coder_7d493_3 (by decide) (fun c => absurd c (by decide)) (fun _ => ?_)
  refine g_aload_n dJ0_coder_7d493_6 rfl 0 rfl ?_
  refine g_strK hq wd_2141 dJ0_coder_7d493_7 ?_
  refine g_goto (tgt := 14) dJ0_coder_7d493_10 (by decide) ?_
  exact g_zret rfl rfl dJ0_coder_7d493_14 rfl
theorem okS_isLatin1 {q : Nat} (hq : q < 21) : Ok Θ 1 0 0 yJ0_isLatin1_aae02 cJ0_isLatin1_aae02 1 (some .boolean) [.ref (gK Θ q)] ω n (some (.inl (some (.int 1), ω, n))) := by
  refine Ok.of (by decide +kernel) (Nat.le_of_ble_eq_true rfl) (fun r h => ?_)
  cases h
  show GR Θ yJ0_isLatin1_aae02 cJ0_isLatin1_aae02 1 (some .boolean) 1 (0, 0) 0 [(0, .ref (gK Θ q))] [] ω n _
  refine g_gsC wd_1597 dJ0_isLatin1_aae02_0 ?_
  refine g_if_eq (tgt := 17) dJ0_isLatin1_aae02_3 (by decide) (fun c => absurd c (by decide)) (fun _ => ?_)
  refine g_aload_n dJ0_isLatin1_aae02_6 rfl 0 rfl ?_
  refine g_strK hq wd_2141 dJ0_isLatin1_aae02_7 ?_
  refine g_if_ne (tgt := 17) dJ0_isLatin1_aae02_10 (by decide) (fun c => absurd rfl c) (fun _ => ?_)
  refine g_iconst (v := 1) dJ0_isLatin1_aae02_13 (by decide) ?_
  refine g_goto (tgt := 18) dJ0_isLatin1_aae02_14 (by decide) ?_
  exact g_zret rfl rfl dJ0_isLatin1_aae02_18 rfl
def lenF (q : Nat) : Int32 := Int32.ofNat (g_lens.getD q 0) >>> ((0 : Int32) &&& 31)
theorem okS_length {q : Nat} (hq : q < 21) : Ok Θ 2 0 0 yJ0_length_8abf5 cJ0_length_8abf5 1 (some .int) [.ref (gK Θ q)] ω n (some (.inl (some (.int (lenF q)), ω, n))) := by
  refine Ok.of (by decide +kernel) (Nat.le_of_ble_eq_true rfl) (fun r h => ?_)
  cases h
  show GR Θ yJ0_length_8abf5 cJ0_length_8abf5 1 (some .int) 2 (0, 0) 0 [(0, .ref (gK Θ q))] [] ω n _
  refine g_aload_n dJ0_length_8abf5_0 rfl 0 rfl ?_
  refine g_strV hq wd_2140 dJ0_length_8abf5_1 ?_
  refine g_strL hq dJ0_length_8abf5_4 ?_
  refine g_aload_n dJ0_length_8abf5_5 rfl 0 rfl ?_
  refine g_callVS (As := []) hq mv_J0_335 dJ0_length_8abf5_6 (okS_coder hq) rfl rfl (Nat.le_of_ble_eq_true rfl) (by decide) ?_
  refine g_ishr dJ0_length_8abf5_9 ?_
  exact g_iret rfl dJ0_length_8abf5_10 rfl
theorem okS_check3 {i L : Int32} {v : Value} (hv : v = .null ∨ ∃ t, v = .ref t) (h0 : ¬ i < 0) (h1 : i < L) : Ok Θ 1 0 0 yJ3_checkIndex_8e157 cJ3_checkIndex_8e157 3 (some .int) [.int i, .int L, v] ω n (some (.inl (some (.int i), ω, n))) := by
  have key : ∀ lvx : List (Nat × Value), (lvx = [(0, .int i), (1, .int L), (2, v)]) → ∀ r : Out, r = .inl (some (.int i), ω, n) → GR Θ yJ3_checkIndex_8e157 cJ3_checkIndex_8e157 3 (some .int) 1 (0, 0) 0 lvx [] ω n r := by
    rintro lvx rfl r rfl
    refine g_iload_n dJ3_checkIndex_8e157_0 rfl 0 rfl ?_
    refine g_if_lt (tgt := 9) dJ3_checkIndex_8e157_1 (by decide) (fun c => absurd c h0) (fun _ => ?_)
    refine g_iload_n dJ3_checkIndex_8e157_4 rfl 0 rfl ?_
    refine g_iload_n dJ3_checkIndex_8e157_5 rfl 1 rfl ?_
    refine g_icmp_lt (tgt := 16) dJ3_checkIndex_8e157_6 (by decide) (fun _ => ?_) (fun c => absurd h1 c)
    refine g_iload_n dJ3_checkIndex_8e157_16 rfl 0 rfl ?_
    exact g_iret rfl dJ3_checkIndex_8e157_17 rfl
  rcases hv with rfl | ⟨t, rfl⟩
  · refine Ok.of (by decide +kernel) (Nat.le_of_ble_eq_true rfl) (fun r h => ?_)
    cases h
    exact key _ rfl _ rfl
  · refine Ok.of (by decide +kernel) (Nat.le_of_ble_eq_true rfl) (fun r h => ?_)
    cases h
    exact key _ rfl _ rfl
theorem okS_check2 {i L : Int32} (h0 : ¬ i < 0) (h1 : i < L) : Ok Θ 2 0 0 yJ0_checkIndex_df160 cJ0_checkIndex_df160 2 none [.int i, .int L] ω n (some (.inl (none, ω, n))) := by
  refine Ok.of (by decide +kernel) (Nat.le_of_ble_eq_true rfl) (fun r h => ?_)
  cases h
  show GR Θ yJ0_checkIndex_df160 cJ0_checkIndex_df160 2 none 2 (0, 0) 0 [(0, .int i), (1, .int L)] [] ω n _
  refine g_iload_n dJ0_checkIndex_df160_0 rfl 0 rfl ?_
  refine g_iload_n dJ0_checkIndex_df160_1 rfl 1 rfl ?_
  refine g_gsP wd_1613 dJ0_checkIndex_df160_2 (fun v hv => ?_)
  refine g_callS (As := [.int i, .int L, v]) ms_J0_1059 dJ0_checkIndex_df160_5 rfl rfl (Nat.le_of_ble_eq_true rfl) (okS_check3 hv h0 h1 _ rfl) (by decide) (by decide) (by decide) rfl (fun E ω' n' h => by cases h) ?_
  intro w ω' n' hw
  cases hw
  refine G.less (B' := (0, 0)) (by decide) (by decide) ?_
  refine g_pop dJ0_checkIndex_df160_8 rfl ?_
  exact g_vret rfl dJ0_checkIndex_df160_9 rfl
def chF (q j : Nat) : Int32 := (((g_byts.getD q []).getD j 0 &&& 255).toUInt32 % 65536).toInt32
theorem chF_ok : ∀ q, q < 21 → ∀ j, j < 8 → narrow .char (.int (chF q j)) = .int (chF q j) := by decide +kernel
theorem lens_le : ∀ q, q < 21 → g_lens.getD q 0 < 8 := by decide
theorem str_lt {q : Nat} {i : Int32} (hq : q < 21) (hi : vp_in i (g_lens.getD q 0)) : ¬ i < 0 ∧ i < Int32.ofNat (g_lens.getD q 0) ∧ i.toNatClampNeg < 8 := by
  have h8 := lens_le q hq
  have h0 : ¬ i < 0 := fun z => hi (Or.inl z)
  have h1 : i.toNatClampNeg < g_lens.getD q 0 := Nat.not_le.mp fun z => hi (Or.inr z)
  obtain ⟨j, hj, rfl⟩ := nI_of h0
  rw [nI_clamp hj] at h1
  refine ⟨h0, nI_lt h1 (by omega), ?_⟩
  rw [nI_clamp hj]
  omega
theorem okS_charL {q : Nat} {i : Int32} (hq : q < 21) (hi : vp_in i (g_lens.getD q 0)) : Ok Θ 3 0 0 yJ1_charAt_3b067 cJ1_charAt_3b067 2 (some .char) [.ref (gV Θ q), .int i] ω n (some (.inl (some (.int (chF q i.toNatClampNeg)), ω, n))) := by
  obtain ⟨h0, h1, h8⟩ := str_lt hq hi
  refine Ok.of (by decide +kernel) (Nat.le_of_ble_eq_true rfl) (fun r h => ?_)
  cases h
  show GR Θ yJ1_charAt_3b067 cJ1_charAt_3b067 2 (some .char) 3 (0, 0) 0 [(0, .ref (gV Θ q)), (1, .int i)] [] ω n _
  refine g_iload_n dJ1_charAt_3b067_0 rfl 1 rfl ?_
  refine g_aload_n dJ1_charAt_3b067_1 rfl 0 rfl ?_
  refine g_strL hq dJ1_charAt_3b067_2 ?_
  refine g_callS (As := [.int i, .int (Int32.ofNat (g_lens.getD q 0))]) ms_J1_9 dJ1_charAt_3b067_3 rfl rfl (Nat.le_of_ble_eq_true rfl) (okS_check2 h0 h1 _ rfl) (by decide) (by decide) (by decide) rfl (fun E ω' n' h => by cases h) ?_
  intro w ω' n' hw
  cases hw
  refine G.less (B' := (0, 0)) (by decide) (by decide) ?_
  refine g_aload_n dJ1_charAt_3b067_6 rfl 0 rfl ?_
  refine g_iload_n dJ1_charAt_3b067_7 rfl 1 rfl ?_
  refine g_strB hq hi dJ1_charAt_3b067_8 ?_
  refine g_sipush (v := 255) dJ1_charAt_3b067_9 (by decide) ?_
  refine g_iand dJ1_charAt_3b067_12 ?_
  refine g_i2c dJ1_charAt_3b067_13 ?_
  exact g_zret rfl (chF_ok q hq _ h8) dJ1_charAt_3b067_14 rfl
theorem okS_charAt {q : Nat} {i : Int32} (hq : q < 21) (hi : vp_in i (g_lens.getD q 0)) : Ok Θ 4 0 0 yJ0_charAt_5068e cJ0_charAt_5068e 2 (some .char) [.ref (gK Θ q), .int i] ω n (some (.inl (some (.int (chF q i.toNatClampNeg)), ω, n))) := by
  obtain ⟨h0, h1, h8⟩ := str_lt hq hi
  refine Ok.of (by decide +kernel) (Nat.le_of_ble_eq_true rfl) (fun r h => ?_)
  cases h
  show GR Θ yJ0_charAt_5068e cJ0_charAt_5068e 2 (some .char) 4 (0, 0) 0 [(0, .ref (gK Θ q)), (1, .int i)] [] ω n _
  refine g_aload_n dJ0_charAt_5068e_0 rfl 0 rfl ?_
  refine g_callVS (As := []) hq mv_J0_492 dJ0_charAt_5068e_1 (okS_isLatin1 hq) rfl rfl (Nat.le_of_ble_eq_true rfl) (by decide) ?_
  refine g_if_eq (tgt := 16) dJ0_charAt_5068e_4 (by decide) (fun c => absurd c (by decide)) (fun _ => ?_)
  refine g_aload_n dJ0_charAt_5068e_7 rfl 0 rfl ?_
  refine g_strV hq wd_2140 dJ0_charAt_5068e_8 ?_
  refine g_iload_n dJ0_charAt_5068e_11 rfl 1 rfl ?_
  refine g_callS (As := [.ref (gV Θ q), .int i]) ms_J0_495 dJ0_charAt_5068e_12 rfl rfl (Nat.le_of_ble_eq_true rfl) (okS_charL hq hi _ rfl) (by decide) (by decide) (by decide) rfl (fun E ω' n' h => by cases h) ?_
  intro w ω' n' hw
  cases hw
  refine G.less (B' := (0, 0)) (by decide) (by decide) ?_
  exact g_zret rfl (chF_ok q hq _ h8) dJ0_charAt_5068e_15 rfl
end GSO
def sL (q : Nat) (k : Int32 → RO) : RO := if q < 21 then k (lenF q) else none
def sC (q : Nat) (i : Int32) (k : Int32 → RO) : RO := if q < 21 ∧ ¬ (i < 0 ∨ g_lens.getD q 0 ≤ i.toNatClampNeg) then k (chF q i.toNatClampNeg) else none
section GST
variable {Θ : GP} {y : MethodName} {cc : ByteArray} {nL : Nat} {ret : Option FieldType} {d : Nat} {B : Nat × Nat} {pc : Nat} {lv : List (Nat × Value)} {st : List Value} {ω : OW} {n : Nat} {r : Out}
theorem g_sLn {index q : Nat} {k : Int32 → RO} (L : g_Mv y.cls index "java/lang/String" yJ0_length_8abf5 cJ0_length_8abf5 1 (some .int) 0) (hd : decode cc pc = .ok (.invokevirtual index, 3)) (hdep : 3 ≤ d) (hcat : (st.map fun v => v.category).sum ≤ 8) (h : sL q k = some r)
    (K : ∀ x, k x = some r → GR Θ y cc nL ret d B (pc + 3) lv (.int x :: st) ω n r) : GR Θ y cc nL ret d B pc lv (.ref (gK Θ q) :: st) ω n r := by
  unfold sL at h
  split at h
  · rename_i hq
    exact g_callVS (As := []) hq L hd (okS_length hq) rfl rfl hcat (by omega) (K _ h)
  · cases h
theorem g_sCh {index q : Nat} {i : Int32} {k : Int32 → RO} (L : g_Mv y.cls index "java/lang/String" yJ0_charAt_5068e cJ0_charAt_5068e 2 (some .char) 1) (hd : decode cc pc = .ok (.invokevirtual index, 3)) (hdep : 5 ≤ d) (hcat : (st.map fun v => v.category).sum ≤ 8) (h : sC q i k = some r)
    (K : ∀ x, k x = some r → GR Θ y cc nL ret d B (pc + 3) lv (.int x :: st) ω n r) : GR Θ y cc nL ret d B pc lv (.int i :: .ref (gK Θ q) :: st) ω n r := by
  unfold sC at h
  split at h
  · rename_i hq
    exact g_callVS (As := [.int i]) hq.1 L hd (okS_charAt hq.1 hq.2) rfl rfl hcat (by omega) (K _ h)
  · cases h
end GST
