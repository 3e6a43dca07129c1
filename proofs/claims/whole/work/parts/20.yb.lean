def F_X10_feed (Θ : GP) (l0 : Nat) (l1 : Int32) (l2 : Int32) (l3 : Int32) (l4 : Int32) (l5 : Int32) (ω : OW) (n : Nat) : RO := rA ω l0 10 5 (fun a1 => cO ω a1 8 (kI (F_X8_hasRoom Θ a1 20 ω n) (fun x2 ω n => if x2 = 0 then (some (.inl (some (.int (-1)), ω, n))) else (rA ω l0 10 5 (fun a4 => cO ω a4 8 (kV (F_X8_put Θ a4 l1 ω n) (fun ω n => rA ω l0 10 5 (fun a6 => cO ω a6 8 (kV (F_X8_put Θ a6 l2 ω n) (fun ω n => rA ω l0 10 5 (fun a8 => cO ω a8 8 (kV (F_X8_put Θ a8 l3 ω n) (fun ω n => rA ω l0 10 5 (fun a10 => cO ω a10 8 (kV (F_X8_put Θ a10 l4 ω n) (fun ω n => rA ω l0 10 5 (fun a12 => cO ω a12 8 (kV (F_X8_put Θ a12 l5 ω n) (fun ω n => rA ω l0 10 5 (fun a14 => rI ω a14 8 0 (fun x15 => some (.inl (some (.int x15), ω, n)))))))))))))))))))))))
theorem ok_X10_feed (Θ : GP) (l0 : Nat) (l1 : Int32) (l2 : Int32) (l3 : Int32) (l4 : Int32) (l5 : Int32) (ω : OW) (n : Nat) : Ok Θ 3 0 0 yX10_feed cX10_feed 6 (some .int) [.ref l0, .int l1, .int l2, .int l3, .int l4, .int l5] ω n (F_X10_feed Θ l0 l1 l2 l3 l4 l5 ω n) := by
  refine Ok.of (by decide +kernel) (Nat.le_of_ble_eq_true rfl) (fun r h => ?_)
  unfold F_X10_feed at h
  show GR Θ yX10_feed cX10_feed 6 (some .int) 3 (0, 0) 0 [(0, .ref l0), (1, .int l1), (2, .int l2), (3, .int l3), (4, .int l4), (5, .int l5)] [] ω n r
  refine g_aload_n dX10_feed_0 rfl 0 rfl ?_
  refine g_rA fl_X10_16 dX10_feed_1 h (fun a1 h => ?_)
  refine g_bipush (v := 20) dX10_feed_4 (by decide) ?_
  refine g_cI (ci := 8) (As := [.int 20]) mv_X10_104 dX10_feed_6 rfl (ok_X8_hasRoom Θ a1 20 _ _) rfl rfl (Nat.le_of_ble_eq_true rfl) (by decide) (by decide) (by decide) h (fun x2 ω n h => ?_)
  refine G.less (B' := (0, 0)) (by decide) (by decide) ?_
  refine g_if_ne (tgt := 14) dX10_feed_9 (by decide) (fun c3 => ?_) (fun c3 => ?_)
  · rw [if_neg c3] at h
    refine g_aload_n dX10_feed_14 rfl 0 rfl ?_
    refine g_rA fl_X10_16 dX10_feed_15 h (fun a4 h => ?_)
    refine g_iload_n dX10_feed_18 rfl 1 rfl ?_
    refine g_cV (ci := 8) (As := [.int l1]) mv_X10_108 dX10_feed_19 rfl (ok_X8_put Θ a4 l1 _ _) rfl rfl (Nat.le_of_ble_eq_true rfl) (by decide) (by decide) (by decide) h (fun ω n h => ?_)
    refine G.less (B' := (0, 0)) (by decide) (by decide) ?_
    refine g_aload_n dX10_feed_22 rfl 0 rfl ?_
    refine g_rA fl_X10_16 dX10_feed_23 h (fun a6 h => ?_)
    refine g_iload_n dX10_feed_26 rfl 2 rfl ?_
    refine g_cV (ci := 8) (As := [.int l2]) mv_X10_108 dX10_feed_27 rfl (ok_X8_put Θ a6 l2 _ _) rfl rfl (Nat.le_of_ble_eq_true rfl) (by decide) (by decide) (by decide) h (fun ω n h => ?_)
    refine G.less (B' := (0, 0)) (by decide) (by decide) ?_
    refine g_aload_n dX10_feed_30 rfl 0 rfl ?_
    refine g_rA fl_X10_16 dX10_feed_31 h (fun a8 h => ?_)
    refine g_iload_n dX10_feed_34 rfl 3 rfl ?_
    refine g_cV (ci := 8) (As := [.int l3]) mv_X10_108 dX10_feed_35 rfl (ok_X8_put Θ a8 l3 _ _) rfl rfl (Nat.le_of_ble_eq_true rfl) (by decide) (by decide) (by decide) h (fun ω n h => ?_)
    refine G.less (B' := (0, 0)) (by decide) (by decide) ?_
    refine g_aload_n dX10_feed_38 rfl 0 rfl ?_
    refine g_rA fl_X10_16 dX10_feed_39 h (fun a10 h => ?_)
    refine g_iload dX10_feed_42 4 rfl ?_
    refine g_cV (ci := 8) (As := [.int l4]) mv_X10_108 dX10_feed_44 rfl (ok_X8_put Θ a10 l4 _ _) rfl rfl (Nat.le_of_ble_eq_true rfl) (by decide) (by decide) (by decide) h (fun ω n h => ?_)
    refine G.less (B' := (0, 0)) (by decide) (by decide) ?_
    refine g_aload_n dX10_feed_47 rfl 0 rfl ?_
    refine g_rA fl_X10_16 dX10_feed_48 h (fun a12 h => ?_)
    refine g_iload dX10_feed_51 5 rfl ?_
    refine g_cV (ci := 8) (As := [.int l5]) mv_X10_108 dX10_feed_53 rfl (ok_X8_put Θ a12 l5 _ _) rfl rfl (Nat.le_of_ble_eq_true rfl) (by decide) (by decide) (by decide) h (fun ω n h => ?_)
    refine G.less (B' := (0, 0)) (by decide) (by decide) ?_
    refine g_aload_n dX10_feed_56 rfl 0 rfl ?_
    refine g_rA fl_X10_16 dX10_feed_57 h (fun a14 h => ?_)
    refine g_rI fl_X10_112 dX10_feed_60 h (fun x15 h => ?_)
    cases h
    exact g_iret rfl dX10_feed_63 rfl
  · rw [if_pos c3] at h
    refine g_iconst (v := (-1)) dX10_feed_12 (by decide) ?_
    cases h
    exact g_iret rfl dX10_feed_13 rfl
def J_X10_end_15 (Θ : GP) (ω : OW) (n : Nat) : RO := some (.inl (some (.int 0), ω, n))
def F_X10_end (Θ : GP) (l0 : Nat) (l1 : Int32) (ω : OW) (n : Nat) : RO := if l1 < 0 then (J_X10_end_15 Θ ω n) else (rA ω l0 10 5 (fun a2 => rI ω a2 8 0 (fun x3 => if l1 ≤ x3 then (rA ω l0 10 5 (fun a5 => wF ω a5 8 0 (.int l1) (fun ω => some (.inl (some (.int 1), ω, n))))) else (J_X10_end_15 Θ ω n))))
theorem ok_J_X10_end_15 (Θ : GP) (ω : OW) (n : Nat) (r : Out) (h : J_X10_end_15 Θ ω n = some r) : GR Θ yX10_end cX10_end 2 (some .boolean) 1 (0, 0) 15 [] [] ω n r := by
  unfold J_X10_end_15 at h
  refine g_iconst (v := 0) dX10_end_15 (by decide) ?_
  cases h
  exact g_zret rfl rfl dX10_end_16 rfl
theorem ok_X10_end (Θ : GP) (l0 : Nat) (l1 : Int32) (ω : OW) (n : Nat) : Ok Θ 1 0 0 yX10_end cX10_end 2 (some .boolean) [.ref l0, .int l1] ω n (F_X10_end Θ l0 l1 ω n) := by
  refine Ok.of (by decide +kernel) (Nat.le_of_ble_eq_true rfl) (fun r h => ?_)
  unfold F_X10_end at h
  show GR Θ yX10_end cX10_end 2 (some .boolean) 1 (0, 0) 0 [(0, .ref l0), (1, .int l1)] [] ω n r
  refine g_iload_n dX10_end_0 rfl 1 rfl ?_
  refine g_if_lt (tgt := 15) dX10_end_1 (by decide) (fun c1 => ?_) (fun c1 => ?_)
  · rw [if_pos c1] at h
    refine G.lsub [] rfl ?_
    exact ok_J_X10_end_15 Θ _ _ r h
  · rw [if_neg c1] at h
    refine g_iload_n dX10_end_4 rfl 1 rfl ?_
    refine g_aload_n dX10_end_5 rfl 0 rfl ?_
    refine g_rA fl_X10_16 dX10_end_6 h (fun a2 h => ?_)
    refine g_rI fl_X10_112 dX10_end_9 h (fun x3 h => ?_)
    refine g_icmp_le (tgt := 17) dX10_end_12 (by decide) (fun c4 => ?_) (fun c4 => ?_)
    · rw [if_pos c4] at h
      refine g_aload_n dX10_end_17 rfl 0 rfl ?_
      refine g_rA fl_X10_16 dX10_end_18 h (fun a5 h => ?_)
      refine g_iload_n dX10_end_21 rfl 1 rfl ?_
      refine g_wF fl_X10_112 dX10_end_22 (rfl) rfl h (fun ω h => ?_)
      refine g_iconst (v := 1) dX10_end_25 (by decide) ?_
      cases h
      exact g_zret rfl rfl dX10_end_26 rfl
    · rw [if_neg c4] at h
      refine G.lsub [] rfl ?_
      exact ok_J_X10_end_15 Θ _ _ r h
def J_X10_court_35 (Θ : GP) (l0 : Nat) (l1 : Int32) (s0 : Int32) (s1 : Nat) (ω : OW) (n : Nat) : RO := wF ω s1 10 14 (.int s0) (fun ω => rA ω l0 10 5 (fun a1 => wF ω a1 8 0 (.int 0) (fun ω => if l1 = 0 then (some (.inr ("java/lang/IllegalArgumentException", ω))) else (rA ω l0 10 0 (fun a3 => rI ω a3 0 2 (fun x4 => if x4 < 12 then (rA ω l0 10 0 (fun a6 => rA ω l0 10 1 (fun a7 => cO ω a6 0 (kV (F_X0_become Θ a6 a7 ω n) (fun ω n => rA ω l0 10 0 (fun a9 => rI ω a9 0 2 (fun x10 => wF ω a9 0 2 (.int (x10 + 1)) (fun ω => rA ω l0 10 4 (fun a11 => cO ω a11 5 (kV (F_X5_forget Θ a11 ω n) (fun ω n => rA ω l0 10 0 (fun a13 => rI ω a13 0 2 (fun x14 => some (.inl (some (.int x14), ω, n))))))))))))))) else (some (.inr ("java/lang/UnsupportedOperationException", ω)))))))))
def F_X10_court (Θ : GP) (l0 : Nat) (ω : OW) (n : Nat) : RO := rA ω l0 10 1 (fun a15 => rA ω l0 10 0 (fun a16 => cO ω a15 0 (kV (F_X0_become Θ a15 a16 ω n) (fun ω n => rA ω l0 10 6 (fun a18 => cO ω a18 1 (kI (F_X1_read Θ a18 ω n) (fun x19 ω n => if x19 = 0 then (rA ω l0 10 5 (fun a21 => rI ω a21 8 1 (fun x22 => J_X10_court_35 Θ l0 x19 x22 l0 ω n))) else (J_X10_court_35 Θ l0 x19 (-1) l0 ω n))))))))
theorem ok_J_X10_court_35 (Θ : GP) (l0 : Nat) (l1 : Int32) (s0 : Int32) (s1 : Nat) (ω : OW) (n : Nat) (r : Out) (h : J_X10_court_35 Θ l0 l1 s0 s1 ω n = some r) : GR Θ yX10_court cX10_court 2 (some .int) 6 (1, 6) 35 [(0, .ref l0), (1, .int l1)] [.int s0, .ref s1] ω n r := by
  unfold J_X10_court_35 at h
  refine g_wF fl_X10_34 dX10_court_35 (rfl) rfl h (fun ω h => ?_)
  refine g_aload_n dX10_court_38 rfl 0 rfl ?_
  refine g_rA fl_X10_16 dX10_court_39 h (fun a1 h => ?_)
  refine g_iconst (v := 0) dX10_court_42 (by decide) ?_
  refine g_wF fl_X10_112 dX10_court_43 (rfl) rfl h (fun ω h => ?_)
  refine g_iload_n dX10_court_46 rfl 1 rfl ?_
  refine g_if_ne (tgt := 60) dX10_court_47 (by decide) (fun c2 => ?_) (fun c2 => ?_)
  · rw [if_neg c2] at h
    refine g_aload_n dX10_court_60 rfl 0 rfl ?_
    refine g_rA fl_X10_48 dX10_court_61 h (fun a3 h => ?_)
    refine g_rI fl_X10_132 dX10_court_64 h (fun x4 h => ?_)
    refine g_bipush (v := 12) dX10_court_67 (by decide) ?_
    refine g_icmp_lt (tgt := 82) dX10_court_69 (by decide) (fun c5 => ?_) (fun c5 => ?_)
    · rw [if_pos c5] at h
      refine g_aload_n dX10_court_82 rfl 0 rfl ?_
      refine g_rA fl_X10_48 dX10_court_83 h (fun a6 h => ?_)
      refine g_aload_n dX10_court_86 rfl 0 rfl ?_
      refine g_rA fl_X10_52 dX10_court_87 h (fun a7 h => ?_)
      refine g_cV (ci := 0) (As := [.ref a7]) mv_X10_115 dX10_court_90 rfl (ok_X0_become Θ a6 a7 _ _) rfl rfl (Nat.le_of_ble_eq_true rfl) (by decide) (by decide) (by decide) h (fun ω n h => ?_)
      refine G.less (B' := (1, 6)) (by decide) (by decide) ?_
      refine g_aload_n dX10_court_93 rfl 0 rfl ?_
      refine g_rA fl_X10_48 dX10_court_94 h (fun a9 h => ?_)
      refine g_dup dX10_court_97 rfl ?_
      refine g_rI fl_X10_132 dX10_court_98 h (fun x10 h => ?_)
      refine g_iconst (v := 1) dX10_court_101 (by decide) ?_
      refine g_iadd dX10_court_102 ?_
      refine g_wF fl_X10_132 dX10_court_103 (rfl) rfl h (fun ω h => ?_)
      refine g_aload_n dX10_court_106 rfl 0 rfl ?_
      refine g_rA fl_X10_61 dX10_court_107 h (fun a11 h => ?_)
      refine g_cV (ci := 5) (As := []) mv_X10_140 dX10_court_110 rfl (ok_X5_forget Θ a11 _ _) rfl rfl (Nat.le_of_ble_eq_true rfl) (by decide) (by decide) (by decide) h (fun ω n h => ?_)
      refine G.less (B' := (1, 6)) (by decide) (by decide) ?_
      refine g_aload_n dX10_court_113 rfl 0 rfl ?_
      refine g_rA fl_X10_48 dX10_court_114 h (fun a13 h => ?_)
      refine g_rI fl_X10_132 dX10_court_117 h (fun x14 h => ?_)
      cases h
      exact g_iret rfl dX10_court_120 rfl
    · rw [if_neg c5] at h
      cases h
      exact g_throw (q := 22) th_X10_135_139 rfl dX10_court_72 dX10_court_75 dX10_court_76 dX10_court_78 dX10_court_81 rfl (by decide) (by decide) (by decide) (Nat.le_of_ble_eq_true rfl) (fun _ _ => rfl)
  · rw [if_pos c2] at h
    cases h
    exact g_throw (q := 21) th_X10_125_129 rfl dX10_court_50 dX10_court_53 dX10_court_54 dX10_court_56 dX10_court_59 rfl (by decide) (by decide) (by decide) (Nat.le_of_ble_eq_true rfl) (fun _ _ => rfl)
theorem ok_X10_court (Θ : GP) (l0 : Nat) (ω : OW) (n : Nat) : Ok Θ 6 1 6 yX10_court cX10_court 2 (some .int) [.ref l0] ω n (F_X10_court Θ l0 ω n) := by
  refine Ok.of (by decide +kernel) (Nat.le_of_ble_eq_true rfl) (fun r h => ?_)
  unfold F_X10_court at h
  show GR Θ yX10_court cX10_court 2 (some .int) 6 (1, 6) 0 [(0, .ref l0)] [] ω n r
  refine g_aload_n dX10_court_0 rfl 0 rfl ?_
  refine g_rA fl_X10_52 dX10_court_1 h (fun a15 h => ?_)
  refine g_aload_n dX10_court_4 rfl 0 rfl ?_
  refine g_rA fl_X10_48 dX10_court_5 h (fun a16 h => ?_)
  refine g_cV (ci := 0) (As := [.ref a16]) mv_X10_115 dX10_court_8 rfl (ok_X0_become Θ a15 a16 _ _) rfl rfl (Nat.le_of_ble_eq_true rfl) (by decide) (by decide) (by decide) h (fun ω n h => ?_)
  refine G.less (B' := (1, 6)) (by decide) (by decide) ?_
  refine g_aload_n dX10_court_11 rfl 0 rfl ?_
  refine g_rA fl_X10_70 dX10_court_12 h (fun a18 h => ?_)
  refine g_cI (ci := 1) (As := []) mv_X10_118 dX10_court_15 rfl (ok_X1_read Θ a18 _ _) rfl rfl (Nat.le_of_ble_eq_true rfl) (by decide) (by decide) (by decide) h (fun x19 ω n h => ?_)
  refine G.less (B' := (1, 6)) (by decide) (by decide) ?_
  refine g_istore_n (lv' := [(1, .int x19), (0, .ref l0)]) dX10_court_18 rfl (by decide) rfl ?_
  refine g_aload_n dX10_court_19 rfl 1 rfl ?_
  refine g_iload_n dX10_court_20 rfl 0 rfl ?_
  refine g_if_eq (tgt := 28) dX10_court_21 (by decide) (fun c20 => ?_) (fun c20 => ?_)
  · rw [if_pos c20] at h
    refine g_aload_n dX10_court_28 rfl 1 rfl ?_
    refine g_rA fl_X10_16 dX10_court_29 h (fun a21 h => ?_)
    refine g_rI fl_X10_122 dX10_court_32 h (fun x22 h => ?_)
    refine G.lsub [1, 0] rfl ?_
    exact ok_J_X10_court_35 Θ l0 x19 x22 l0 _ _ r h
  · rw [if_neg c20] at h
    refine g_iconst (v := (-1)) dX10_court_24 (by decide) ?_
    refine g_goto (tgt := 35) dX10_court_25 (by decide) ?_
    refine G.lsub [1, 0] rfl ?_
    exact ok_J_X10_court_35 Θ l0 x19 (-1) l0 _ _ r h
def F_X10_fault (Θ : GP) (l0 : Nat) (ω : OW) (n : Nat) : RO := rI ω l0 10 14 (fun x1 => some (.inl (some (.int x1), ω, n)))
theorem ok_X10_fault (Θ : GP) (l0 : Nat) (ω : OW) (n : Nat) : Ok Θ 1 0 0 yX10_fault cX10_fault 1 (some .int) [.ref l0] ω n (F_X10_fault Θ l0 ω n) := by
  refine Ok.of (by decide +kernel) (Nat.le_of_ble_eq_true rfl) (fun r h => ?_)
  unfold F_X10_fault at h
  show GR Θ yX10_fault cX10_fault 1 (some .int) 1 (0, 0) 0 [(0, .ref l0)] [] ω n r
  refine g_aload_n dX10_fault_0 rfl 0 rfl ?_
  refine g_rI fl_X10_34 dX10_fault_1 h (fun x1 h => ?_)
  cases h
  exact g_iret rfl dX10_fault_4 rfl
def J_X10_needProp_15 (Θ : GP) (ω : OW) (n : Nat) : RO := some (.inr ("java/lang/IndexOutOfBoundsException", ω))
def F_X10_needProp (Θ : GP) (l0 : Nat) (l1 : Int32) (ω : OW) (n : Nat) : RO := if l1 < 0 then (J_X10_needProp_15 Θ ω n) else (rA ω l0 10 0 (fun a2 => rI ω a2 0 0 (fun x3 => if l1 < x3 then (some (.inl (none, ω, n))) else (J_X10_needProp_15 Θ ω n))))
theorem ok_J_X10_needProp_15 (Θ : GP) (ω : OW) (n : Nat) (r : Out) (h : J_X10_needProp_15 Θ ω n = some r) : GR Θ yX10_needProp cX10_needProp 2 (none : Option Jvm.ClassFile.FieldType) 6 (1, 6) 15 [] [] ω n r := by
  unfold J_X10_needProp_15 at h
  cases h
  exact g_throwW (q := 34) th_X10_416_420 rfl dX10_needProp_15 dX10_needProp_18 dX10_needProp_19 dX10_needProp_22 dX10_needProp_25 rfl (by decide) (by decide) (by decide) (Nat.le_of_ble_eq_true rfl) (fun _ _ => rfl)
theorem ok_X10_needProp (Θ : GP) (l0 : Nat) (l1 : Int32) (ω : OW) (n : Nat) : Ok Θ 6 1 6 yX10_needProp cX10_needProp 2 (none : Option Jvm.ClassFile.FieldType) [.ref l0, .int l1] ω n (F_X10_needProp Θ l0 l1 ω n) := by
  refine Ok.of (by decide +kernel) (Nat.le_of_ble_eq_true rfl) (fun r h => ?_)
  unfold F_X10_needProp at h
  show GR Θ yX10_needProp cX10_needProp 2 (none : Option Jvm.ClassFile.FieldType) 6 (1, 6) 0 [(0, .ref l0), (1, .int l1)] [] ω n r
  refine g_iload_n dX10_needProp_0 rfl 1 rfl ?_
  refine g_if_lt (tgt := 15) dX10_needProp_1 (by decide) (fun c1 => ?_) (fun c1 => ?_)
  · rw [if_pos c1] at h
    refine G.lsub [] rfl ?_
    exact ok_J_X10_needProp_15 Θ _ _ r h
  · rw [if_neg c1] at h
    refine g_iload_n dX10_needProp_4 rfl 1 rfl ?_
    refine g_aload_n dX10_needProp_5 rfl 0 rfl ?_
    refine g_rA fl_X10_48 dX10_needProp_6 h (fun a2 h => ?_)
    refine g_rI fl_X10_294 dX10_needProp_9 h (fun x3 h => ?_)
    refine g_icmp_lt (tgt := 26) dX10_needProp_12 (by decide) (fun c4 => ?_) (fun c4 => ?_)
    · rw [if_pos c4] at h
      cases h
      exact g_vret rfl dX10_needProp_26 rfl
    · rw [if_neg c4] at h
      refine G.lsub [] rfl ?_
      exact ok_J_X10_needProp_15 Θ _ _ r h
def F_X10_prop (Θ : GP) (l0 : Nat) (l1 : Int32) (l2 : Int32) (ω : OW) (n : Nat) : RO := cO ω l0 10 (kV (F_X10_needProp Θ l0 l1 ω n) (fun ω n => if l2 = 0 then (rA ω l0 10 0 (fun a2 => rA ω a2 0 7 (fun a3 => lI ω (gI Θ) a3 l1 (fun x4 => some (.inl (some (.int x4), ω, n)))))) else (if l2 = 1 then (rA ω l0 10 0 (fun a5 => rA ω a5 0 8 (fun a6 => lI ω (gI Θ) a6 l1 (fun x7 => some (.inl (some (.int x7), ω, n)))))) else (if l2 = 2 then (rA ω l0 10 0 (fun a8 => rA ω a8 0 9 (fun a9 => lI ω (gI Θ) a9 l1 (fun x10 => some (.inl (some (.int x10), ω, n)))))) else (if l2 = 3 then (rA ω l0 10 0 (fun a11 => rA ω a11 0 10 (fun a12 => lI ω (gI Θ) a12 l1 (fun x13 => some (.inl (some (.int x13), ω, n)))))) else (some (.inr (nsN, ω))))))))
theorem ok_X10_prop (Θ : GP) (l0 : Nat) (l1 : Int32) (l2 : Int32) (ω : OW) (n : Nat) : Ok Θ 7 2 12 yX10_prop cX10_prop 3 (some .int) [.ref l0, .int l1, .int l2] ω n (F_X10_prop Θ l0 l1 l2 ω n) := by
  refine Ok.of (by decide +kernel) (Nat.le_of_ble_eq_true rfl) (fun r h => ?_)
  unfold F_X10_prop at h
  show GR Θ yX10_prop cX10_prop 3 (some .int) 7 (2, 12) 0 [(0, .ref l0), (1, .int l1), (2, .int l2)] [] ω n r
  refine g_aload_n dX10_prop_0 rfl 0 rfl ?_
  refine g_iload_n dX10_prop_1 rfl 1 rfl ?_
  refine g_cV (ci := 10) (As := [.int l1]) mv_X10_155 dX10_prop_2 rfl (ok_X10_needProp Θ l0 l1 _ _) rfl rfl (Nat.le_of_ble_eq_true rfl) (by decide) (by decide) (by decide) h (fun ω n h => ?_)
  refine G.less (B' := (1, 6)) (by decide) (by decide) ?_
  refine g_iload_n dX10_prop_5 rfl 2 rfl ?_
  by_cases c14_0 : l2 = 0
  · rw [if_pos c14_0] at h
    refine g_tableIn (off := 30) (tgt := 36) dX10_prop_6 (by rw [c14_0]; decide) (by rw [c14_0]; decide) (by rw [c14_0]; decide) (by decide) ?_
    refine g_aload_n dX10_prop_36 rfl 0 rfl ?_
    refine g_rA fl_X10_48 dX10_prop_37 h (fun a2 h => ?_)
    refine g_rA fl_X10_158 dX10_prop_40 h (fun a3 h => ?_)
    refine g_iload_n dX10_prop_43 rfl 1 rfl ?_
    refine g_lIi dX10_prop_44 h (fun x4 h => ?_)
    cases h
    exact g_iret rfl dX10_prop_45 rfl
  rw [if_neg c14_0] at h
  by_cases c14_1 : l2 = 1
  · rw [if_pos c14_1] at h
    refine g_tableIn (off := 40) (tgt := 46) dX10_prop_6 (by rw [c14_1]; decide) (by rw [c14_1]; decide) (by rw [c14_1]; decide) (by decide) ?_
    refine g_aload_n dX10_prop_46 rfl 0 rfl ?_
    refine g_rA fl_X10_48 dX10_prop_47 h (fun a5 h => ?_)
    refine g_rA fl_X10_161 dX10_prop_50 h (fun a6 h => ?_)
    refine g_iload_n dX10_prop_53 rfl 1 rfl ?_
    refine g_lIi dX10_prop_54 h (fun x7 h => ?_)
    cases h
    exact g_iret rfl dX10_prop_55 rfl
  rw [if_neg c14_1] at h
  by_cases c14_2 : l2 = 2
  · rw [if_pos c14_2] at h
    refine g_tableIn (off := 50) (tgt := 56) dX10_prop_6 (by rw [c14_2]; decide) (by rw [c14_2]; decide) (by rw [c14_2]; decide) (by decide) ?_
    refine g_aload_n dX10_prop_56 rfl 0 rfl ?_
    refine g_rA fl_X10_48 dX10_prop_57 h (fun a8 h => ?_)
    refine g_rA fl_X10_164 dX10_prop_60 h (fun a9 h => ?_)
    refine g_iload_n dX10_prop_63 rfl 1 rfl ?_
    refine g_lIi dX10_prop_64 h (fun x10 h => ?_)
    cases h
    exact g_iret rfl dX10_prop_65 rfl
  rw [if_neg c14_2] at h
  by_cases c14_3 : l2 = 3
  · rw [if_pos c14_3] at h
    refine g_tableIn (off := 60) (tgt := 66) dX10_prop_6 (by rw [c14_3]; decide) (by rw [c14_3]; decide) (by rw [c14_3]; decide) (by decide) ?_
    refine g_aload_n dX10_prop_66 rfl 0 rfl ?_
    refine g_rA fl_X10_48 dX10_prop_67 h (fun a11 h => ?_)
    refine g_rA fl_X10_167 dX10_prop_70 h (fun a12 h => ?_)
    refine g_iload_n dX10_prop_73 rfl 1 rfl ?_
    refine g_lIi dX10_prop_74 h (fun x13 h => ?_)
    cases h
    exact g_iret rfl dX10_prop_75 rfl
  rw [if_neg c14_3] at h
  have qc14_0 := ne_toInt c14_0 (z := 0) (by decide)
  have qc14_1 := ne_toInt c14_1 (z := 1) (by decide)
  have qc14_2 := ne_toInt c14_2 (z := 2) (by decide)
  have qc14_3 := ne_toInt c14_3 (z := 3) (by decide)
  refine g_tableOut (tgt := 76) dX10_prop_6 (by omega) (by decide) ?_
  cases h
  exact g_throwNS (q := 24) rfl rfl 2 dX10_prop_76 dX10_prop_79 (Or.inl ⟨dX10_prop_80, rfl⟩) dX10_prop_82 dX10_prop_85 rfl (by decide) (by decide) (by decide) (Nat.le_of_ble_eq_true rfl) (fun _ _ => rfl)
def J_X10_needSlot_10 (Θ : GP) (ω : OW) (n : Nat) : RO := some (.inr ("java/lang/IndexOutOfBoundsException", ω))
def F_X10_needSlot (Θ : GP) (l0 : Nat) (l1 : Int32) (ω : OW) (n : Nat) : RO := if l1 < 0 then (J_X10_needSlot_10 Θ ω n) else (if l1 < 10 then (some (.inl (none, ω, n))) else (J_X10_needSlot_10 Θ ω n))
theorem ok_J_X10_needSlot_10 (Θ : GP) (ω : OW) (n : Nat) (r : Out) (h : J_X10_needSlot_10 Θ ω n = some r) : GR Θ yX10_needSlot cX10_needSlot 2 (none : Option Jvm.ClassFile.FieldType) 6 (1, 6) 10 [] [] ω n r := by
  unfold J_X10_needSlot_10 at h
  cases h
  exact g_throwW (q := 35) th_X10_416_420 rfl dX10_needSlot_10 dX10_needSlot_13 dX10_needSlot_14 dX10_needSlot_17 dX10_needSlot_20 rfl (by decide) (by decide) (by decide) (Nat.le_of_ble_eq_true rfl) (fun _ _ => rfl)
theorem ok_X10_needSlot (Θ : GP) (l0 : Nat) (l1 : Int32) (ω : OW) (n : Nat) : Ok Θ 6 1 6 yX10_needSlot cX10_needSlot 2 (none : Option Jvm.ClassFile.FieldType) [.ref l0, .int l1] ω n (F_X10_needSlot Θ l0 l1 ω n) := by
  refine Ok.of (by decide +kernel) (Nat.le_of_ble_eq_true rfl) (fun r h => ?_)
  unfold F_X10_needSlot at h
  show GR Θ yX10_needSlot cX10_needSlot 2 (none : Option Jvm.ClassFile.FieldType) 6 (1, 6) 0 [(0, .ref l0), (1, .int l1)] [] ω n r
  refine g_iload_n dX10_needSlot_0 rfl 1 rfl ?_
  refine g_if_lt (tgt := 10) dX10_needSlot_1 (by decide) (fun c1 => ?_) (fun c1 => ?_)
  · rw [if_pos c1] at h
    refine G.lsub [] rfl ?_
    exact ok_J_X10_needSlot_10 Θ _ _ r h
  · rw [if_neg c1] at h
    refine g_iload_n dX10_needSlot_4 rfl 1 rfl ?_
    refine g_bipush (v := 10) dX10_needSlot_5 (by decide) ?_
    refine g_icmp_lt (tgt := 21) dX10_needSlot_7 (by decide) (fun c2 => ?_) (fun c2 => ?_)
    · rw [if_pos c2] at h
      cases h
      exact g_vret rfl dX10_needSlot_21 rfl
    · rw [if_neg c2] at h
      refine G.lsub [] rfl ?_
      exact ok_J_X10_needSlot_10 Θ _ _ r h
def F_X10_slot (Θ : GP) (l0 : Nat) (l1 : Int32) (ω : OW) (n : Nat) : RO := cO ω l0 10 (kV (F_X10_needSlot Θ l0 l1 ω n) (fun ω n => rA ω l0 10 0 (fun a2 => rA ω a2 0 11 (fun a3 => lI ω (gI Θ) a3 l1 (fun x4 => some (.inl (some (.int x4), ω, n)))))))
theorem ok_X10_slot (Θ : GP) (l0 : Nat) (l1 : Int32) (ω : OW) (n : Nat) : Ok Θ 7 1 6 yX10_slot cX10_slot 2 (some .int) [.ref l0, .int l1] ω n (F_X10_slot Θ l0 l1 ω n) := by
  refine Ok.of (by decide +kernel) (Nat.le_of_ble_eq_true rfl) (fun r h => ?_)
  unfold F_X10_slot at h
  show GR Θ yX10_slot cX10_slot 2 (some .int) 7 (1, 6) 0 [(0, .ref l0), (1, .int l1)] [] ω n r
  refine g_aload_n dX10_slot_0 rfl 0 rfl ?_
  refine g_iload_n dX10_slot_1 rfl 1 rfl ?_
  refine g_cV (ci := 10) (As := [.int l1]) mv_X10_175 dX10_slot_2 rfl (ok_X10_needSlot Θ l0 l1 _ _) rfl rfl (Nat.le_of_ble_eq_true rfl) (by decide) (by decide) (by decide) h (fun ω n h => ?_)
  refine G.less (B' := (0, 0)) (by decide) (by decide) ?_
  refine g_aload_n dX10_slot_5 rfl 0 rfl ?_
  refine g_rA fl_X10_48 dX10_slot_6 h (fun a2 h => ?_)
  refine g_rA fl_X10_178 dX10_slot_9 h (fun a3 h => ?_)
  refine g_iload_n dX10_slot_12 rfl 1 rfl ?_
  refine g_lIi dX10_slot_13 h (fun x4 h => ?_)
  cases h
  exact g_iret rfl dX10_slot_14 rfl
def J_X10_needOne_15 (Θ : GP) (ω : OW) (n : Nat) : RO := some (.inr ("java/lang/IndexOutOfBoundsException", ω))
def F_X10_needOne (Θ : GP) (l0 : Nat) (l1 : Int32) (ω : OW) (n : Nat) : RO := if l1 < 0 then (J_X10_needOne_15 Θ ω n) else (rA ω l0 10 0 (fun a2 => rI ω a2 0 1 (fun x3 => if l1 < x3 then (some (.inl (none, ω, n))) else (J_X10_needOne_15 Θ ω n))))
theorem ok_J_X10_needOne_15 (Θ : GP) (ω : OW) (n : Nat) (r : Out) (h : J_X10_needOne_15 Θ ω n = some r) : GR Θ yX10_needOne cX10_needOne 2 (none : Option Jvm.ClassFile.FieldType) 6 (1, 6) 15 [] [] ω n r := by
  unfold J_X10_needOne_15 at h
  cases h
  exact g_throwW (q := 36) th_X10_416_420 rfl dX10_needOne_15 dX10_needOne_18 dX10_needOne_19 dX10_needOne_22 dX10_needOne_25 rfl (by decide) (by decide) (by decide) (Nat.le_of_ble_eq_true rfl) (fun _ _ => rfl)
theorem ok_X10_needOne (Θ : GP) (l0 : Nat) (l1 : Int32) (ω : OW) (n : Nat) : Ok Θ 6 1 6 yX10_needOne cX10_needOne 2 (none : Option Jvm.ClassFile.FieldType) [.ref l0, .int l1] ω n (F_X10_needOne Θ l0 l1 ω n) := by
  refine Ok.of (by decide +kernel) (Nat.le_of_ble_eq_true rfl) (fun r h => ?_)
  unfold F_X10_needOne at h
  show GR Θ yX10_needOne cX10_needOne 2 (none : Option Jvm.ClassFile.FieldType) 6 (1, 6) 0 [(0, .ref l0), (1, .int l1)] [] ω n r
  refine g_iload_n dX10_needOne_0 rfl 1 rfl ?_
  refine g_if_lt (tgt := 15) dX10_needOne_1 (by decide) (fun c1 => ?_) (fun c1 => ?_)
  · rw [if_pos c1] at h
    refine G.lsub [] rfl ?_
    exact ok_J_X10_needOne_15 Θ _ _ r h
  · rw [if_neg c1] at h
    refine g_iload_n dX10_needOne_4 rfl 1 rfl ?_
    refine g_aload_n dX10_needOne_5 rfl 0 rfl ?_
    refine g_rA fl_X10_48 dX10_needOne_6 h (fun a2 h => ?_)
    refine g_rI fl_X10_322 dX10_needOne_9 h (fun x3 h => ?_)
    refine g_icmp_lt (tgt := 26) dX10_needOne_12 (by decide) (fun c4 => ?_) (fun c4 => ?_)
    · rw [if_pos c4] at h
      cases h
      exact g_vret rfl dX10_needOne_26 rfl
    · rw [if_neg c4] at h
      refine G.lsub [] rfl ?_
      exact ok_J_X10_needOne_15 Θ _ _ r h
def F_X10_accused (Θ : GP) (l0 : Nat) (l1 : Int32) (l2 : Int32) (ω : OW) (n : Nat) : RO := cO ω l0 10 (kV (F_X10_needOne Θ l0 l1 ω n) (fun ω n => if l2 = 0 then (rA ω l0 10 0 (fun a2 => rA ω a2 0 12 (fun a3 => lI ω (gI Θ) a3 l1 (fun x4 => some (.inl (some (.int x4), ω, n)))))) else (if l2 = 1 then (rA ω l0 10 0 (fun a5 => rA ω a5 0 13 (fun a6 => lI ω (gI Θ) a6 l1 (fun x7 => some (.inl (some (.int x7), ω, n)))))) else (if l2 = 2 then (rA ω l0 10 0 (fun a8 => rA ω a8 0 14 (fun a9 => lI ω (gI Θ) a9 l1 (fun x10 => some (.inl (some (.int x10), ω, n)))))) else (if l2 = 3 then (rA ω l0 10 0 (fun a11 => rA ω a11 0 15 (fun a12 => lI ω (gI Θ) a12 l1 (fun x13 => some (.inl (some (.int x13), ω, n)))))) else (some (.inr (nsN, ω))))))))
theorem ok_X10_accused (Θ : GP) (l0 : Nat) (l1 : Int32) (l2 : Int32) (ω : OW) (n : Nat) : Ok Θ 7 2 12 yX10_accused cX10_accused 3 (some .int) [.ref l0, .int l1, .int l2] ω n (F_X10_accused Θ l0 l1 l2 ω n) := by
  refine Ok.of (by decide +kernel) (Nat.le_of_ble_eq_true rfl) (fun r h => ?_)
  unfold F_X10_accused at h
  show GR Θ yX10_accused cX10_accused 3 (some .int) 7 (2, 12) 0 [(0, .ref l0), (1, .int l1), (2, .int l2)] [] ω n r
  refine g_aload_n dX10_accused_0 rfl 0 rfl ?_
  refine g_iload_n dX10_accused_1 rfl 1 rfl ?_
  refine g_cV (ci := 10) (As := [.int l1]) mv_X10_181 dX10_accused_2 rfl (ok_X10_needOne Θ l0 l1 _ _) rfl rfl (Nat.le_of_ble_eq_true rfl) (by decide) (by decide) (by decide) h (fun ω n h => ?_)
  refine G.less (B' := (1, 6)) (by decide) (by decide) ?_
  refine g_iload_n dX10_accused_5 rfl 2 rfl ?_
  by_cases c14_0 : l2 = 0
  · rw [if_pos c14_0] at h
    refine g_tableIn (off := 30) (tgt := 36) dX10_accused_6 (by rw [c14_0]; decide) (by rw [c14_0]; decide) (by rw [c14_0]; decide) (by decide) ?_
    refine g_aload_n dX10_accused_36 rfl 0 rfl ?_
    refine g_rA fl_X10_48 dX10_accused_37 h (fun a2 h => ?_)
    refine g_rA fl_X10_184 dX10_accused_40 h (fun a3 h => ?_)
    refine g_iload_n dX10_accused_43 rfl 1 rfl ?_
    refine g_lIi dX10_accused_44 h (fun x4 h => ?_)
    cases h
    exact g_iret rfl dX10_accused_45 rfl
  rw [if_neg c14_0] at h
  by_cases c14_1 : l2 = 1
  · rw [if_pos c14_1] at h
    refine g_tableIn (off := 40) (tgt := 46) dX10_accused_6 (by rw [c14_1]; decide) (by rw [c14_1]; decide) (by rw [c14_1]; decide) (by decide) ?_
    refine g_aload_n dX10_accused_46 rfl 0 rfl ?_
    refine g_rA fl_X10_48 dX10_accused_47 h (fun a5 h => ?_)
    refine g_rA fl_X10_187 dX10_accused_50 h (fun a6 h => ?_)
    refine g_iload_n dX10_accused_53 rfl 1 rfl ?_
    refine g_lIi dX10_accused_54 h (fun x7 h => ?_)
    cases h
    exact g_iret rfl dX10_accused_55 rfl
  rw [if_neg c14_1] at h
  by_cases c14_2 : l2 = 2
  · rw [if_pos c14_2] at h
    refine g_tableIn (off := 50) (tgt := 56) dX10_accused_6 (by rw [c14_2]; decide) (by rw [c14_2]; decide) (by rw [c14_2]; decide) (by decide) ?_
    refine g_aload_n dX10_accused_56 rfl 0 rfl ?_
    refine g_rA fl_X10_48 dX10_accused_57 h (fun a8 h => ?_)
    refine g_rA fl_X10_190 dX10_accused_60 h (fun a9 h => ?_)
    refine g_iload_n dX10_accused_63 rfl 1 rfl ?_
    refine g_lIi dX10_accused_64 h (fun x10 h => ?_)
    cases h
    exact g_iret rfl dX10_accused_65 rfl
  rw [if_neg c14_2] at h
  by_cases c14_3 : l2 = 3
  · rw [if_pos c14_3] at h
    refine g_tableIn (off := 60) (tgt := 66) dX10_accused_6 (by rw [c14_3]; decide) (by rw [c14_3]; decide) (by rw [c14_3]; decide) (by decide) ?_
    refine g_aload_n dX10_accused_66 rfl 0 rfl ?_
    refine g_rA fl_X10_48 dX10_accused_67 h (fun a11 h => ?_)
    refine g_rA fl_X10_193 dX10_accused_70 h (fun a12 h => ?_)
    refine g_iload_n dX10_accused_73 rfl 1 rfl ?_
    refine g_lIi dX10_accused_74 h (fun x13 h => ?_)
    cases h
    exact g_iret rfl dX10_accused_75 rfl
  rw [if_neg c14_3] at h
  have qc14_0 := ne_toInt c14_0 (z := 0) (by decide)
  have qc14_1 := ne_toInt c14_1 (z := 1) (by decide)
  have qc14_2 := ne_toInt c14_2 (z := 2) (by decide)
  have qc14_3 := ne_toInt c14_3 (z := 3) (by decide)
  refine g_tableOut (tgt := 76) dX10_accused_6 (by omega) (by decide) ?_
  cases h
  exact g_throwNS (q := 25) rfl rfl 2 dX10_accused_76 dX10_accused_79 (Or.inl ⟨dX10_accused_80, rfl⟩) dX10_accused_82 dX10_accused_85 rfl (by decide) (by decide) (by decide) (Nat.le_of_ble_eq_true rfl) (fun _ _ => rfl)
def J_X10_fright_102 (Θ : GP) (s0 : Int32) (ω : OW) (n : Nat) : RO := some (.inl (some (.int s0), ω, n))
def J_X10_fright_20 (Θ : GP) (ω : OW) (n : Nat) : RO := some (.inr ("java/lang/IllegalArgumentException", ω))
def F_X10_fright (Θ : GP) (l0 : Nat) (l1 : Int32) (l2 : Int32) (l3 : Int32) (l4 : Int32) (ω : OW) (n : Nat) : RO := cO ω l0 10 (kV (F_X10_needOne Θ l0 l1 ω n) (fun ω n => cO ω l0 10 (kV (F_X10_needSlot Θ l0 l2 ω n) (fun ω n => if l3 < 0 then (J_X10_fright_20 Θ ω n) else (if l3 ≤ 99 then (rA ω l0 10 0 (fun a5 => rA ω a5 0 11 (fun a6 => lI ω (gI Θ) a6 l2 (fun x7 => if 0 ≤ x7 then (rA ω l0 10 8 (fun a9 => cO ω a9 6 (kV (F_X6_lay Θ a9 ω n) (fun ω n => rA ω l0 10 8 (fun a11 => cO ω a11 6 (kV (F_X6_board Θ a11 l1 ω n) (fun ω n => rA ω l0 10 8 (fun a13 => cO ω a13 6 (kA (F_X6_meet Θ a13 l2 l3 ω n) (fun a14 ω n => if l4 = 0 then (rA ω l0 10 0 (fun a16 => rA ω a16 0 17 (fun a17 => cO ω a17 2 (kI (F_X2_frightsBy Θ a17 a14 ω n) (fun x18 ω n => J_X10_fright_102 Θ x18 ω n))))) else (rA ω l0 10 0 (fun a19 => rA ω a19 0 17 (fun a20 => cO ω a20 2 (kI (F_X2_wearsBy Θ a20 a14 ω n) (fun x21 ω n => J_X10_fright_102 Θ x21 ω n))))))))))))))) else (some (.inl (some (.int 0), ω, n))))))) else (J_X10_fright_20 Θ ω n))))))
theorem ok_J_X10_fright_102 (Θ : GP) (s0 : Int32) (ω : OW) (n : Nat) (r : Out) (h : J_X10_fright_102 Θ s0 ω n = some r) : GR Θ yX10_fright cX10_fright 6 (some .int) 7 (0, 0) 102 [] [.int s0] ω n r := by
  unfold J_X10_fright_102 at h
  cases h
  exact g_iret rfl dX10_fright_102 rfl
theorem ok_J_X10_fright_20 (Θ : GP) (ω : OW) (n : Nat) (r : Out) (h : J_X10_fright_20 Θ ω n = some r) : GR Θ yX10_fright cX10_fright 6 (some .int) 7 (1, 6) 20 [] [] ω n r := by
  unfold J_X10_fright_20 at h
  cases h
  exact g_throw (q := 26) th_X10_125_129 rfl dX10_fright_20 dX10_fright_23 dX10_fright_24 dX10_fright_26 dX10_fright_29 rfl (by decide) (by decide) (by decide) (Nat.le_of_ble_eq_true rfl) (fun _ _ => rfl)
theorem ok_X10_fright (Θ : GP) (l0 : Nat) (l1 : Int32) (l2 : Int32) (l3 : Int32) (l4 : Int32) (ω : OW) (n : Nat) : Ok Θ 7 3 18 yX10_fright cX10_fright 6 (some .int) [.ref l0, .int l1, .int l2, .int l3, .int l4] ω n (F_X10_fright Θ l0 l1 l2 l3 l4 ω n) := by
  refine Ok.of (by decide +kernel) (Nat.le_of_ble_eq_true rfl) (fun r h => ?_)
  unfold F_X10_fright at h
  show GR Θ yX10_fright cX10_fright 6 (some .int) 7 (3, 18) 0 [(0, .ref l0), (1, .int l1), (2, .int l2), (3, .int l3), (4, .int l4)] [] ω n r
  refine g_aload_n dX10_fright_0 rfl 0 rfl ?_
  refine g_iload_n dX10_fright_1 rfl 1 rfl ?_
  refine g_cV (ci := 10) (As := [.int l1]) mv_X10_181 dX10_fright_2 rfl (ok_X10_needOne Θ l0 l1 _ _) rfl rfl (Nat.le_of_ble_eq_true rfl) (by decide) (by decide) (by decide) h (fun ω n h => ?_)
  refine G.less (B' := (2, 12)) (by decide) (by decide) ?_
  refine g_aload_n dX10_fright_5 rfl 0 rfl ?_
  refine g_iload_n dX10_fright_6 rfl 2 rfl ?_
  refine g_cV (ci := 10) (As := [.int l2]) mv_X10_175 dX10_fright_7 rfl (ok_X10_needSlot Θ l0 l2 _ _) rfl rfl (Nat.le_of_ble_eq_true rfl) (by decide) (by decide) (by decide) h (fun ω n h => ?_)
  refine G.less (B' := (1, 6)) (by decide) (by decide) ?_
  refine g_iload_n dX10_fright_10 rfl 3 rfl ?_
  refine g_if_lt (tgt := 20) dX10_fright_11 (by decide) (fun c3 => ?_) (fun c3 => ?_)
  · rw [if_pos c3] at h
    refine G.lsub [] rfl ?_
    exact ok_J_X10_fright_20 Θ _ _ r h
  · rw [if_neg c3] at h
    refine g_iload_n dX10_fright_14 rfl 3 rfl ?_
    refine g_bipush (v := 99) dX10_fright_15 (by decide) ?_
    refine g_icmp_le (tgt := 30) dX10_fright_17 (by decide) (fun c4 => ?_) (fun c4 => ?_)
    · rw [if_pos c4] at h
      refine g_aload_n dX10_fright_30 rfl 0 rfl ?_
      refine g_rA fl_X10_48 dX10_fright_31 h (fun a5 h => ?_)
      refine g_rA fl_X10_178 dX10_fright_34 h (fun a6 h => ?_)
      refine g_iload_n dX10_fright_37 rfl 2 rfl ?_
      refine g_lIi dX10_fright_38 h (fun x7 h => ?_)
      refine g_if_ge (tgt := 44) dX10_fright_39 (by decide) (fun c8 => ?_) (fun c8 => ?_)
      · rw [if_pos c8] at h
        refine g_aload_n dX10_fright_44 rfl 0 rfl ?_
        refine g_rA fl_X10_88 dX10_fright_45 h (fun a9 h => ?_)
        refine g_cV (ci := 6) (As := []) mv_X10_200 dX10_fright_48 rfl (ok_X6_lay Θ a9 _ _) rfl rfl (Nat.le_of_ble_eq_true rfl) (by decide) (by decide) (by decide) h (fun ω n h => ?_)
        refine G.less (B' := (1, 6)) (by decide) (by decide) ?_
        refine g_aload_n dX10_fright_51 rfl 0 rfl ?_
        refine g_rA fl_X10_88 dX10_fright_52 h (fun a11 h => ?_)
        refine g_iload_n dX10_fright_55 rfl 1 rfl ?_
        refine g_cV (ci := 6) (As := [.int l1]) mv_X10_203 dX10_fright_56 rfl (ok_X6_board Θ a11 l1 _ _) rfl rfl (Nat.le_of_ble_eq_true rfl) (by decide) (by decide) (by decide) h (fun ω n h => ?_)
        refine G.less (B' := (1, 6)) (by decide) (by decide) ?_
        refine g_aload_n dX10_fright_59 rfl 0 rfl ?_
        refine g_rA fl_X10_88 dX10_fright_60 h (fun a13 h => ?_)
        refine g_iload_n dX10_fright_63 rfl 2 rfl ?_
        refine g_iload_n dX10_fright_64 rfl 3 rfl ?_
        refine g_cA (ci := 6) (As := [.int l2, .int l3]) mv_X10_206 dX10_fright_65 rfl (ok_X6_meet Θ a13 l2 l3 _ _) rfl rfl (Nat.le_of_ble_eq_true rfl) (by decide) (by decide) (by decide) h (fun a14 ω n h => ?_)
        refine G.less (B' := (1, 6)) (by decide) (by decide) ?_
        refine g_astore (lv' := [(5, .ref a14), (0, .ref l0), (1, .int l1), (2, .int l2), (3, .int l3), (4, .int l4)]) dX10_fright_68 (by decide) rfl ?_
        refine g_iload dX10_fright_70 5 rfl ?_
        refine g_if_eq (tgt := 90) dX10_fright_72 (by decide) (fun c15 => ?_) (fun c15 => ?_)
        · rw [if_pos c15] at h
          refine g_aload_n dX10_fright_90 rfl 1 rfl ?_
          refine g_rA fl_X10_48 dX10_fright_91 h (fun a16 h => ?_)
          refine g_rA fl_X10_148 dX10_fright_94 h (fun a17 h => ?_)
          refine g_aload dX10_fright_97 0 rfl ?_
          refine g_cI (ci := 2) (As := [.ref a14]) mv_X10_214 dX10_fright_99 rfl (ok_X2_frightsBy Θ a17 a14 _ _) rfl rfl (Nat.le_of_ble_eq_true rfl) (by decide) (by decide) (by decide) h (fun x18 ω n h => ?_)
          refine G.less (B' := (1, 6)) (by decide) (by decide) ?_
          refine G.lsub [] rfl ?_
          refine G.less (B' := (0, 0)) (by decide) (by decide) ?_
          exact ok_J_X10_fright_102 Θ x18 _ _ r h
        · rw [if_neg c15] at h
          refine g_aload_n dX10_fright_75 rfl 1 rfl ?_
          refine g_rA fl_X10_48 dX10_fright_76 h (fun a19 h => ?_)
          refine g_rA fl_X10_148 dX10_fright_79 h (fun a20 h => ?_)
          refine g_aload dX10_fright_82 0 rfl ?_
          refine g_cI (ci := 2) (As := [.ref a14]) mv_X10_210 dX10_fright_84 rfl (ok_X2_wearsBy Θ a20 a14 _ _) rfl rfl (Nat.le_of_ble_eq_true rfl) (by decide) (by decide) (by decide) h (fun x21 ω n h => ?_)
          refine G.less (B' := (1, 6)) (by decide) (by decide) ?_
          refine g_goto (tgt := 102) dX10_fright_87 (by decide) ?_
          refine G.lsub [] rfl ?_
          refine G.less (B' := (0, 0)) (by decide) (by decide) ?_
          exact ok_J_X10_fright_102 Θ x21 _ _ r h
      · rw [if_neg c8] at h
        refine g_iconst (v := 0) dX10_fright_42 (by decide) ?_
        cases h
        exact g_iret rfl dX10_fright_43 rfl
    · rw [if_neg c4] at h
      refine G.lsub [] rfl ?_
      exact ok_J_X10_fright_20 Θ _ _ r h
def F_X10_needState (Θ : GP) (l0 : Nat) (l1 : Int32) (l2 : Int32) (ω : OW) (n : Nat) : RO := rA ω l0 10 0 (fun a1 => rA ω a1 0 15 (fun a2 => lI ω (gI Θ) a2 l1 (fun x3 => if x3 = l2 then (some (.inl (none, ω, n))) else (some (.inr ("java/lang/IllegalStateException", ω))))))
theorem ok_X10_needState (Θ : GP) (l0 : Nat) (l1 : Int32) (l2 : Int32) (ω : OW) (n : Nat) : Ok Θ 6 1 6 yX10_needState cX10_needState 3 (none : Option Jvm.ClassFile.FieldType) [.ref l0, .int l1, .int l2] ω n (F_X10_needState Θ l0 l1 l2 ω n) := by
  refine Ok.of (by decide +kernel) (Nat.le_of_ble_eq_true rfl) (fun r h => ?_)
  unfold F_X10_needState at h
  show GR Θ yX10_needState cX10_needState 3 (none : Option Jvm.ClassFile.FieldType) 6 (1, 6) 0 [(0, .ref l0), (1, .int l1), (2, .int l2)] [] ω n r
  refine g_aload_n dX10_needState_0 rfl 0 rfl ?_
  refine g_rA fl_X10_48 dX10_needState_1 h (fun a1 h => ?_)
  refine g_rA fl_X10_193 dX10_needState_4 h (fun a2 h => ?_)
  refine g_iload_n dX10_needState_7 rfl 1 rfl ?_
  refine g_lIi dX10_needState_8 h (fun x3 h => ?_)
  refine g_iload_n dX10_needState_9 rfl 2 rfl ?_
  refine g_icmp_eq (tgt := 24) dX10_needState_10 (by decide) (fun c4 => ?_) (fun c4 => ?_)
  · rw [if_pos c4] at h
    cases h
    exact g_vret rfl dX10_needState_24 rfl
  · rw [if_neg c4] at h
    cases h
    exact g_throwW (q := 37) th_X10_262_266 rfl dX10_needState_13 dX10_needState_16 dX10_needState_17 dX10_needState_20 dX10_needState_23 rfl (by decide) (by decide) (by decide) (Nat.le_of_ble_eq_true rfl) (fun _ _ => rfl)
def J_X10_send_179 (Θ : GP) (l0 : Nat) (s0 : Int32) (s1 : Int32) (s2 : Int32) (s3 : Nat) (ω : OW) (n : Nat) : RO := rA ω l0 10 8 (fun a1 => rI ω a1 6 9 (fun x2 => cO ω s3 4 (kV (F_X4_add Θ s3 s2 s1 s0 x2 ω n) (fun ω n => rA ω l0 10 8 (fun a4 => rI ω a4 6 8 (fun x5 => some (.inl (some (.int x5), ω, n))))))))
def J_X10_send_140 (Θ : GP) (l0 : Nat) (l1 : Int32) (s0 : Int32) (s1 : Int32) (s2 : Nat) (ω : OW) (n : Nat) : RO := sI ω (gI Θ) s2 s1 s0 (fun ω => rA ω l0 10 0 (fun a6 => rA ω a6 0 16 (fun a7 => rA ω l0 10 0 (fun a8 => rI ω a8 0 5 (fun x9 => rA ω l0 10 8 (fun a10 => rI ω a10 6 8 (fun x11 => if x11 = (-1) then (J_X10_send_179 Θ l0 10 l1 x9 a7 ω n) else (rA ω l0 10 8 (fun a13 => rI ω a13 6 8 (fun x14 => J_X10_send_179 Θ l0 x14 l1 x9 a7 ω n))))))))))
def F_X10_send (Θ : GP) (l0 : Nat) (l1 : Int32) (ω : OW) (n : Nat) : RO := cO ω l0 10 (kV (F_X10_needOne Θ l0 l1 ω n) (fun ω n => cO ω l0 10 (kV (F_X10_needState Θ l0 l1 0 ω n) (fun ω n => rA ω l0 10 4 (fun a17 => rA ω l0 10 0 (fun a18 => cO ω a17 5 (kV (F_X5_remember Θ a17 a18 ω n) (fun ω n => rA ω l0 10 8 (fun a20 => cO ω a20 6 (kV (F_X6_lay Θ a20 ω n) (fun ω n => rA ω l0 10 8 (fun a22 => cO ω a22 6 (kV (F_X6_board Θ a22 l1 ω n) (fun ω n => rA ω l0 10 8 (fun a24 => rA ω l0 10 0 (fun a25 => rI ω a25 0 6 (fun x26 => wF ω a24 6 7 (.int x26) (fun ω => rA ω l0 10 8 (fun a27 => cO ω a27 6 (kV (F_X6_byDraws Θ a27 ω n) (fun ω n => rA ω l0 10 8 (fun a29 => cO ω a29 6 (kV (F_X6_wearOn Θ a29 ω n) (fun ω n => rA ω l0 10 8 (fun a31 => rA ω a31 6 2 (fun a32 => rA ω l0 10 0 (fun a33 => rA ω a33 0 9 (fun a34 => cpI ω (gI Θ) a32 0 a34 0 8 (fun ω => rA ω l0 10 0 (fun a35 => rA ω l0 10 8 (fun a36 => rI ω a36 6 7 (fun x37 => wF ω a35 0 6 (.int x37) (fun ω => rA ω l0 10 0 (fun a38 => rA ω a38 0 14 (fun a39 => rA ω l0 10 8 (fun a40 => rI ω a40 6 5 (fun x41 => sI ω (gI Θ) a39 l1 x41 (fun ω => rA ω l0 10 0 (fun a42 => rA ω a42 0 15 (fun a43 => rA ω l0 10 8 (fun a44 => rI ω a44 6 8 (fun x45 => if x45 = (-1) then (J_X10_send_140 Θ l0 l1 2 l1 a43 ω n) else (J_X10_send_140 Θ l0 l1 1 l1 a43 ω n)))))))))))))))))))))))))))))))))))))))))))
theorem ok_J_X10_send_179 (Θ : GP) (l0 : Nat) (s0 : Int32) (s1 : Int32) (s2 : Int32) (s3 : Nat) (ω : OW) (n : Nat) (r : Out) (h : J_X10_send_179 Θ l0 s0 s1 s2 s3 ω n = some r) : GR Θ yX10_send cX10_send 2 (some .int) 7 (0, 0) 179 [(0, .ref l0)] [.int s0, .int s1, .int s2, .ref s3] ω n r := by
  unfold J_X10_send_179 at h
  refine g_aload_n dX10_send_179 rfl 0 rfl ?_
  refine g_rA fl_X10_88 dX10_send_180 h (fun a1 h => ?_)
  refine g_rI fl_X10_253 dX10_send_183 h (fun x2 h => ?_)
  refine g_cV (ci := 4) (As := [.int s2, .int s1, .int s0, .int x2]) mv_X10_256 dX10_send_186 rfl (ok_X4_add Θ s3 s2 s1 s0 x2 _ _) rfl rfl (Nat.le_of_ble_eq_true rfl) (by decide) (by decide) (by decide) h (fun ω n h => ?_)
  refine G.less (B' := (0, 0)) (by decide) (by decide) ?_
  refine g_aload_n dX10_send_189 rfl 0 rfl ?_
  refine g_rA fl_X10_88 dX10_send_190 h (fun a4 h => ?_)
  refine g_rI fl_X10_243 dX10_send_193 h (fun x5 h => ?_)
  cases h
  exact g_iret rfl dX10_send_196 rfl
theorem ok_J_X10_send_140 (Θ : GP) (l0 : Nat) (l1 : Int32) (s0 : Int32) (s1 : Int32) (s2 : Nat) (ω : OW) (n : Nat) (r : Out) (h : J_X10_send_140 Θ l0 l1 s0 s1 s2 ω n = some r) : GR Θ yX10_send cX10_send 2 (some .int) 7 (0, 0) 140 [(0, .ref l0), (1, .int l1)] [.int s0, .int s1, .ref s2] ω n r := by
  unfold J_X10_send_140 at h
  refine g_sIi dX10_send_140 h (fun ω h => ?_)
  refine g_aload_n dX10_send_141 rfl 0 rfl ?_
  refine g_rA fl_X10_48 dX10_send_142 h (fun a6 h => ?_)
  refine g_rA fl_X10_246 dX10_send_145 h (fun a7 h => ?_)
  refine g_aload_n dX10_send_148 rfl 0 rfl ?_
  refine g_rA fl_X10_48 dX10_send_149 h (fun a8 h => ?_)
  refine g_rI fl_X10_250 dX10_send_152 h (fun x9 h => ?_)
  refine g_iload_n dX10_send_155 rfl 1 rfl ?_
  refine g_aload_n dX10_send_156 rfl 0 rfl ?_
  refine g_rA fl_X10_88 dX10_send_157 h (fun a10 h => ?_)
  refine g_rI fl_X10_243 dX10_send_160 h (fun x11 h => ?_)
  refine g_iconst (v := (-1)) dX10_send_163 (by decide) ?_
  refine g_icmp_eq (tgt := 177) dX10_send_164 (by decide) (fun c12 => ?_) (fun c12 => ?_)
  · rw [if_pos c12] at h
    refine g_bipush (v := 10) dX10_send_177 (by decide) ?_
    refine G.lsub [0] rfl ?_
    exact ok_J_X10_send_179 Θ l0 10 l1 x9 a7 _ _ r h
  · rw [if_neg c12] at h
    refine g_aload_n dX10_send_167 rfl 0 rfl ?_
    refine g_rA fl_X10_88 dX10_send_168 h (fun a13 h => ?_)
    refine g_rI fl_X10_243 dX10_send_171 h (fun x14 h => ?_)
    refine g_goto (tgt := 179) dX10_send_174 (by decide) ?_
    refine G.lsub [0] rfl ?_
    exact ok_J_X10_send_179 Θ l0 x14 l1 x9 a7 _ _ r h
theorem ok_X10_send (Θ : GP) (l0 : Nat) (l1 : Int32) (ω : OW) (n : Nat) : Ok Θ 7 2 12 yX10_send cX10_send 2 (some .int) [.ref l0, .int l1] ω n (F_X10_send Θ l0 l1 ω n) := by
  refine Ok.of (by decide +kernel) (Nat.le_of_ble_eq_true rfl) (fun r h => ?_)
  unfold F_X10_send at h
  show GR Θ yX10_send cX10_send 2 (some .int) 7 (2, 12) 0 [(0, .ref l0), (1, .int l1)] [] ω n r
  refine g_aload_n dX10_send_0 rfl 0 rfl ?_
  refine g_iload_n dX10_send_1 rfl 1 rfl ?_
  refine g_cV (ci := 10) (As := [.int l1]) mv_X10_181 dX10_send_2 rfl (ok_X10_needOne Θ l0 l1 _ _) rfl rfl (Nat.le_of_ble_eq_true rfl) (by decide) (by decide) (by decide) h (fun ω n h => ?_)
  refine G.less (B' := (1, 6)) (by decide) (by decide) ?_
  refine g_aload_n dX10_send_5 rfl 0 rfl ?_
  refine g_iload_n dX10_send_6 rfl 1 rfl ?_
  refine g_iconst (v := 0) dX10_send_7 (by decide) ?_
  refine g_cV (ci := 10) (As := [.int l1, .int 0]) mv_X10_217 dX10_send_8 rfl (ok_X10_needState Θ l0 l1 0 _ _) rfl rfl (Nat.le_of_ble_eq_true rfl) (by decide) (by decide) (by decide) h (fun ω n h => ?_)
  refine G.less (B' := (0, 0)) (by decide) (by decide) ?_
  refine g_aload_n dX10_send_11 rfl 0 rfl ?_
  refine g_rA fl_X10_61 dX10_send_12 h (fun a17 h => ?_)
  refine g_aload_n dX10_send_15 rfl 0 rfl ?_
  refine g_rA fl_X10_48 dX10_send_16 h (fun a18 h => ?_)
  refine g_cV (ci := 5) (As := [.ref a18]) mv_X10_221 dX10_send_19 rfl (ok_X5_remember Θ a17 a18 _ _) rfl rfl (Nat.le_of_ble_eq_true rfl) (by decide) (by decide) (by decide) h (fun ω n h => ?_)
  refine G.less (B' := (0, 0)) (by decide) (by decide) ?_
  refine g_aload_n dX10_send_22 rfl 0 rfl ?_
  refine g_rA fl_X10_88 dX10_send_23 h (fun a20 h => ?_)
  refine g_cV (ci := 6) (As := []) mv_X10_200 dX10_send_26 rfl (ok_X6_lay Θ a20 _ _) rfl rfl (Nat.le_of_ble_eq_true rfl) (by decide) (by decide) (by decide) h (fun ω n h => ?_)
  refine G.less (B' := (0, 0)) (by decide) (by decide) ?_
  refine g_aload_n dX10_send_29 rfl 0 rfl ?_
  refine g_rA fl_X10_88 dX10_send_30 h (fun a22 h => ?_)
  refine g_iload_n dX10_send_33 rfl 1 rfl ?_
  refine g_cV (ci := 6) (As := [.int l1]) mv_X10_203 dX10_send_34 rfl (ok_X6_board Θ a22 l1 _ _) rfl rfl (Nat.le_of_ble_eq_true rfl) (by decide) (by decide) (by decide) h (fun ω n h => ?_)
  refine G.less (B' := (0, 0)) (by decide) (by decide) ?_
  refine g_aload_n dX10_send_37 rfl 0 rfl ?_
  refine g_rA fl_X10_88 dX10_send_38 h (fun a24 h => ?_)
  refine g_aload_n dX10_send_41 rfl 0 rfl ?_
  refine g_rA fl_X10_48 dX10_send_42 h (fun a25 h => ?_)
  refine g_rI fl_X10_224 dX10_send_45 h (fun x26 h => ?_)
  refine g_wF fl_X10_227 dX10_send_48 (rfl) rfl h (fun ω h => ?_)
  refine g_aload_n dX10_send_51 rfl 0 rfl ?_
  refine g_rA fl_X10_88 dX10_send_52 h (fun a27 h => ?_)
  refine g_cV (ci := 6) (As := []) mv_X10_228 dX10_send_55 rfl (ok_X6_byDraws Θ a27 _ _) rfl rfl (Nat.le_of_ble_eq_true rfl) (by decide) (by decide) (by decide) h (fun ω n h => ?_)
  refine G.less (B' := (0, 0)) (by decide) (by decide) ?_
  refine g_aload_n dX10_send_58 rfl 0 rfl ?_
  refine g_rA fl_X10_88 dX10_send_59 h (fun a29 h => ?_)
  refine g_cV (ci := 6) (As := []) mv_X10_231 dX10_send_62 rfl (ok_X6_wearOn Θ a29 _ _) rfl rfl (Nat.le_of_ble_eq_true rfl) (by decide) (by decide) (by decide) h (fun ω n h => ?_)
  refine G.less (B' := (0, 0)) (by decide) (by decide) ?_
  refine g_aload_n dX10_send_65 rfl 0 rfl ?_
  refine g_rA fl_X10_88 dX10_send_66 h (fun a31 h => ?_)
  refine g_rA fl_X10_234 dX10_send_69 h (fun a32 h => ?_)
  refine g_iconst (v := 0) dX10_send_72 (by decide) ?_
  refine g_aload_n dX10_send_73 rfl 0 rfl ?_
  refine g_rA fl_X10_48 dX10_send_74 h (fun a33 h => ?_)
  refine g_rA fl_X10_164 dX10_send_77 h (fun a34 h => ?_)
  refine g_iconst (v := 0) dX10_send_80 (by decide) ?_
  refine g_bipush (v := 8) dX10_send_81 (by decide) ?_
  refine g_cp wd_1158 wd_580 wd_579 wd_124 dX10_send_83 (by decide) (Nat.le_of_ble_eq_true rfl) h (fun ω h => ?_)
  refine g_aload_n dX10_send_86 rfl 0 rfl ?_
  refine g_rA fl_X10_48 dX10_send_87 h (fun a35 h => ?_)
  refine g_aload_n dX10_send_90 rfl 0 rfl ?_
  refine g_rA fl_X10_88 dX10_send_91 h (fun a36 h => ?_)
  refine g_rI fl_X10_227 dX10_send_94 h (fun x37 h => ?_)
  refine g_wF fl_X10_224 dX10_send_97 (rfl) rfl h (fun ω h => ?_)
  refine g_aload_n dX10_send_100 rfl 0 rfl ?_
  refine g_rA fl_X10_48 dX10_send_101 h (fun a38 h => ?_)
  refine g_rA fl_X10_190 dX10_send_104 h (fun a39 h => ?_)
  refine g_iload_n dX10_send_107 rfl 1 rfl ?_
  refine g_aload_n dX10_send_108 rfl 0 rfl ?_
  refine g_rA fl_X10_88 dX10_send_109 h (fun a40 h => ?_)
  refine g_rI fl_X10_241 dX10_send_112 h (fun x41 h => ?_)
  refine g_sIi dX10_send_115 h (fun ω h => ?_)
  refine g_aload_n dX10_send_116 rfl 0 rfl ?_
  refine g_rA fl_X10_48 dX10_send_117 h (fun a42 h => ?_)
  refine g_rA fl_X10_193 dX10_send_120 h (fun a43 h => ?_)
  refine g_iload_n dX10_send_123 rfl 1 rfl ?_
  refine g_aload_n dX10_send_124 rfl 0 rfl ?_
  refine g_rA fl_X10_88 dX10_send_125 h (fun a44 h => ?_)
  refine g_rI fl_X10_243 dX10_send_128 h (fun x45 h => ?_)
  refine g_iconst (v := (-1)) dX10_send_131 (by decide) ?_
  refine g_icmp_eq (tgt := 139) dX10_send_132 (by decide) (fun c46 => ?_) (fun c46 => ?_)
  · rw [if_pos c46] at h
    refine g_iconst (v := 2) dX10_send_139 (by decide) ?_
    exact ok_J_X10_send_140 Θ l0 l1 2 l1 a43 _ _ r h
  · rw [if_neg c46] at h
    refine g_iconst (v := 1) dX10_send_135 (by decide) ?_
    refine g_goto (tgt := 140) dX10_send_136 (by decide) ?_
    exact ok_J_X10_send_140 Θ l0 l1 1 l1 a43 _ _ r h
def J_X10_nail_34 (Θ : GP) (ω : OW) (n : Nat) : RO := some (.inr ("java/lang/IllegalStateException", ω))
def F_X10_nail (Θ : GP) (l0 : Nat) (l1 : Int32) (l2 : Int32) (ω : OW) (n : Nat) : RO := cO ω l0 10 (kV (F_X10_needProp Θ l0 l1 ω n) (fun ω n => cO ω l0 10 (kV (F_X10_needSlot Θ l0 l2 ω n) (fun ω n => rA ω l0 10 0 (fun a3 => rA ω a3 0 10 (fun a4 => lI ω (gI Θ) a4 l1 (fun x5 => if 0 ≤ x5 then (J_X10_nail_34 Θ ω n) else (rA ω l0 10 0 (fun a7 => rA ω a7 0 11 (fun a8 => lI ω (gI Θ) a8 l2 (fun x9 => if x9 < 0 then (rA ω l0 10 4 (fun a11 => rA ω l0 10 0 (fun a12 => cO ω a11 5 (kV (F_X5_remember Θ a11 a12 ω n) (fun ω n => rA ω l0 10 0 (fun a14 => cO ω a14 0 (kV (F_X0_hang Θ a14 l1 l2 ω n) (fun ω n => some (.inl (none, ω, n)))))))))) else (J_X10_nail_34 Θ ω n))))))))))))
theorem ok_J_X10_nail_34 (Θ : GP) (ω : OW) (n : Nat) (r : Out) (h : J_X10_nail_34 Θ ω n = some r) : GR Θ yX10_nail cX10_nail 3 (none : Option Jvm.ClassFile.FieldType) 7 (1, 6) 34 [] [] ω n r := by
  unfold J_X10_nail_34 at h
  cases h
  exact g_throwW (q := 27) th_X10_262_266 rfl dX10_nail_34 dX10_nail_37 dX10_nail_38 dX10_nail_41 dX10_nail_44 rfl (by decide) (by decide) (by decide) (Nat.le_of_ble_eq_true rfl) (fun _ _ => rfl)
theorem ok_X10_nail (Θ : GP) (l0 : Nat) (l1 : Int32) (l2 : Int32) (ω : OW) (n : Nat) : Ok Θ 7 3 18 yX10_nail cX10_nail 3 (none : Option Jvm.ClassFile.FieldType) [.ref l0, .int l1, .int l2] ω n (F_X10_nail Θ l0 l1 l2 ω n) := by
  refine Ok.of (by decide +kernel) (Nat.le_of_ble_eq_true rfl) (fun r h => ?_)
  unfold F_X10_nail at h
  show GR Θ yX10_nail cX10_nail 3 (none : Option Jvm.ClassFile.FieldType) 7 (3, 18) 0 [(0, .ref l0), (1, .int l1), (2, .int l2)] [] ω n r
  refine g_aload_n dX10_nail_0 rfl 0 rfl ?_
  refine g_iload_n dX10_nail_1 rfl 1 rfl ?_
  refine g_cV (ci := 10) (As := [.int l1]) mv_X10_155 dX10_nail_2 rfl (ok_X10_needProp Θ l0 l1 _ _) rfl rfl (Nat.le_of_ble_eq_true rfl) (by decide) (by decide) (by decide) h (fun ω n h => ?_)
  refine G.less (B' := (2, 12)) (by decide) (by decide) ?_
  refine g_aload_n dX10_nail_5 rfl 0 rfl ?_
  refine g_iload_n dX10_nail_6 rfl 2 rfl ?_
  refine g_cV (ci := 10) (As := [.int l2]) mv_X10_175 dX10_nail_7 rfl (ok_X10_needSlot Θ l0 l2 _ _) rfl rfl (Nat.le_of_ble_eq_true rfl) (by decide) (by decide) (by decide) h (fun ω n h => ?_)
  refine G.less (B' := (1, 6)) (by decide) (by decide) ?_
  refine g_aload_n dX10_nail_10 rfl 0 rfl ?_
  refine g_rA fl_X10_48 dX10_nail_11 h (fun a3 h => ?_)
  refine g_rA fl_X10_167 dX10_nail_14 h (fun a4 h => ?_)
  refine g_iload_n dX10_nail_17 rfl 1 rfl ?_
  refine g_lIi dX10_nail_18 h (fun x5 h => ?_)
  refine g_if_ge (tgt := 34) dX10_nail_19 (by decide) (fun c6 => ?_) (fun c6 => ?_)
  · rw [if_pos c6] at h
    refine G.lsub [] rfl ?_
    exact ok_J_X10_nail_34 Θ _ _ r h
  · rw [if_neg c6] at h
    refine g_aload_n dX10_nail_22 rfl 0 rfl ?_
    refine g_rA fl_X10_48 dX10_nail_23 h (fun a7 h => ?_)
    refine g_rA fl_X10_178 dX10_nail_26 h (fun a8 h => ?_)
    refine g_iload_n dX10_nail_29 rfl 2 rfl ?_
    refine g_lIi dX10_nail_30 h (fun x9 h => ?_)
    refine g_if_lt (tgt := 45) dX10_nail_31 (by decide) (fun c10 => ?_) (fun c10 => ?_)
    · rw [if_pos c10] at h
      refine g_aload_n dX10_nail_45 rfl 0 rfl ?_
      refine g_rA fl_X10_61 dX10_nail_46 h (fun a11 h => ?_)
      refine g_aload_n dX10_nail_49 rfl 0 rfl ?_
      refine g_rA fl_X10_48 dX10_nail_50 h (fun a12 h => ?_)
      refine g_cV (ci := 5) (As := [.ref a12]) mv_X10_221 dX10_nail_53 rfl (ok_X5_remember Θ a11 a12 _ _) rfl rfl (Nat.le_of_ble_eq_true rfl) (by decide) (by decide) (by decide) h (fun ω n h => ?_)
      refine G.less (B' := (1, 6)) (by decide) (by decide) ?_
      refine g_aload_n dX10_nail_56 rfl 0 rfl ?_
      refine g_rA fl_X10_48 dX10_nail_57 h (fun a14 h => ?_)
      refine g_iload_n dX10_nail_60 rfl 1 rfl ?_
      refine g_iload_n dX10_nail_61 rfl 2 rfl ?_
      refine g_cV (ci := 0) (As := [.int l1, .int l2]) mv_X10_267 dX10_nail_62 rfl (ok_X0_hang Θ a14 l1 l2 _ _) rfl rfl (Nat.le_of_ble_eq_true rfl) (by decide) (by decide) (by decide) h (fun ω n h => ?_)
      refine G.less (B' := (1, 6)) (by decide) (by decide) ?_
      cases h
      exact g_vret rfl dX10_nail_65 rfl
    · rw [if_neg c10] at h
      refine G.lsub [] rfl ?_
      exact ok_J_X10_nail_34 Θ _ _ r h
def F_X10_down (Θ : GP) (l0 : Nat) (l1 : Int32) (ω : OW) (n : Nat) : RO := cO ω l0 10 (kV (F_X10_needSlot Θ l0 l1 ω n) (fun ω n => rA ω l0 10 0 (fun a2 => rA ω a2 0 11 (fun a3 => lI ω (gI Θ) a3 l1 (fun x4 => if 0 ≤ x4 then (rA ω l0 10 4 (fun a6 => rA ω l0 10 0 (fun a7 => cO ω a6 5 (kV (F_X5_remember Θ a6 a7 ω n) (fun ω n => rA ω l0 10 0 (fun a9 => rA ω a9 0 11 (fun a10 => sI ω (gI Θ) a10 l1 (-1) (fun ω => rA ω l0 10 0 (fun a11 => rA ω a11 0 10 (fun a12 => sI ω (gI Θ) a12 x4 (-1) (fun ω => some (.inl (some (.int x4), ω, n))))))))))))) else (some (.inr ("java/lang/IllegalStateException", ω))))))))
theorem ok_X10_down (Θ : GP) (l0 : Nat) (l1 : Int32) (ω : OW) (n : Nat) : Ok Θ 7 2 12 yX10_down cX10_down 3 (some .int) [.ref l0, .int l1] ω n (F_X10_down Θ l0 l1 ω n) := by
  refine Ok.of (by decide +kernel) (Nat.le_of_ble_eq_true rfl) (fun r h => ?_)
  unfold F_X10_down at h
  show GR Θ yX10_down cX10_down 3 (some .int) 7 (2, 12) 0 [(0, .ref l0), (1, .int l1)] [] ω n r
  refine g_aload_n dX10_down_0 rfl 0 rfl ?_
  refine g_iload_n dX10_down_1 rfl 1 rfl ?_
  refine g_cV (ci := 10) (As := [.int l1]) mv_X10_175 dX10_down_2 rfl (ok_X10_needSlot Θ l0 l1 _ _) rfl rfl (Nat.le_of_ble_eq_true rfl) (by decide) (by decide) (by decide) h (fun ω n h => ?_)
  refine G.less (B' := (1, 6)) (by decide) (by decide) ?_
  refine g_aload_n dX10_down_5 rfl 0 rfl ?_
  refine g_rA fl_X10_48 dX10_down_6 h (fun a2 h => ?_)
  refine g_rA fl_X10_178 dX10_down_9 h (fun a3 h => ?_)
  refine g_iload_n dX10_down_12 rfl 1 rfl ?_
  refine g_lIi dX10_down_13 h (fun x4 h => ?_)
  refine g_istore_n (lv' := [(2, .int x4), (0, .ref l0), (1, .int l1)]) dX10_down_14 rfl (by decide) rfl ?_
  refine g_iload_n dX10_down_15 rfl 0 rfl ?_
  refine g_if_ge (tgt := 30) dX10_down_16 (by decide) (fun c5 => ?_) (fun c5 => ?_)
  · rw [if_pos c5] at h
    refine g_aload_n dX10_down_30 rfl 1 rfl ?_
    refine g_rA fl_X10_61 dX10_down_31 h (fun a6 h => ?_)
    refine g_aload_n dX10_down_34 rfl 1 rfl ?_
    refine g_rA fl_X10_48 dX10_down_35 h (fun a7 h => ?_)
    refine g_cV (ci := 5) (As := [.ref a7]) mv_X10_221 dX10_down_38 rfl (ok_X5_remember Θ a6 a7 _ _) rfl rfl (Nat.le_of_ble_eq_true rfl) (by decide) (by decide) (by decide) h (fun ω n h => ?_)
    refine G.less (B' := (1, 6)) (by decide) (by decide) ?_
    refine g_aload_n dX10_down_41 rfl 1 rfl ?_
    refine g_rA fl_X10_48 dX10_down_42 h (fun a9 h => ?_)
    refine g_rA fl_X10_178 dX10_down_45 h (fun a10 h => ?_)
    refine g_iload_n dX10_down_48 rfl 2 rfl ?_
    refine g_iconst (v := (-1)) dX10_down_49 (by decide) ?_
    refine g_sIi dX10_down_50 h (fun ω h => ?_)
    refine g_aload_n dX10_down_51 rfl 1 rfl ?_
    refine g_rA fl_X10_48 dX10_down_52 h (fun a11 h => ?_)
    refine g_rA fl_X10_167 dX10_down_55 h (fun a12 h => ?_)
    refine g_iload_n dX10_down_58 rfl 0 rfl ?_
    refine g_iconst (v := (-1)) dX10_down_59 (by decide) ?_
    refine g_sIi dX10_down_60 h (fun ω h => ?_)
    refine g_iload_n dX10_down_61 rfl 0 rfl ?_
    cases h
    exact g_iret rfl dX10_down_62 rfl
  · rw [if_neg c5] at h
    cases h
    exact g_throwW (q := 28) th_X10_262_266 rfl dX10_down_19 dX10_down_22 dX10_down_23 dX10_down_26 dX10_down_29 rfl (by decide) (by decide) (by decide) (Nat.le_of_ble_eq_true rfl) (fun _ _ => rfl)
def F_X10_mend (Θ : GP) (l0 : Nat) (l1 : Int32) (ω : OW) (n : Nat) : RO := cO ω l0 10 (kV (F_X10_needProp Θ l0 l1 ω n) (fun ω n => rA ω l0 10 4 (fun a2 => rA ω l0 10 0 (fun a3 => cO ω a2 5 (kV (F_X5_remember Θ a2 a3 ω n) (fun ω n => rA ω l0 10 0 (fun a5 => rA ω a5 0 9 (fun a6 => lI ω (gI Θ) a6 l1 (fun x7 => rA ω l0 10 0 (fun a8 => rA ω a8 0 9 (fun a9 => sI ω (gI Θ) a9 l1 0 (fun ω => some (.inl (some (.int x7), ω, n))))))))))))))
theorem ok_X10_mend (Θ : GP) (l0 : Nat) (l1 : Int32) (ω : OW) (n : Nat) : Ok Θ 7 1 6 yX10_mend cX10_mend 3 (some .int) [.ref l0, .int l1] ω n (F_X10_mend Θ l0 l1 ω n) := by
  refine Ok.of (by decide +kernel) (Nat.le_of_ble_eq_true rfl) (fun r h => ?_)
  unfold F_X10_mend at h
  show GR Θ yX10_mend cX10_mend 3 (some .int) 7 (1, 6) 0 [(0, .ref l0), (1, .int l1)] [] ω n r
  refine g_aload_n dX10_mend_0 rfl 0 rfl ?_
  refine g_iload_n dX10_mend_1 rfl 1 rfl ?_
  refine g_cV (ci := 10) (As := [.int l1]) mv_X10_155 dX10_mend_2 rfl (ok_X10_needProp Θ l0 l1 _ _) rfl rfl (Nat.le_of_ble_eq_true rfl) (by decide) (by decide) (by decide) h (fun ω n h => ?_)
  refine G.less (B' := (0, 0)) (by decide) (by decide) ?_
  refine g_aload_n dX10_mend_5 rfl 0 rfl ?_
  refine g_rA fl_X10_61 dX10_mend_6 h (fun a2 h => ?_)
  refine g_aload_n dX10_mend_9 rfl 0 rfl ?_
  refine g_rA fl_X10_48 dX10_mend_10 h (fun a3 h => ?_)
  refine g_cV (ci := 5) (As := [.ref a3]) mv_X10_221 dX10_mend_13 rfl (ok_X5_remember Θ a2 a3 _ _) rfl rfl (Nat.le_of_ble_eq_true rfl) (by decide) (by decide) (by decide) h (fun ω n h => ?_)
  refine G.less (B' := (0, 0)) (by decide) (by decide) ?_
  refine g_aload_n dX10_mend_16 rfl 0 rfl ?_
  refine g_rA fl_X10_48 dX10_mend_17 h (fun a5 h => ?_)
  refine g_rA fl_X10_164 dX10_mend_20 h (fun a6 h => ?_)
  refine g_iload_n dX10_mend_23 rfl 1 rfl ?_
  refine g_lIi dX10_mend_24 h (fun x7 h => ?_)
  refine g_istore_n (lv' := [(2, .int x7), (0, .ref l0), (1, .int l1)]) dX10_mend_25 rfl (by decide) rfl ?_
  refine g_aload_n dX10_mend_26 rfl 1 rfl ?_
  refine g_rA fl_X10_48 dX10_mend_27 h (fun a8 h => ?_)
  refine g_rA fl_X10_164 dX10_mend_30 h (fun a9 h => ?_)
  refine g_iload_n dX10_mend_33 rfl 2 rfl ?_
  refine g_iconst (v := 0) dX10_mend_34 (by decide) ?_
  refine g_sIi dX10_mend_35 h (fun ω h => ?_)
  refine g_iload_n dX10_mend_36 rfl 0 rfl ?_
  cases h
  exact g_iret rfl dX10_mend_37 rfl
def F_X10_recall (Θ : GP) (l0 : Nat) (l1 : Int32) (ω : OW) (n : Nat) : RO := cO ω l0 10 (kV (F_X10_needOne Θ l0 l1 ω n) (fun ω n => cO ω l0 10 (kV (F_X10_needState Θ l0 l1 2 ω n) (fun ω n => rA ω l0 10 4 (fun a3 => rA ω l0 10 0 (fun a4 => cO ω a3 5 (kV (F_X5_remember Θ a3 a4 ω n) (fun ω n => rA ω l0 10 0 (fun a6 => rA ω a6 0 15 (fun a7 => sI ω (gI Θ) a7 l1 0 (fun ω => some (.inl (none, ω, n)))))))))))))
theorem ok_X10_recall (Θ : GP) (l0 : Nat) (l1 : Int32) (ω : OW) (n : Nat) : Ok Θ 7 2 12 yX10_recall cX10_recall 2 (none : Option Jvm.ClassFile.FieldType) [.ref l0, .int l1] ω n (F_X10_recall Θ l0 l1 ω n) := by
  refine Ok.of (by decide +kernel) (Nat.le_of_ble_eq_true rfl) (fun r h => ?_)
  unfold F_X10_recall at h
  show GR Θ yX10_recall cX10_recall 2 (none : Option Jvm.ClassFile.FieldType) 7 (2, 12) 0 [(0, .ref l0), (1, .int l1)] [] ω n r
  refine g_aload_n dX10_recall_0 rfl 0 rfl ?_
  refine g_iload_n dX10_recall_1 rfl 1 rfl ?_
  refine g_cV (ci := 10) (As := [.int l1]) mv_X10_181 dX10_recall_2 rfl (ok_X10_needOne Θ l0 l1 _ _) rfl rfl (Nat.le_of_ble_eq_true rfl) (by decide) (by decide) (by decide) h (fun ω n h => ?_)
  refine G.less (B' := (1, 6)) (by decide) (by decide) ?_
  refine g_aload_n dX10_recall_5 rfl 0 rfl ?_
  refine g_iload_n dX10_recall_6 rfl 1 rfl ?_
  refine g_iconst (v := 2) dX10_recall_7 (by decide) ?_
  refine g_cV (ci := 10) (As := [.int l1, .int 2]) mv_X10_217 dX10_recall_8 rfl (ok_X10_needState Θ l0 l1 2 _ _) rfl rfl (Nat.le_of_ble_eq_true rfl) (by decide) (by decide) (by decide) h (fun ω n h => ?_)
  refine G.less (B' := (0, 0)) (by decide) (by decide) ?_
  refine g_aload_n dX10_recall_11 rfl 0 rfl ?_
  refine g_rA fl_X10_61 dX10_recall_12 h (fun a3 h => ?_)
  refine g_aload_n dX10_recall_15 rfl 0 rfl ?_
  refine g_rA fl_X10_48 dX10_recall_16 h (fun a4 h => ?_)
  refine g_cV (ci := 5) (As := [.ref a4]) mv_X10_221 dX10_recall_19 rfl (ok_X5_remember Θ a3 a4 _ _) rfl rfl (Nat.le_of_ble_eq_true rfl) (by decide) (by decide) (by decide) h (fun ω n h => ?_)
  refine G.less (B' := (0, 0)) (by decide) (by decide) ?_
  refine g_aload_n dX10_recall_22 rfl 0 rfl ?_
  refine g_rA fl_X10_48 dX10_recall_23 h (fun a6 h => ?_)
  refine g_rA fl_X10_193 dX10_recall_26 h (fun a7 h => ?_)
  refine g_iload_n dX10_recall_29 rfl 1 rfl ?_
  refine g_iconst (v := 0) dX10_recall_30 (by decide) ?_
  refine g_sIi dX10_recall_31 h (fun ω h => ?_)
  cases h
  exact g_vret rfl dX10_recall_32 rfl
def F_X10_inside (Θ : GP) (l0 : Nat) (l1 : Int32) (ω : OW) (n : Nat) : RO := cO ω l0 10 (kV (F_X10_needOne Θ l0 l1 ω n) (fun ω n => cO ω l0 10 (kV (F_X10_needState Θ l0 l1 0 ω n) (fun ω n => rA ω l0 10 4 (fun a3 => rA ω l0 10 0 (fun a4 => cO ω a3 5 (kV (F_X5_remember Θ a3 a4 ω n) (fun ω n => rA ω l0 10 0 (fun a6 => rA ω a6 0 15 (fun a7 => sI ω (gI Θ) a7 l1 3 (fun ω => rA ω l0 10 0 (fun a8 => cO ω a8 0 (kI (F_X0_peopleOf Θ a8 3 ω n) (fun x9 ω n => kI (F_J6_bitCount_0f7a4 Θ x9 ω n) (fun x10 ω n => some (.inl (some (.int x10), ω, n)))))))))))))))))
theorem ok_X10_inside (Θ : GP) (l0 : Nat) (l1 : Int32) (ω : OW) (n : Nat) : Ok Θ 7 2 12 yX10_inside cX10_inside 2 (some .int) [.ref l0, .int l1] ω n (F_X10_inside Θ l0 l1 ω n) := by
  refine Ok.of (by decide +kernel) (Nat.le_of_ble_eq_true rfl) (fun r h => ?_)
  unfold F_X10_inside at h
  show GR Θ yX10_inside cX10_inside 2 (some .int) 7 (2, 12) 0 [(0, .ref l0), (1, .int l1)] [] ω n r
  refine g_aload_n dX10_inside_0 rfl 0 rfl ?_
  refine g_iload_n dX10_inside_1 rfl 1 rfl ?_
  refine g_cV (ci := 10) (As := [.int l1]) mv_X10_181 dX10_inside_2 rfl (ok_X10_needOne Θ l0 l1 _ _) rfl rfl (Nat.le_of_ble_eq_true rfl) (by decide) (by decide) (by decide) h (fun ω n h => ?_)
  refine G.less (B' := (1, 6)) (by decide) (by decide) ?_
  refine g_aload_n dX10_inside_5 rfl 0 rfl ?_
  refine g_iload_n dX10_inside_6 rfl 1 rfl ?_
  refine g_iconst (v := 0) dX10_inside_7 (by decide) ?_
  refine g_cV (ci := 10) (As := [.int l1, .int 0]) mv_X10_217 dX10_inside_8 rfl (ok_X10_needState Θ l0 l1 0 _ _) rfl rfl (Nat.le_of_ble_eq_true rfl) (by decide) (by decide) (by decide) h (fun ω n h => ?_)
  refine G.less (B' := (0, 0)) (by decide) (by decide) ?_
  refine g_aload_n dX10_inside_11 rfl 0 rfl ?_
  refine g_rA fl_X10_61 dX10_inside_12 h (fun a3 h => ?_)
  refine g_aload_n dX10_inside_15 rfl 0 rfl ?_
  refine g_rA fl_X10_48 dX10_inside_16 h (fun a4 h => ?_)
  refine g_cV (ci := 5) (As := [.ref a4]) mv_X10_221 dX10_inside_19 rfl (ok_X5_remember Θ a3 a4 _ _) rfl rfl (Nat.le_of_ble_eq_true rfl) (by decide) (by decide) (by decide) h (fun ω n h => ?_)
  refine G.less (B' := (0, 0)) (by decide) (by decide) ?_
  refine g_aload_n dX10_inside_22 rfl 0 rfl ?_
  refine g_rA fl_X10_48 dX10_inside_23 h (fun a6 h => ?_)
  refine g_rA fl_X10_193 dX10_inside_26 h (fun a7 h => ?_)
  refine g_iload_n dX10_inside_29 rfl 1 rfl ?_
  refine g_iconst (v := 3) dX10_inside_30 (by decide) ?_
  refine g_sIi dX10_inside_31 h (fun ω h => ?_)
  refine g_aload_n dX10_inside_32 rfl 0 rfl ?_
  refine g_rA fl_X10_48 dX10_inside_33 h (fun a8 h => ?_)
  refine g_iconst (v := 3) dX10_inside_36 (by decide) ?_
  refine g_cI (ci := 0) (As := [.int 3]) mv_X10_272 dX10_inside_37 rfl (ok_X0_peopleOf Θ a8 3 _ _) rfl rfl (Nat.le_of_ble_eq_true rfl) (by decide) (by decide) (by decide) h (fun x9 ω n h => ?_)
  refine G.less (B' := (0, 0)) (by decide) (by decide) ?_
  refine g_sI (As := [.int x9]) ms_X10_276 dX10_inside_40 (ok_J6_bitCount_0f7a4 Θ x9 _ _) rfl rfl (Nat.le_of_ble_eq_true rfl) (by decide) (by decide) (by decide) h (fun x10 ω n h => ?_)
  refine G.less (B' := (0, 0)) (by decide) (by decide) ?_
  cases h
  exact g_iret rfl dX10_inside_43 rfl
def J_X10_calm_10 (Θ : GP) (ω : OW) (n : Nat) : RO := some (.inr ("java/lang/IllegalArgumentException", ω))
def F_X10_calm (Θ : GP) (l0 : Nat) (l1 : Int32) (ω : OW) (n : Nat) : RO := if l1 < 0 then (J_X10_calm_10 Θ ω n) else (if l1 ≤ 9 then (rA ω l0 10 4 (fun a3 => rA ω l0 10 0 (fun a4 => cO ω a3 5 (kV (F_X5_remember Θ a3 a4 ω n) (fun ω n => rA ω l0 10 0 (fun a6 => rI ω a6 0 3 (fun x7 => rA ω l0 10 0 (fun a8 => wF ω a8 0 3 (.int l1) (fun ω => some (.inl (some (.int x7), ω, n))))))))))) else (J_X10_calm_10 Θ ω n))
theorem ok_J_X10_calm_10 (Θ : GP) (ω : OW) (n : Nat) (r : Out) (h : J_X10_calm_10 Θ ω n = some r) : GR Θ yX10_calm cX10_calm 3 (some .int) 6 (1, 6) 10 [] [] ω n r := by
  unfold J_X10_calm_10 at h
  cases h
  exact g_throwW (q := 29) th_X10_125_129 rfl dX10_calm_10 dX10_calm_13 dX10_calm_14 dX10_calm_17 dX10_calm_20 rfl (by decide) (by decide) (by decide) (Nat.le_of_ble_eq_true rfl) (fun _ _ => rfl)
theorem ok_X10_calm (Θ : GP) (l0 : Nat) (l1 : Int32) (ω : OW) (n : Nat) : Ok Θ 6 1 6 yX10_calm cX10_calm 3 (some .int) [.ref l0, .int l1] ω n (F_X10_calm Θ l0 l1 ω n) := by
  refine Ok.of (by decide +kernel) (Nat.le_of_ble_eq_true rfl) (fun r h => ?_)
  unfold F_X10_calm at h
  show GR Θ yX10_calm cX10_calm 3 (some .int) 6 (1, 6) 0 [(0, .ref l0), (1, .int l1)] [] ω n r
  refine g_iload_n dX10_calm_0 rfl 1 rfl ?_
  refine g_if_lt (tgt := 10) dX10_calm_1 (by decide) (fun c1 => ?_) (fun c1 => ?_)
  · rw [if_pos c1] at h
    refine G.lsub [] rfl ?_
    exact ok_J_X10_calm_10 Θ _ _ r h
  · rw [if_neg c1] at h
    refine g_iload_n dX10_calm_4 rfl 1 rfl ?_
    refine g_bipush (v := 9) dX10_calm_5 (by decide) ?_
    refine g_icmp_le (tgt := 21) dX10_calm_7 (by decide) (fun c2 => ?_) (fun c2 => ?_)
    · rw [if_pos c2] at h
      refine g_aload_n dX10_calm_21 rfl 0 rfl ?_
      refine g_rA fl_X10_61 dX10_calm_22 h (fun a3 h => ?_)
      refine g_aload_n dX10_calm_25 rfl 0 rfl ?_
      refine g_rA fl_X10_48 dX10_calm_26 h (fun a4 h => ?_)
      refine g_cV (ci := 5) (As := [.ref a4]) mv_X10_221 dX10_calm_29 rfl (ok_X5_remember Θ a3 a4 _ _) rfl rfl (Nat.le_of_ble_eq_true rfl) (by decide) (by decide) (by decide) h (fun ω n h => ?_)
      refine G.less (B' := (1, 6)) (by decide) (by decide) ?_
      refine g_aload_n dX10_calm_32 rfl 0 rfl ?_
      refine g_rA fl_X10_48 dX10_calm_33 h (fun a6 h => ?_)
      refine g_rI fl_X10_283 dX10_calm_36 h (fun x7 h => ?_)
      refine g_istore_n (lv' := [(2, .int x7), (0, .ref l0), (1, .int l1)]) dX10_calm_39 rfl (by decide) rfl ?_
      refine g_aload_n dX10_calm_40 rfl 1 rfl ?_
      refine g_rA fl_X10_48 dX10_calm_41 h (fun a8 h => ?_)
      refine g_iload_n dX10_calm_44 rfl 2 rfl ?_
      refine g_wF fl_X10_283 dX10_calm_45 (rfl) rfl h (fun ω h => ?_)
      refine g_iload_n dX10_calm_48 rfl 0 rfl ?_
      cases h
      exact g_iret rfl dX10_calm_49 rfl
    · rw [if_neg c2] at h
      refine G.lsub [] rfl ?_
      exact ok_J_X10_calm_10 Θ _ _ r h
def J_X10_mornings_118 (Θ : GP) (k_59 : Nat → Int32 → Int32 → Int32 → OW → Nat → RO) (l0 : Nat) (l1 : Int32) (l2 : Int32) (l3 : Int32) (ω : OW) (n : Nat) : RO := k_59 l0 l1 l2 (l3 + 1) ω n
def B_X10_mornings_59 (Θ : GP) (k_59 : Nat → Int32 → Int32 → Int32 → OW → Nat → RO) (l0 : Nat) (l1 : Int32) (l2 : Int32) (l3 : Int32) (ω : OW) (n : Nat) : RO := rA ω l0 10 0 (fun a1 => rI ω a1 0 0 (fun x2 => if x2 ≤ l3 then (some (.inl (some (.int l2), ω, n))) else (rA ω l0 10 0 (fun a4 => rA ω a4 0 10 (fun a5 => lI ω (gI Θ) a5 l3 (fun x6 => if x6 < 0 then (J_X10_mornings_118 Θ k_59 l0 l1 l2 l3 ω n) else (rA ω l0 10 0 (fun a8 => rA ω a8 0 9 (fun a9 => rA ω l0 10 0 (fun a10 => rA ω a10 0 9 (fun a11 => lI ω (gI Θ) a11 l3 (fun x12 => sI ω (gI Θ) a9 l3 (if 0 < (x12 - l1) then (x12 - l1) else 0) (fun ω => rA ω l0 10 0 (fun a13 => rA ω a13 0 9 (fun a14 => lI ω (gI Θ) a14 l3 (fun x15 => J_X10_mornings_118 Θ k_59 l0 l1 (l2 + x15) l3 ω n))))))))))))))))
def L_X10_mornings_59 (Θ : GP) : Nat → Nat → Int32 → Int32 → Int32 → OW → Nat → RO
  | 0, _, _, _, _, _, _ => none
  | f + 1, l0, l1, l2, l3, ω, n => B_X10_mornings_59 Θ (L_X10_mornings_59 Θ f) l0 l1 l2 l3 ω n
def J_X10_mornings_11 (Θ : GP) (ω : OW) (n : Nat) : RO := some (.inr ("java/lang/IllegalArgumentException", ω))
def F_X10_mornings (Θ : GP) (l0 : Nat) (l1 : Int32) (ω : OW) (n : Nat) : RO := if l1 < 1 then (J_X10_mornings_11 Θ ω n) else (if l1 ≤ 60 then (rA ω l0 10 4 (fun a18 => rA ω l0 10 0 (fun a19 => cO ω a18 5 (kV (F_X5_remember Θ a18 a19 ω n) (fun ω n => rA ω l0 10 0 (fun a21 => rA ω l0 10 0 (fun a22 => rI ω a22 0 5 (fun x23 => wF ω a21 0 5 (.int (if (x23 + l1) < 9999 then (x23 + l1) else 9999)) (fun ω => L_X10_mornings_59 Θ 5000 l0 l1 0 0 ω n))))))))) else (J_X10_mornings_11 Θ ω n))
theorem ok_J_X10_mornings_118 (Θ : GP) (k_59 : Nat → Int32 → Int32 → Int32 → OW → Nat → RO) (hk_59 : ∀ l0 l1 l2 l3 ω n r, k_59 l0 l1 l2 l3 ω n = some r → GR Θ yX10_mornings cX10_mornings 4 (some .int) 6 (0, 0) 59 [(0, .ref l0), (1, .int l1), (2, .int l2), (3, .int l3)] [] ω n r) (l0 : Nat) (l1 : Int32) (l2 : Int32) (l3 : Int32) (ω : OW) (n : Nat) (r : Out) (h : J_X10_mornings_118 Θ k_59 l0 l1 l2 l3 ω n = some r) : GR Θ yX10_mornings cX10_mornings 4 (some .int) 6 (0, 0) 118 [(0, .ref l0), (1, .int l1), (2, .int l2), (3, .int l3)] [] ω n r := by
  unfold J_X10_mornings_118 at h
  refine g_iinc (j := 3) (v := l3 + 1) (lv' := [(3, .int (l3 + 1)), (0, .ref l0), (1, .int l1), (2, .int l2)]) dX10_mornings_118 rfl rfl (by decide) rfl ?_
  refine g_goto (tgt := 59) dX10_mornings_121 (by decide) ?_
  refine G.lsub [1, 2, 3, 0] rfl ?_
  exact hk_59 l0 l1 l2 (l3 + 1) _ _ r h
theorem ok_B_X10_mornings_59 (Θ : GP) (k_59 : Nat → Int32 → Int32 → Int32 → OW → Nat → RO) (hk_59 : ∀ l0 l1 l2 l3 ω n r, k_59 l0 l1 l2 l3 ω n = some r → GR Θ yX10_mornings cX10_mornings 4 (some .int) 6 (0, 0) 59 [(0, .ref l0), (1, .int l1), (2, .int l2), (3, .int l3)] [] ω n r) (l0 : Nat) (l1 : Int32) (l2 : Int32) (l3 : Int32) (ω : OW) (n : Nat) (r : Out) (h : B_X10_mornings_59 Θ k_59 l0 l1 l2 l3 ω n = some r) : GR Θ yX10_mornings cX10_mornings 4 (some .int) 6 (0, 0) 59 [(0, .ref l0), (1, .int l1), (2, .int l2), (3, .int l3)] [] ω n r := by
  unfold B_X10_mornings_59 at h
  refine g_iload_n dX10_mornings_59 rfl 3 rfl ?_
  refine g_aload_n dX10_mornings_60 rfl 0 rfl ?_
  refine g_rA fl_X10_48 dX10_mornings_61 h (fun a1 h => ?_)
  refine g_rI fl_X10_294 dX10_mornings_64 h (fun x2 h => ?_)
  refine g_icmp_ge (tgt := 124) dX10_mornings_67 (by decide) (fun c3 => ?_) (fun c3 => ?_)
  · rw [if_pos c3] at h
    refine g_iload_n dX10_mornings_124 rfl 2 rfl ?_
    cases h
    exact g_iret rfl dX10_mornings_125 rfl
  · rw [if_neg c3] at h
    refine g_aload_n dX10_mornings_70 rfl 0 rfl ?_
    refine g_rA fl_X10_48 dX10_mornings_71 h (fun a4 h => ?_)
    refine g_rA fl_X10_167 dX10_mornings_74 h (fun a5 h => ?_)
    refine g_iload_n dX10_mornings_77 rfl 3 rfl ?_
    refine g_lIi dX10_mornings_78 h (fun x6 h => ?_)
    refine g_if_lt (tgt := 118) dX10_mornings_79 (by decide) (fun c7 => ?_) (fun c7 => ?_)
    · rw [if_pos c7] at h
      exact ok_J_X10_mornings_118 Θ k_59 hk_59 l0 l1 l2 l3 _ _ r h
    · rw [if_neg c7] at h
      refine g_aload_n dX10_mornings_82 rfl 0 rfl ?_
      refine g_rA fl_X10_48 dX10_mornings_83 h (fun a8 h => ?_)
      refine g_rA fl_X10_164 dX10_mornings_86 h (fun a9 h => ?_)
      refine g_iload_n dX10_mornings_89 rfl 3 rfl ?_
      refine g_iconst (v := 0) dX10_mornings_90 (by decide) ?_
      refine g_aload_n dX10_mornings_91 rfl 0 rfl ?_
      refine g_rA fl_X10_48 dX10_mornings_92 h (fun a10 h => ?_)
      refine g_rA fl_X10_164 dX10_mornings_95 h (fun a11 h => ?_)
      refine g_iload_n dX10_mornings_98 rfl 3 rfl ?_
      refine g_lIi dX10_mornings_99 h (fun x12 h => ?_)
      refine g_iload_n dX10_mornings_100 rfl 1 rfl ?_
      refine g_isub dX10_mornings_101 ?_
      refine g_max wd_1219 wd_610 wd_135 wd_611 dX10_mornings_102 (by decide) (Nat.le_of_ble_eq_true rfl) ?_
      refine g_sIi dX10_mornings_105 h (fun ω h => ?_)
      refine g_iload_n dX10_mornings_106 rfl 2 rfl ?_
      refine g_aload_n dX10_mornings_107 rfl 0 rfl ?_
      refine g_rA fl_X10_48 dX10_mornings_108 h (fun a13 h => ?_)
      refine g_rA fl_X10_164 dX10_mornings_111 h (fun a14 h => ?_)
      refine g_iload_n dX10_mornings_114 rfl 3 rfl ?_
      refine g_lIi dX10_mornings_115 h (fun x15 h => ?_)
      refine g_iadd dX10_mornings_116 ?_
      refine g_istore_n (lv' := [(2, .int (l2 + x15)), (0, .ref l0), (1, .int l1), (3, .int l3)]) dX10_mornings_117 rfl (by decide) rfl ?_
      refine G.lsub [1, 2, 0, 3] rfl ?_
      exact ok_J_X10_mornings_118 Θ k_59 hk_59 l0 l1 (l2 + x15) l3 _ _ r h
theorem ok_L_X10_mornings_59 (Θ : GP) : ∀ (f : Nat) (l0 : Nat) (l1 : Int32) (l2 : Int32) (l3 : Int32) (ω : OW) (n : Nat) (r : Out), L_X10_mornings_59 Θ f l0 l1 l2 l3 ω n = some r → GR Θ yX10_mornings cX10_mornings 4 (some .int) 6 (0, 0) 59 [(0, .ref l0), (1, .int l1), (2, .int l2), (3, .int l3)] [] ω n r := by
  intro f
  induction f with
  | zero =>
    intro l0 l1 l2 l3 ω n r h
    unfold L_X10_mornings_59 at h
    cases h
  | succ f ih =>
    intro l0 l1 l2 l3 ω n r h
    unfold L_X10_mornings_59 at h
    exact ok_B_X10_mornings_59 Θ (L_X10_mornings_59 Θ f) ih l0 l1 l2 l3 ω n r h
theorem ok_J_X10_mornings_11 (Θ : GP) (ω : OW) (n : Nat) (r : Out) (h : J_X10_mornings_11 Θ ω n = some r) : GR Θ yX10_mornings cX10_mornings 4 (some .int) 6 (1, 6) 11 [] [] ω n r := by
  unfold J_X10_mornings_11 at h
  cases h
  exact g_throwW (q := 30) th_X10_125_129 rfl dX10_mornings_11 dX10_mornings_14 dX10_mornings_15 dX10_mornings_18 dX10_mornings_21 rfl (by decide) (by decide) (by decide) (Nat.le_of_ble_eq_true rfl) (fun _ _ => rfl)
theorem ok_X10_mornings (Θ : GP) (l0 : Nat) (l1 : Int32) (ω : OW) (n : Nat) : Ok Θ 6 1 6 yX10_mornings cX10_mornings 4 (some .int) [.ref l0, .int l1] ω n (F_X10_mornings Θ l0 l1 ω n) := by
  refine Ok.of (by decide +kernel) (Nat.le_of_ble_eq_true rfl) (fun r h => ?_)
  unfold F_X10_mornings at h
  show GR Θ yX10_mornings cX10_mornings 4 (some .int) 6 (1, 6) 0 [(0, .ref l0), (1, .int l1)] [] ω n r
  refine g_iload_n dX10_mornings_0 rfl 1 rfl ?_
  refine g_iconst (v := 1) dX10_mornings_1 (by decide) ?_
  refine g_icmp_lt (tgt := 11) dX10_mornings_2 (by decide) (fun c16 => ?_) (fun c16 => ?_)
  · rw [if_pos c16] at h
    refine G.lsub [] rfl ?_
    exact ok_J_X10_mornings_11 Θ _ _ r h
  · rw [if_neg c16] at h
    refine g_iload_n dX10_mornings_5 rfl 1 rfl ?_
    refine g_bipush (v := 60) dX10_mornings_6 (by decide) ?_
    refine g_icmp_le (tgt := 22) dX10_mornings_8 (by decide) (fun c17 => ?_) (fun c17 => ?_)
    · rw [if_pos c17] at h
      refine g_aload_n dX10_mornings_22 rfl 0 rfl ?_
      refine g_rA fl_X10_61 dX10_mornings_23 h (fun a18 h => ?_)
      refine g_aload_n dX10_mornings_26 rfl 0 rfl ?_
      refine g_rA fl_X10_48 dX10_mornings_27 h (fun a19 h => ?_)
      refine g_cV (ci := 5) (As := [.ref a19]) mv_X10_221 dX10_mornings_30 rfl (ok_X5_remember Θ a18 a19 _ _) rfl rfl (Nat.le_of_ble_eq_true rfl) (by decide) (by decide) (by decide) h (fun ω n h => ?_)
      refine G.less (B' := (1, 6)) (by decide) (by decide) ?_
      refine g_aload_n dX10_mornings_33 rfl 0 rfl ?_
      refine g_rA fl_X10_48 dX10_mornings_34 h (fun a21 h => ?_)
      refine g_sipush (v := 9999) dX10_mornings_37 (by decide) ?_
      refine g_aload_n dX10_mornings_40 rfl 0 rfl ?_
      refine g_rA fl_X10_48 dX10_mornings_41 h (fun a22 h => ?_)
      refine g_rI fl_X10_250 dX10_mornings_44 h (fun x23 h => ?_)
      refine g_iload_n dX10_mornings_47 rfl 1 rfl ?_
      refine g_iadd dX10_mornings_48 ?_
      refine g_min wd_1218 wd_617 wd_135 wd_618 dX10_mornings_49 (by decide) (Nat.le_of_ble_eq_true rfl) ?_
      refine g_wF fl_X10_250 dX10_mornings_52 (rfl) rfl h (fun ω h => ?_)
      refine g_iconst (v := 0) dX10_mornings_55 (by decide) ?_
      refine g_istore_n (lv' := [(2, .int 0), (0, .ref l0), (1, .int l1)]) dX10_mornings_56 rfl (by decide) rfl ?_
      refine g_iconst (v := 0) dX10_mornings_57 (by decide) ?_
      refine g_istore_n (lv' := [(3, .int 0), (2, .int 0), (0, .ref l0), (1, .int l1)]) dX10_mornings_58 rfl (by decide) rfl ?_
      refine G.lsub [2, 3, 1, 0] rfl ?_
      refine G.less (B' := (0, 0)) (by decide) (by decide) ?_
      exact ok_L_X10_mornings_59 Θ 5000 l0 l1 0 0 _ _ r h
    · rw [if_neg c17] at h
      refine G.lsub [] rfl ?_
      exact ok_J_X10_mornings_11 Θ _ _ r h
def F_X10_rideStraight (Θ : GP) (l0 : Nat) (l1 : Int32) (ω : OW) (n : Nat) : RO := rA ω l0 10 8 (fun a1 => cO ω a1 6 (kV (F_X6_lay Θ a1 ω n) (fun ω n => rA ω l0 10 8 (fun a3 => cO ω a3 6 (kV (F_X6_board Θ a3 l1 ω n) (fun ω n => rA ω l0 10 8 (fun a5 => cO ω a5 6 (kV (F_X6_straightOn Θ a5 ω n) (fun ω n => some (.inl (none, ω, n)))))))))))
theorem ok_X10_rideStraight (Θ : GP) (l0 : Nat) (l1 : Int32) (ω : OW) (n : Nat) : Ok Θ 6 0 0 yX10_rideStraight cX10_rideStraight 2 (none : Option Jvm.ClassFile.FieldType) [.ref l0, .int l1] ω n (F_X10_rideStraight Θ l0 l1 ω n) := by
  refine Ok.of (by decide +kernel) (Nat.le_of_ble_eq_true rfl) (fun r h => ?_)
  unfold F_X10_rideStraight at h
  show GR Θ yX10_rideStraight cX10_rideStraight 2 (none : Option Jvm.ClassFile.FieldType) 6 (0, 0) 0 [(0, .ref l0), (1, .int l1)] [] ω n r
  refine g_aload_n dX10_rideStraight_0 rfl 0 rfl ?_
  refine g_rA fl_X10_88 dX10_rideStraight_1 h (fun a1 h => ?_)
  refine g_cV (ci := 6) (As := []) mv_X10_200 dX10_rideStraight_4 rfl (ok_X6_lay Θ a1 _ _) rfl rfl (Nat.le_of_ble_eq_true rfl) (by decide) (by decide) (by decide) h (fun ω n h => ?_)
  refine G.less (B' := (0, 0)) (by decide) (by decide) ?_
  refine g_aload_n dX10_rideStraight_7 rfl 0 rfl ?_
  refine g_rA fl_X10_88 dX10_rideStraight_8 h (fun a3 h => ?_)
  refine g_iload_n dX10_rideStraight_11 rfl 1 rfl ?_
  refine g_cV (ci := 6) (As := [.int l1]) mv_X10_203 dX10_rideStraight_12 rfl (ok_X6_board Θ a3 l1 _ _) rfl rfl (Nat.le_of_ble_eq_true rfl) (by decide) (by decide) (by decide) h (fun ω n h => ?_)
  refine G.less (B' := (0, 0)) (by decide) (by decide) ?_
  refine g_aload_n dX10_rideStraight_15 rfl 0 rfl ?_
  refine g_rA fl_X10_88 dX10_rideStraight_16 h (fun a5 h => ?_)
  refine g_cV (ci := 6) (As := []) mv_X10_374 dX10_rideStraight_19 rfl (ok_X6_straightOn Θ a5 _ _) rfl rfl (Nat.le_of_ble_eq_true rfl) (by decide) (by decide) (by decide) h (fun ω n h => ?_)
  refine G.less (B' := (0, 0)) (by decide) (by decide) ?_
  cases h
  exact g_vret rfl dX10_rideStraight_22 rfl
def F_X10_straight (Θ : GP) (l0 : Nat) (l1 : Int32) (ω : OW) (n : Nat) : RO := cO ω l0 10 (kV (F_X10_needOne Θ l0 l1 ω n) (fun ω n => cO ω l0 10 (kV (F_X10_rideStraight Θ l0 l1 ω n) (fun ω n => rA ω l0 10 8 (fun a3 => rI ω a3 6 8 (fun x4 => some (.inl (some (.int x4), ω, n))))))))
theorem ok_X10_straight (Θ : GP) (l0 : Nat) (l1 : Int32) (ω : OW) (n : Nat) : Ok Θ 7 1 6 yX10_straight cX10_straight 2 (some .int) [.ref l0, .int l1] ω n (F_X10_straight Θ l0 l1 ω n) := by
  refine Ok.of (by decide +kernel) (Nat.le_of_ble_eq_true rfl) (fun r h => ?_)
  unfold F_X10_straight at h
  show GR Θ yX10_straight cX10_straight 2 (some .int) 7 (1, 6) 0 [(0, .ref l0), (1, .int l1)] [] ω n r
  refine g_aload_n dX10_straight_0 rfl 0 rfl ?_
  refine g_iload_n dX10_straight_1 rfl 1 rfl ?_
  refine g_cV (ci := 10) (As := [.int l1]) mv_X10_181 dX10_straight_2 rfl (ok_X10_needOne Θ l0 l1 _ _) rfl rfl (Nat.le_of_ble_eq_true rfl) (by decide) (by decide) (by decide) h (fun ω n h => ?_)
  refine G.less (B' := (0, 0)) (by decide) (by decide) ?_
  refine g_aload_n dX10_straight_5 rfl 0 rfl ?_
  refine g_iload_n dX10_straight_6 rfl 1 rfl ?_
  refine g_cV (ci := 10) (As := [.int l1]) mv_X10_300 dX10_straight_7 rfl (ok_X10_rideStraight Θ l0 l1 _ _) rfl rfl (Nat.le_of_ble_eq_true rfl) (by decide) (by decide) (by decide) h (fun ω n h => ?_)
  refine G.less (B' := (0, 0)) (by decide) (by decide) ?_
  refine g_aload_n dX10_straight_10 rfl 0 rfl ?_
  refine g_rA fl_X10_88 dX10_straight_11 h (fun a3 h => ?_)
  refine g_rI fl_X10_243 dX10_straight_14 h (fun x4 h => ?_)
  cases h
  exact g_iret rfl dX10_straight_17 rfl
def F_X10_tense (Θ : GP) (l0 : Nat) (l1 : Int32) (l2 : Int32) (ω : OW) (n : Nat) : RO := cO ω l0 10 (kV (F_X10_needOne Θ l0 l1 ω n) (fun ω n => cO ω l0 10 (kV (F_X10_needSlot Θ l0 l2 ω n) (fun ω n => cO ω l0 10 (kV (F_X10_rideStraight Θ l0 l1 ω n) (fun ω n => rA ω l0 10 8 (fun a4 => rA ω a4 6 10 (fun a5 => lI ω (gI Θ) a5 l2 (fun x6 => some (.inl (some (.int x6), ω, n)))))))))))
theorem ok_X10_tense (Θ : GP) (l0 : Nat) (l1 : Int32) (l2 : Int32) (ω : OW) (n : Nat) : Ok Θ 7 2 12 yX10_tense cX10_tense 3 (some .int) [.ref l0, .int l1, .int l2] ω n (F_X10_tense Θ l0 l1 l2 ω n) := by
  refine Ok.of (by decide +kernel) (Nat.le_of_ble_eq_true rfl) (fun r h => ?_)
  unfold F_X10_tense at h
  show GR Θ yX10_tense cX10_tense 3 (some .int) 7 (2, 12) 0 [(0, .ref l0), (1, .int l1), (2, .int l2)] [] ω n r
  refine g_aload_n dX10_tense_0 rfl 0 rfl ?_
  refine g_iload_n dX10_tense_1 rfl 1 rfl ?_
  refine g_cV (ci := 10) (As := [.int l1]) mv_X10_181 dX10_tense_2 rfl (ok_X10_needOne Θ l0 l1 _ _) rfl rfl (Nat.le_of_ble_eq_true rfl) (by decide) (by decide) (by decide) h (fun ω n h => ?_)
  refine G.less (B' := (1, 6)) (by decide) (by decide) ?_
  refine g_aload_n dX10_tense_5 rfl 0 rfl ?_
  refine g_iload_n dX10_tense_6 rfl 2 rfl ?_
  refine g_cV (ci := 10) (As := [.int l2]) mv_X10_175 dX10_tense_7 rfl (ok_X10_needSlot Θ l0 l2 _ _) rfl rfl (Nat.le_of_ble_eq_true rfl) (by decide) (by decide) (by decide) h (fun ω n h => ?_)
  refine G.less (B' := (0, 0)) (by decide) (by decide) ?_
  refine g_aload_n dX10_tense_10 rfl 0 rfl ?_
  refine g_iload_n dX10_tense_11 rfl 1 rfl ?_
  refine g_cV (ci := 10) (As := [.int l1]) mv_X10_300 dX10_tense_12 rfl (ok_X10_rideStraight Θ l0 l1 _ _) rfl rfl (Nat.le_of_ble_eq_true rfl) (by decide) (by decide) (by decide) h (fun ω n h => ?_)
  refine G.less (B' := (0, 0)) (by decide) (by decide) ?_
  refine g_aload_n dX10_tense_15 rfl 0 rfl ?_
  refine g_rA fl_X10_88 dX10_tense_16 h (fun a4 h => ?_)
  refine g_rA fl_X10_303 dX10_tense_19 h (fun a5 h => ?_)
  refine g_iload_n dX10_tense_22 rfl 2 rfl ?_
  refine g_lIi dX10_tense_23 h (fun x6 h => ?_)
  cases h
  exact g_iret rfl dX10_tense_24 rfl
def F_X10_ways (Θ : GP) (l0 : Nat) (l1 : Int32) (ω : OW) (n : Nat) : RO := cO ω l0 10 (kV (F_X10_needOne Θ l0 l1 ω n) (fun ω n => rA ω l0 10 8 (fun a2 => cO ω a2 6 (kV (F_X6_lay Θ a2 ω n) (fun ω n => rA ω l0 10 10 (fun a4 => cO ω a4 9 (kV (F_X9_countOf Θ a4 l1 ω n) (fun ω n => rA ω l0 10 10 (fun a6 => rI ω a6 9 0 (fun x7 => some (.inl (some (.int x7), ω, n))))))))))))
theorem ok_X10_ways (Θ : GP) (l0 : Nat) (l1 : Int32) (ω : OW) (n : Nat) : Ok Θ 7 1 6 yX10_ways cX10_ways 2 (some .int) [.ref l0, .int l1] ω n (F_X10_ways Θ l0 l1 ω n) := by
  refine Ok.of (by decide +kernel) (Nat.le_of_ble_eq_true rfl) (fun r h => ?_)
  unfold F_X10_ways at h
  show GR Θ yX10_ways cX10_ways 2 (some .int) 7 (1, 6) 0 [(0, .ref l0), (1, .int l1)] [] ω n r
  refine g_aload_n dX10_ways_0 rfl 0 rfl ?_
  refine g_iload_n dX10_ways_1 rfl 1 rfl ?_
  refine g_cV (ci := 10) (As := [.int l1]) mv_X10_181 dX10_ways_2 rfl (ok_X10_needOne Θ l0 l1 _ _) rfl rfl (Nat.le_of_ble_eq_true rfl) (by decide) (by decide) (by decide) h (fun ω n h => ?_)
  refine G.less (B' := (0, 0)) (by decide) (by decide) ?_
  refine g_aload_n dX10_ways_5 rfl 0 rfl ?_
  refine g_rA fl_X10_88 dX10_ways_6 h (fun a2 h => ?_)
  refine g_cV (ci := 6) (As := []) mv_X10_200 dX10_ways_9 rfl (ok_X6_lay Θ a2 _ _) rfl rfl (Nat.le_of_ble_eq_true rfl) (by decide) (by decide) (by decide) h (fun ω n h => ?_)
  refine G.less (B' := (0, 0)) (by decide) (by decide) ?_
  refine g_aload_n dX10_ways_12 rfl 0 rfl ?_
  refine g_rA fl_X10_100 dX10_ways_13 h (fun a4 h => ?_)
  refine g_iload_n dX10_ways_16 rfl 1 rfl ?_
  refine g_cV (ci := 9) (As := [.int l1]) mv_X10_306 dX10_ways_17 rfl (ok_X9_countOf Θ a4 l1 _ _) rfl rfl (Nat.le_of_ble_eq_true rfl) (by decide) (by decide) (by decide) h (fun ω n h => ?_)
  refine G.less (B' := (0, 0)) (by decide) (by decide) ?_
  refine g_aload_n dX10_ways_20 rfl 0 rfl ?_
  refine g_rA fl_X10_100 dX10_ways_21 h (fun a6 h => ?_)
  refine g_rI fl_X10_309 dX10_ways_24 h (fun x7 h => ?_)
  cases h
  exact g_iret rfl dX10_ways_27 rfl
def F_X10_at (Θ : GP) (l0 : Nat) (l1 : Int32) (l2 : Int32) (ω : OW) (n : Nat) : RO := cO ω l0 10 (kV (F_X10_needOne Θ l0 l1 ω n) (fun ω n => cO ω l0 10 (kV (F_X10_needSlot Θ l0 l2 ω n) (fun ω n => rA ω l0 10 8 (fun a3 => cO ω a3 6 (kV (F_X6_lay Θ a3 ω n) (fun ω n => rA ω l0 10 10 (fun a5 => cO ω a5 9 (kV (F_X9_countOf Θ a5 l1 ω n) (fun ω n => rA ω l0 10 10 (fun a7 => rA ω a7 9 1 (fun a8 => lI ω (gI Θ) a8 l2 (fun x9 => some (.inl (some (.int x9), ω, n)))))))))))))))
theorem ok_X10_at (Θ : GP) (l0 : Nat) (l1 : Int32) (l2 : Int32) (ω : OW) (n : Nat) : Ok Θ 7 2 12 yX10_at cX10_at 3 (some .int) [.ref l0, .int l1, .int l2] ω n (F_X10_at Θ l0 l1 l2 ω n) := by
  refine Ok.of (by decide +kernel) (Nat.le_of_ble_eq_true rfl) (fun r h => ?_)
  unfold F_X10_at at h
  show GR Θ yX10_at cX10_at 3 (some .int) 7 (2, 12) 0 [(0, .ref l0), (1, .int l1), (2, .int l2)] [] ω n r
  refine g_aload_n dX10_at_0 rfl 0 rfl ?_
  refine g_iload_n dX10_at_1 rfl 1 rfl ?_
  refine g_cV (ci := 10) (As := [.int l1]) mv_X10_181 dX10_at_2 rfl (ok_X10_needOne Θ l0 l1 _ _) rfl rfl (Nat.le_of_ble_eq_true rfl) (by decide) (by decide) (by decide) h (fun ω n h => ?_)
  refine G.less (B' := (1, 6)) (by decide) (by decide) ?_
  refine g_aload_n dX10_at_5 rfl 0 rfl ?_
  refine g_iload_n dX10_at_6 rfl 2 rfl ?_
  refine g_cV (ci := 10) (As := [.int l2]) mv_X10_175 dX10_at_7 rfl (ok_X10_needSlot Θ l0 l2 _ _) rfl rfl (Nat.le_of_ble_eq_true rfl) (by decide) (by decide) (by decide) h (fun ω n h => ?_)
  refine G.less (B' := (0, 0)) (by decide) (by decide) ?_
  refine g_aload_n dX10_at_10 rfl 0 rfl ?_
  refine g_rA fl_X10_88 dX10_at_11 h (fun a3 h => ?_)
  refine g_cV (ci := 6) (As := []) mv_X10_200 dX10_at_14 rfl (ok_X6_lay Θ a3 _ _) rfl rfl (Nat.le_of_ble_eq_true rfl) (by decide) (by decide) (by decide) h (fun ω n h => ?_)
  refine G.less (B' := (0, 0)) (by decide) (by decide) ?_
  refine g_aload_n dX10_at_17 rfl 0 rfl ?_
  refine g_rA fl_X10_100 dX10_at_18 h (fun a5 h => ?_)
  refine g_iload_n dX10_at_21 rfl 1 rfl ?_
  refine g_cV (ci := 9) (As := [.int l1]) mv_X10_306 dX10_at_22 rfl (ok_X9_countOf Θ a5 l1 _ _) rfl rfl (Nat.le_of_ble_eq_true rfl) (by decide) (by decide) (by decide) h (fun ω n h => ?_)
  refine G.less (B' := (0, 0)) (by decide) (by decide) ?_
  refine g_aload_n dX10_at_25 rfl 0 rfl ?_
  refine g_rA fl_X10_100 dX10_at_26 h (fun a7 h => ?_)
  refine g_rA fl_X10_312 dX10_at_29 h (fun a8 h => ?_)
  refine g_iload_n dX10_at_32 rfl 2 rfl ?_
  refine g_lIi dX10_at_33 h (fun x9 h => ?_)
  cases h
  exact g_iret rfl dX10_at_34 rfl
def F_X10_odds (Θ : GP) (l0 : Nat) (l1 : Int32) (ω : OW) (n : Nat) : RO := cO ω l0 10 (kV (F_X10_needOne Θ l0 l1 ω n) (fun ω n => rA ω l0 10 8 (fun a2 => cO ω a2 6 (kV (F_X6_lay Θ a2 ω n) (fun ω n => rA ω l0 10 10 (fun a4 => cO ω a4 9 (kI (F_X9_oddsOf Θ a4 l1 ω n) (fun x5 ω n => some (.inl (some (.int x5), ω, n))))))))))
theorem ok_X10_odds (Θ : GP) (l0 : Nat) (l1 : Int32) (ω : OW) (n : Nat) : Ok Θ 7 1 6 yX10_odds cX10_odds 2 (some .int) [.ref l0, .int l1] ω n (F_X10_odds Θ l0 l1 ω n) := by
  refine Ok.of (by decide +kernel) (Nat.le_of_ble_eq_true rfl) (fun r h => ?_)
  unfold F_X10_odds at h
  show GR Θ yX10_odds cX10_odds 2 (some .int) 7 (1, 6) 0 [(0, .ref l0), (1, .int l1)] [] ω n r
  refine g_aload_n dX10_odds_0 rfl 0 rfl ?_
  refine g_iload_n dX10_odds_1 rfl 1 rfl ?_
  refine g_cV (ci := 10) (As := [.int l1]) mv_X10_181 dX10_odds_2 rfl (ok_X10_needOne Θ l0 l1 _ _) rfl rfl (Nat.le_of_ble_eq_true rfl) (by decide) (by decide) (by decide) h (fun ω n h => ?_)
  refine G.less (B' := (0, 0)) (by decide) (by decide) ?_
  refine g_aload_n dX10_odds_5 rfl 0 rfl ?_
  refine g_rA fl_X10_88 dX10_odds_6 h (fun a2 h => ?_)
  refine g_cV (ci := 6) (As := []) mv_X10_200 dX10_odds_9 rfl (ok_X6_lay Θ a2 _ _) rfl rfl (Nat.le_of_ble_eq_true rfl) (by decide) (by decide) (by decide) h (fun ω n h => ?_)
  refine G.less (B' := (0, 0)) (by decide) (by decide) ?_
  refine g_aload_n dX10_odds_12 rfl 0 rfl ?_
  refine g_rA fl_X10_100 dX10_odds_13 h (fun a4 h => ?_)
  refine g_iload_n dX10_odds_16 rfl 1 rfl ?_
  refine g_cI (ci := 9) (As := [.int l1]) mv_X10_315 dX10_odds_17 rfl (ok_X9_oddsOf Θ a4 l1 _ _) rfl rfl (Nat.le_of_ble_eq_true rfl) (by decide) (by decide) (by decide) h (fun x5 ω n h => ?_)
  refine G.less (B' := (0, 0)) (by decide) (by decide) ?_
  cases h
  exact g_iret rfl dX10_odds_20 rfl
def J_X10_gapAsLaid_55 (Θ : GP) (k_4 : Nat → Int32 → Int32 → OW → Nat → RO) (l0 : Nat) (l1 : Int32) (l2 : Int32) (ω : OW) (n : Nat) : RO := k_4 l0 l1 (l2 + 1) ω n
def J_X10_gapAsLaid_53 (Θ : GP) (k_4 : Nat → Int32 → Int32 → OW → Nat → RO) (l0 : Nat) (l2 : Int32) (s0 : Int32) (s1 : Int32) (ω : OW) (n : Nat) : RO := J_X10_gapAsLaid_55 Θ k_4 l0 (s1 + s0) l2 ω n
def B_X10_gapAsLaid_4 (Θ : GP) (k_4 : Nat → Int32 → Int32 → OW → Nat → RO) (l0 : Nat) (l1 : Int32) (l2 : Int32) (ω : OW) (n : Nat) : RO := rA ω l0 10 0 (fun a1 => rI ω a1 0 1 (fun x2 => if x2 ≤ l2 then (some (.inl (some (.int l1), ω, n))) else (rA ω l0 10 0 (fun a4 => cO ω a4 0 (kI (F_X0_waits Θ a4 l2 ω n) (fun x5 ω n => if x5 = 0 then (J_X10_gapAsLaid_55 Θ k_4 l0 l1 l2 ω n) else (rA ω l0 10 10 (fun a7 => cO ω a7 9 (kI (F_X9_oddsOf Θ a7 l2 ω n) (fun x8 ω n => rA ω l0 10 0 (fun a9 => cO ω a9 0 (kI (F_X0_isInnocent Θ a9 l2 ω n) (fun x10 ω n => if x10 = 0 then (J_X10_gapAsLaid_53 Θ k_4 l0 l2 (-x8) l1 ω n) else (J_X10_gapAsLaid_53 Θ k_4 l0 l2 x8 l1 ω n))))))))))))))
def L_X10_gapAsLaid_4 (Θ : GP) : Nat → Nat → Int32 → Int32 → OW → Nat → RO
  | 0, _, _, _, _, _ => none
  | f + 1, l0, l1, l2, ω, n => B_X10_gapAsLaid_4 Θ (L_X10_gapAsLaid_4 Θ f) l0 l1 l2 ω n
def F_X10_gapAsLaid (Θ : GP) (l0 : Nat) (ω : OW) (n : Nat) : RO := L_X10_gapAsLaid_4 Θ 5000 l0 0 0 ω n
theorem ok_J_X10_gapAsLaid_55 (Θ : GP) (k_4 : Nat → Int32 → Int32 → OW → Nat → RO) (hk_4 : ∀ l0 l1 l2 ω n r, k_4 l0 l1 l2 ω n = some r → GR Θ yX10_gapAsLaid cX10_gapAsLaid 4 (some .int) 6 (0, 0) 4 [(0, .ref l0), (1, .int l1), (2, .int l2)] [] ω n r) (l0 : Nat) (l1 : Int32) (l2 : Int32) (ω : OW) (n : Nat) (r : Out) (h : J_X10_gapAsLaid_55 Θ k_4 l0 l1 l2 ω n = some r) : GR Θ yX10_gapAsLaid cX10_gapAsLaid 4 (some .int) 6 (0, 0) 55 [(0, .ref l0), (1, .int l1), (2, .int l2)] [] ω n r := by
  unfold J_X10_gapAsLaid_55 at h
  refine g_iinc (j := 2) (v := l2 + 1) (lv' := [(2, .int (l2 + 1)), (0, .ref l0), (1, .int l1)]) dX10_gapAsLaid_55 rfl rfl (by decide) rfl ?_
  refine g_goto (tgt := 4) dX10_gapAsLaid_58 (by decide) ?_
  refine G.lsub [1, 2, 0] rfl ?_
  exact hk_4 l0 l1 (l2 + 1) _ _ r h
theorem ok_J_X10_gapAsLaid_53 (Θ : GP) (k_4 : Nat → Int32 → Int32 → OW → Nat → RO) (hk_4 : ∀ l0 l1 l2 ω n r, k_4 l0 l1 l2 ω n = some r → GR Θ yX10_gapAsLaid cX10_gapAsLaid 4 (some .int) 6 (0, 0) 4 [(0, .ref l0), (1, .int l1), (2, .int l2)] [] ω n r) (l0 : Nat) (l2 : Int32) (s0 : Int32) (s1 : Int32) (ω : OW) (n : Nat) (r : Out) (h : J_X10_gapAsLaid_53 Θ k_4 l0 l2 s0 s1 ω n = some r) : GR Θ yX10_gapAsLaid cX10_gapAsLaid 4 (some .int) 6 (0, 0) 53 [(0, .ref l0), (2, .int l2)] [.int s0, .int s1] ω n r := by
  unfold J_X10_gapAsLaid_53 at h
  refine g_iadd dX10_gapAsLaid_53 ?_
  refine g_istore_n (lv' := [(1, .int (s1 + s0)), (0, .ref l0), (2, .int l2)]) dX10_gapAsLaid_54 rfl (by decide) rfl ?_
  refine G.lsub [1, 0, 2] rfl ?_
  exact ok_J_X10_gapAsLaid_55 Θ k_4 hk_4 l0 (s1 + s0) l2 _ _ r h
theorem ok_B_X10_gapAsLaid_4 (Θ : GP) (k_4 : Nat → Int32 → Int32 → OW → Nat → RO) (hk_4 : ∀ l0 l1 l2 ω n r, k_4 l0 l1 l2 ω n = some r → GR Θ yX10_gapAsLaid cX10_gapAsLaid 4 (some .int) 6 (0, 0) 4 [(0, .ref l0), (1, .int l1), (2, .int l2)] [] ω n r) (l0 : Nat) (l1 : Int32) (l2 : Int32) (ω : OW) (n : Nat) (r : Out) (h : B_X10_gapAsLaid_4 Θ k_4 l0 l1 l2 ω n = some r) : GR Θ yX10_gapAsLaid cX10_gapAsLaid 4 (some .int) 6 (0, 0) 4 [(0, .ref l0), (1, .int l1), (2, .int l2)] [] ω n r := by
  unfold B_X10_gapAsLaid_4 at h
  refine g_iload_n dX10_gapAsLaid_4 rfl 2 rfl ?_
  refine g_aload_n dX10_gapAsLaid_5 rfl 0 rfl ?_
  refine g_rA fl_X10_48 dX10_gapAsLaid_6 h (fun a1 h => ?_)
  refine g_rI fl_X10_322 dX10_gapAsLaid_9 h (fun x2 h => ?_)
  refine g_icmp_ge (tgt := 61) dX10_gapAsLaid_12 (by decide) (fun c3 => ?_) (fun c3 => ?_)
  · rw [if_pos c3] at h
    refine g_iload_n dX10_gapAsLaid_61 rfl 1 rfl ?_
    cases h
    exact g_iret rfl dX10_gapAsLaid_62 rfl
  · rw [if_neg c3] at h
    refine g_aload_n dX10_gapAsLaid_15 rfl 0 rfl ?_
    refine g_rA fl_X10_48 dX10_gapAsLaid_16 h (fun a4 h => ?_)
    refine g_iload_n dX10_gapAsLaid_19 rfl 2 rfl ?_
    refine g_cI (ci := 0) (As := [.int l2]) mv_X10_325 dX10_gapAsLaid_20 rfl (ok_X0_waits Θ a4 l2 _ _) rfl rfl (Nat.le_of_ble_eq_true rfl) (by decide) (by decide) (by decide) h (fun x5 ω n h => ?_)
    refine G.less (B' := (0, 0)) (by decide) (by decide) ?_
    refine g_if_eq (tgt := 55) dX10_gapAsLaid_23 (by decide) (fun c6 => ?_) (fun c6 => ?_)
    · rw [if_pos c6] at h
      exact ok_J_X10_gapAsLaid_55 Θ k_4 hk_4 l0 l1 l2 _ _ r h
    · rw [if_neg c6] at h
      refine g_aload_n dX10_gapAsLaid_26 rfl 0 rfl ?_
      refine g_rA fl_X10_100 dX10_gapAsLaid_27 h (fun a7 h => ?_)
      refine g_iload_n dX10_gapAsLaid_30 rfl 2 rfl ?_
      refine g_cI (ci := 9) (As := [.int l2]) mv_X10_315 dX10_gapAsLaid_31 rfl (ok_X9_oddsOf Θ a7 l2 _ _) rfl rfl (Nat.le_of_ble_eq_true rfl) (by decide) (by decide) (by decide) h (fun x8 ω n h => ?_)
      refine G.less (B' := (0, 0)) (by decide) (by decide) ?_
      refine g_istore_n (lv' := [(3, .int x8), (0, .ref l0), (1, .int l1), (2, .int l2)]) dX10_gapAsLaid_34 rfl (by decide) rfl ?_
      refine g_iload_n dX10_gapAsLaid_35 rfl 2 rfl ?_
      refine g_aload_n dX10_gapAsLaid_36 rfl 1 rfl ?_
      refine g_rA fl_X10_48 dX10_gapAsLaid_37 h (fun a9 h => ?_)
      refine g_iload_n dX10_gapAsLaid_40 rfl 3 rfl ?_
      refine g_cI (ci := 0) (As := [.int l2]) mv_X10_328 dX10_gapAsLaid_41 rfl (ok_X0_isInnocent Θ a9 l2 _ _) rfl rfl (Nat.le_of_ble_eq_true rfl) (by decide) (by decide) (by decide) h (fun x10 ω n h => ?_)
      refine G.less (B' := (0, 0)) (by decide) (by decide) ?_
      refine g_if_eq (tgt := 51) dX10_gapAsLaid_44 (by decide) (fun c11 => ?_) (fun c11 => ?_)
      · rw [if_pos c11] at h
        refine g_iload_n dX10_gapAsLaid_51 rfl 0 rfl ?_
        refine g_ineg dX10_gapAsLaid_52 ?_
        refine G.lsub [1, 3] rfl ?_
        exact ok_J_X10_gapAsLaid_53 Θ k_4 hk_4 l0 l2 (-x8) l1 _ _ r h
      · rw [if_neg c11] at h
        refine g_iload_n dX10_gapAsLaid_47 rfl 0 rfl ?_
        refine g_goto (tgt := 53) dX10_gapAsLaid_48 (by decide) ?_
        refine G.lsub [1, 3] rfl ?_
        exact ok_J_X10_gapAsLaid_53 Θ k_4 hk_4 l0 l2 x8 l1 _ _ r h
theorem ok_L_X10_gapAsLaid_4 (Θ : GP) : ∀ (f : Nat) (l0 : Nat) (l1 : Int32) (l2 : Int32) (ω : OW) (n : Nat) (r : Out), L_X10_gapAsLaid_4 Θ f l0 l1 l2 ω n = some r → GR Θ yX10_gapAsLaid cX10_gapAsLaid 4 (some .int) 6 (0, 0) 4 [(0, .ref l0), (1, .int l1), (2, .int l2)] [] ω n r := by
  intro f
  induction f with
  | zero =>
    intro l0 l1 l2 ω n r h
    unfold L_X10_gapAsLaid_4 at h
    cases h
  | succ f ih =>
    intro l0 l1 l2 ω n r h
    unfold L_X10_gapAsLaid_4 at h
    exact ok_B_X10_gapAsLaid_4 Θ (L_X10_gapAsLaid_4 Θ f) ih l0 l1 l2 ω n r h
theorem ok_X10_gapAsLaid (Θ : GP) (l0 : Nat) (ω : OW) (n : Nat) : Ok Θ 6 0 0 yX10_gapAsLaid cX10_gapAsLaid 4 (some .int) [.ref l0] ω n (F_X10_gapAsLaid Θ l0 ω n) := by
  refine Ok.of (by decide +kernel) (Nat.le_of_ble_eq_true rfl) (fun r h => ?_)
  unfold F_X10_gapAsLaid at h
  show GR Θ yX10_gapAsLaid cX10_gapAsLaid 4 (some .int) 6 (0, 0) 0 [(0, .ref l0)] [] ω n r
  refine g_iconst (v := 0) dX10_gapAsLaid_0 (by decide) ?_
  refine g_istore_n (lv' := [(1, .int 0), (0, .ref l0)]) dX10_gapAsLaid_1 rfl (by decide) rfl ?_
  refine g_iconst (v := 0) dX10_gapAsLaid_2 (by decide) ?_
  refine g_istore_n (lv' := [(2, .int 0), (1, .int 0), (0, .ref l0)]) dX10_gapAsLaid_3 rfl (by decide) rfl ?_
  refine G.lsub [2, 1, 0] rfl ?_
  exact ok_L_X10_gapAsLaid_4 Θ 5000 l0 0 0 _ _ r h
def F_X10_gap (Θ : GP) (l0 : Nat) (ω : OW) (n : Nat) : RO := rA ω l0 10 8 (fun a1 => cO ω a1 6 (kV (F_X6_lay Θ a1 ω n) (fun ω n => cO ω l0 10 (kI (F_X10_gapAsLaid Θ l0 ω n) (fun x3 ω n => some (.inl (some (.int x3), ω, n)))))))
theorem ok_X10_gap (Θ : GP) (l0 : Nat) (ω : OW) (n : Nat) : Ok Θ 7 0 0 yX10_gap cX10_gap 1 (some .int) [.ref l0] ω n (F_X10_gap Θ l0 ω n) := by
  refine Ok.of (by decide +kernel) (Nat.le_of_ble_eq_true rfl) (fun r h => ?_)
  unfold F_X10_gap at h
  show GR Θ yX10_gap cX10_gap 1 (some .int) 7 (0, 0) 0 [(0, .ref l0)] [] ω n r
  refine g_aload_n dX10_gap_0 rfl 0 rfl ?_
  refine g_rA fl_X10_88 dX10_gap_1 h (fun a1 h => ?_)
  refine g_cV (ci := 6) (As := []) mv_X10_200 dX10_gap_4 rfl (ok_X6_lay Θ a1 _ _) rfl rfl (Nat.le_of_ble_eq_true rfl) (by decide) (by decide) (by decide) h (fun ω n h => ?_)
  refine G.less (B' := (0, 0)) (by decide) (by decide) ?_
  refine g_aload_n dX10_gap_7 rfl 0 rfl ?_
  refine g_cI (ci := 10) (As := []) mv_X10_318 dX10_gap_8 rfl (ok_X10_gapAsLaid Θ l0 _ _) rfl rfl (Nat.le_of_ble_eq_true rfl) (by decide) (by decide) (by decide) h (fun x3 ω n h => ?_)
  refine G.less (B' := (0, 0)) (by decide) (by decide) ?_
  cases h
  exact g_iret rfl dX10_gap_11 rfl
def J_X10_errors_80 (Θ : GP) (k_11 : Nat → Int32 → Int32 → Int32 → OW → Nat → RO) (l0 : Nat) (l1 : Int32) (l2 : Int32) (l3 : Int32) (ω : OW) (n : Nat) : RO := k_11 l0 l1 l2 (l3 + 1) ω n
def J_X10_errors_78 (Θ : GP) (k_11 : Nat → Int32 → Int32 → Int32 → OW → Nat → RO) (l0 : Nat) (l1 : Int32) (l3 : Int32) (s0 : Int32) (s1 : Int32) (ω : OW) (n : Nat) : RO := J_X10_errors_80 Θ k_11 l0 l1 (s1 + s0) l3 ω n
def J_X10_errors_64 (Θ : GP) (k_11 : Nat → Int32 → Int32 → Int32 → OW → Nat → RO) (l0 : Nat) (l1 : Int32) (l2 : Int32) (l3 : Int32) (s0 : Int32) (ω : OW) (n : Nat) : RO := if s0 = l1 then (J_X10_errors_78 Θ k_11 l0 l1 l3 0 l2 ω n) else (J_X10_errors_78 Θ k_11 l0 l1 l3 1 l2 ω n)
def B_X10_errors_11 (Θ : GP) (k_11 : Nat → Int32 → Int32 → Int32 → OW → Nat → RO) (l0 : Nat) (l1 : Int32) (l2 : Int32) (l3 : Int32) (ω : OW) (n : Nat) : RO := rA ω l0 10 0 (fun a2 => rI ω a2 0 1 (fun x3 => if x3 ≤ l3 then (some (.inl (some (.int l2), ω, n))) else (rA ω l0 10 0 (fun a5 => cO ω a5 0 (kI (F_X0_waits Θ a5 l3 ω n) (fun x6 ω n => if x6 = 0 then (J_X10_errors_80 Θ k_11 l0 l1 l2 l3 ω n) else (rA ω l0 10 0 (fun a8 => cO ω a8 0 (kI (F_X0_isInnocent Θ a8 l3 ω n) (fun x9 ω n => if x9 = l1 then (rA ω l0 10 10 (fun a11 => cO ω a11 9 (kI (F_X9_oddsOf Θ a11 l3 ω n) (fun x12 ω n => if x12 < 5000 then (J_X10_errors_64 Θ k_11 l0 l1 l2 l3 0 ω n) else (J_X10_errors_64 Θ k_11 l0 l1 l2 l3 1 ω n))))) else (J_X10_errors_80 Θ k_11 l0 l1 l2 l3 ω n)))))))))))
def L_X10_errors_11 (Θ : GP) : Nat → Nat → Int32 → Int32 → Int32 → OW → Nat → RO
  | 0, _, _, _, _, _, _ => none
  | f + 1, l0, l1, l2, l3, ω, n => B_X10_errors_11 Θ (L_X10_errors_11 Θ f) l0 l1 l2 l3 ω n
def F_X10_errors (Θ : GP) (l0 : Nat) (l1 : Int32) (ω : OW) (n : Nat) : RO := rA ω l0 10 8 (fun a14 => cO ω a14 6 (kV (F_X6_lay Θ a14 ω n) (fun ω n => L_X10_errors_11 Θ 5000 l0 l1 0 0 ω n)))
theorem ok_J_X10_errors_80 (Θ : GP) (k_11 : Nat → Int32 → Int32 → Int32 → OW → Nat → RO) (hk_11 : ∀ l0 l1 l2 l3 ω n r, k_11 l0 l1 l2 l3 ω n = some r → GR Θ yX10_errors cX10_errors 5 (some .int) 6 (0, 0) 11 [(0, .ref l0), (1, .int l1), (2, .int l2), (3, .int l3)] [] ω n r) (l0 : Nat) (l1 : Int32) (l2 : Int32) (l3 : Int32) (ω : OW) (n : Nat) (r : Out) (h : J_X10_errors_80 Θ k_11 l0 l1 l2 l3 ω n = some r) : GR Θ yX10_errors cX10_errors 5 (some .int) 6 (0, 0) 80 [(0, .ref l0), (1, .int l1), (2, .int l2), (3, .int l3)] [] ω n r := by
  unfold J_X10_errors_80 at h
  refine g_iinc (j := 3) (v := l3 + 1) (lv' := [(3, .int (l3 + 1)), (0, .ref l0), (1, .int l1), (2, .int l2)]) dX10_errors_80 rfl rfl (by decide) rfl ?_
  refine g_goto (tgt := 11) dX10_errors_83 (by decide) ?_
  refine G.lsub [1, 2, 3, 0] rfl ?_
  exact hk_11 l0 l1 l2 (l3 + 1) _ _ r h
theorem ok_J_X10_errors_78 (Θ : GP) (k_11 : Nat → Int32 → Int32 → Int32 → OW → Nat → RO) (hk_11 : ∀ l0 l1 l2 l3 ω n r, k_11 l0 l1 l2 l3 ω n = some r → GR Θ yX10_errors cX10_errors 5 (some .int) 6 (0, 0) 11 [(0, .ref l0), (1, .int l1), (2, .int l2), (3, .int l3)] [] ω n r) (l0 : Nat) (l1 : Int32) (l3 : Int32) (s0 : Int32) (s1 : Int32) (ω : OW) (n : Nat) (r : Out) (h : J_X10_errors_78 Θ k_11 l0 l1 l3 s0 s1 ω n = some r) : GR Θ yX10_errors cX10_errors 5 (some .int) 6 (0, 0) 78 [(0, .ref l0), (1, .int l1), (3, .int l3)] [.int s0, .int s1] ω n r := by
  unfold J_X10_errors_78 at h
  refine g_iadd dX10_errors_78 ?_
  refine g_istore_n (lv' := [(2, .int (s1 + s0)), (0, .ref l0), (1, .int l1), (3, .int l3)]) dX10_errors_79 rfl (by decide) rfl ?_
  refine G.lsub [1, 2, 0, 3] rfl ?_
  exact ok_J_X10_errors_80 Θ k_11 hk_11 l0 l1 (s1 + s0) l3 _ _ r h
theorem ok_J_X10_errors_64 (Θ : GP) (k_11 : Nat → Int32 → Int32 → Int32 → OW → Nat → RO) (hk_11 : ∀ l0 l1 l2 l3 ω n r, k_11 l0 l1 l2 l3 ω n = some r → GR Θ yX10_errors cX10_errors 5 (some .int) 6 (0, 0) 11 [(0, .ref l0), (1, .int l1), (2, .int l2), (3, .int l3)] [] ω n r) (l0 : Nat) (l1 : Int32) (l2 : Int32) (l3 : Int32) (s0 : Int32) (ω : OW) (n : Nat) (r : Out) (h : J_X10_errors_64 Θ k_11 l0 l1 l2 l3 s0 ω n = some r) : GR Θ yX10_errors cX10_errors 5 (some .int) 6 (0, 0) 64 [(0, .ref l0), (1, .int l1), (2, .int l2), (3, .int l3)] [.int s0] ω n r := by
  unfold J_X10_errors_64 at h
  refine g_istore (lv' := [(4, .int s0), (0, .ref l0), (1, .int l1), (2, .int l2), (3, .int l3)]) dX10_errors_64 (by decide) rfl ?_
  refine g_iload_n dX10_errors_66 rfl 3 rfl ?_
  refine g_iload dX10_errors_67 0 rfl ?_
  refine g_iload_n dX10_errors_69 rfl 2 rfl ?_
  refine g_icmp_eq (tgt := 77) dX10_errors_70 (by decide) (fun c1 => ?_) (fun c1 => ?_)
  · rw [if_pos c1] at h
    refine g_iconst (v := 0) dX10_errors_77 (by decide) ?_
    refine G.lsub [1, 2, 4] rfl ?_
    exact ok_J_X10_errors_78 Θ k_11 hk_11 l0 l1 l3 0 l2 _ _ r h
  · rw [if_neg c1] at h
    refine g_iconst (v := 1) dX10_errors_73 (by decide) ?_
    refine g_goto (tgt := 78) dX10_errors_74 (by decide) ?_
    refine G.lsub [1, 2, 4] rfl ?_
    exact ok_J_X10_errors_78 Θ k_11 hk_11 l0 l1 l3 1 l2 _ _ r h
theorem ok_B_X10_errors_11 (Θ : GP) (k_11 : Nat → Int32 → Int32 → Int32 → OW → Nat → RO) (hk_11 : ∀ l0 l1 l2 l3 ω n r, k_11 l0 l1 l2 l3 ω n = some r → GR Θ yX10_errors cX10_errors 5 (some .int) 6 (0, 0) 11 [(0, .ref l0), (1, .int l1), (2, .int l2), (3, .int l3)] [] ω n r) (l0 : Nat) (l1 : Int32) (l2 : Int32) (l3 : Int32) (ω : OW) (n : Nat) (r : Out) (h : B_X10_errors_11 Θ k_11 l0 l1 l2 l3 ω n = some r) : GR Θ yX10_errors cX10_errors 5 (some .int) 6 (0, 0) 11 [(0, .ref l0), (1, .int l1), (2, .int l2), (3, .int l3)] [] ω n r := by
  unfold B_X10_errors_11 at h
  refine g_iload_n dX10_errors_11 rfl 3 rfl ?_
  refine g_aload_n dX10_errors_12 rfl 0 rfl ?_
  refine g_rA fl_X10_48 dX10_errors_13 h (fun a2 h => ?_)
  refine g_rI fl_X10_322 dX10_errors_16 h (fun x3 h => ?_)
  refine g_icmp_ge (tgt := 86) dX10_errors_19 (by decide) (fun c4 => ?_) (fun c4 => ?_)
  · rw [if_pos c4] at h
    refine g_iload_n dX10_errors_86 rfl 2 rfl ?_
    cases h
    exact g_iret rfl dX10_errors_87 rfl
  · rw [if_neg c4] at h
    refine g_aload_n dX10_errors_22 rfl 0 rfl ?_
    refine g_rA fl_X10_48 dX10_errors_23 h (fun a5 h => ?_)
    refine g_iload_n dX10_errors_26 rfl 3 rfl ?_
    refine g_cI (ci := 0) (As := [.int l3]) mv_X10_325 dX10_errors_27 rfl (ok_X0_waits Θ a5 l3 _ _) rfl rfl (Nat.le_of_ble_eq_true rfl) (by decide) (by decide) (by decide) h (fun x6 ω n h => ?_)
    refine G.less (B' := (0, 0)) (by decide) (by decide) ?_
    refine g_if_eq (tgt := 80) dX10_errors_30 (by decide) (fun c7 => ?_) (fun c7 => ?_)
    · rw [if_pos c7] at h
      exact ok_J_X10_errors_80 Θ k_11 hk_11 l0 l1 l2 l3 _ _ r h
    · rw [if_neg c7] at h
      refine g_aload_n dX10_errors_33 rfl 0 rfl ?_
      refine g_rA fl_X10_48 dX10_errors_34 h (fun a8 h => ?_)
      refine g_iload_n dX10_errors_37 rfl 3 rfl ?_
      refine g_cI (ci := 0) (As := [.int l3]) mv_X10_328 dX10_errors_38 rfl (ok_X0_isInnocent Θ a8 l3 _ _) rfl rfl (Nat.le_of_ble_eq_true rfl) (by decide) (by decide) (by decide) h (fun x9 ω n h => ?_)
      refine G.less (B' := (0, 0)) (by decide) (by decide) ?_
      refine g_iload_n dX10_errors_41 rfl 1 rfl ?_
      refine g_icmp_ne (tgt := 80) dX10_errors_42 (by decide) (fun c10 => ?_) (fun c10 => ?_)
      · rw [if_neg c10] at h
        exact ok_J_X10_errors_80 Θ k_11 hk_11 l0 l1 l2 l3 _ _ r h
      · rw [if_pos c10] at h
        refine g_aload_n dX10_errors_45 rfl 0 rfl ?_
        refine g_rA fl_X10_100 dX10_errors_46 h (fun a11 h => ?_)
        refine g_iload_n dX10_errors_49 rfl 3 rfl ?_
        refine g_cI (ci := 9) (As := [.int l3]) mv_X10_315 dX10_errors_50 rfl (ok_X9_oddsOf Θ a11 l3 _ _) rfl rfl (Nat.le_of_ble_eq_true rfl) (by decide) (by decide) (by decide) h (fun x12 ω n h => ?_)
        refine G.less (B' := (0, 0)) (by decide) (by decide) ?_
        refine g_sipush (v := 5000) dX10_errors_53 (by decide) ?_
        refine g_icmp_lt (tgt := 63) dX10_errors_56 (by decide) (fun c13 => ?_) (fun c13 => ?_)
        · rw [if_pos c13] at h
          refine g_iconst (v := 0) dX10_errors_63 (by decide) ?_
          exact ok_J_X10_errors_64 Θ k_11 hk_11 l0 l1 l2 l3 0 _ _ r h
        · rw [if_neg c13] at h
          refine g_iconst (v := 1) dX10_errors_59 (by decide) ?_
          refine g_goto (tgt := 64) dX10_errors_60 (by decide) ?_
          exact ok_J_X10_errors_64 Θ k_11 hk_11 l0 l1 l2 l3 1 _ _ r h
theorem ok_L_X10_errors_11 (Θ : GP) : ∀ (f : Nat) (l0 : Nat) (l1 : Int32) (l2 : Int32) (l3 : Int32) (ω : OW) (n : Nat) (r : Out), L_X10_errors_11 Θ f l0 l1 l2 l3 ω n = some r → GR Θ yX10_errors cX10_errors 5 (some .int) 6 (0, 0) 11 [(0, .ref l0), (1, .int l1), (2, .int l2), (3, .int l3)] [] ω n r := by
  intro f
  induction f with
  | zero =>
    intro l0 l1 l2 l3 ω n r h
    unfold L_X10_errors_11 at h
    cases h
  | succ f ih =>
    intro l0 l1 l2 l3 ω n r h
    unfold L_X10_errors_11 at h
    exact ok_B_X10_errors_11 Θ (L_X10_errors_11 Θ f) ih l0 l1 l2 l3 ω n r h
theorem ok_X10_errors (Θ : GP) (l0 : Nat) (l1 : Int32) (ω : OW) (n : Nat) : Ok Θ 6 0 0 yX10_errors cX10_errors 5 (some .int) [.ref l0, .int l1] ω n (F_X10_errors Θ l0 l1 ω n) := by
  refine Ok.of (by decide +kernel) (Nat.le_of_ble_eq_true rfl) (fun r h => ?_)
  unfold F_X10_errors at h
  show GR Θ yX10_errors cX10_errors 5 (some .int) 6 (0, 0) 0 [(0, .ref l0), (1, .int l1)] [] ω n r
  refine g_aload_n dX10_errors_0 rfl 0 rfl ?_
  refine g_rA fl_X10_88 dX10_errors_1 h (fun a14 h => ?_)
  refine g_cV (ci := 6) (As := []) mv_X10_200 dX10_errors_4 rfl (ok_X6_lay Θ a14 _ _) rfl rfl (Nat.le_of_ble_eq_true rfl) (by decide) (by decide) (by decide) h (fun ω n h => ?_)
  refine G.less (B' := (0, 0)) (by decide) (by decide) ?_
  refine g_iconst (v := 0) dX10_errors_7 (by decide) ?_
  refine g_istore_n (lv' := [(2, .int 0), (0, .ref l0), (1, .int l1)]) dX10_errors_8 rfl (by decide) rfl ?_
  refine g_iconst (v := 0) dX10_errors_9 (by decide) ?_
  refine g_istore_n (lv' := [(3, .int 0), (2, .int 0), (0, .ref l0), (1, .int l1)]) dX10_errors_10 rfl (by decide) rfl ?_
  refine G.lsub [2, 3, 1, 0] rfl ?_
  exact ok_L_X10_errors_11 Θ 5000 l0 l1 0 0 _ _ r h
def J_X10_swap_102 (Θ : GP) (k_16 : Nat → Int32 → Int32 → Int32 → OW → Nat → RO) (k_27 : Nat → Int32 → Int32 → Int32 → Int32 → OW → Nat → RO) (l0 : Nat) (l1 : Int32) (l2 : Int32) (l3 : Int32) (l4 : Int32) (ω : OW) (n : Nat) : RO := k_27 l0 l1 l2 l3 (l4 + 1) ω n
def B_X10_swap_27 (Θ : GP) (k_16 : Nat → Int32 → Int32 → Int32 → OW → Nat → RO) (k_27 : Nat → Int32 → Int32 → Int32 → Int32 → OW → Nat → RO) (l0 : Nat) (l1 : Int32) (l2 : Int32) (l3 : Int32) (l4 : Int32) (ω : OW) (n : Nat) : RO := if 10 ≤ l4 then (k_16 l0 l1 l2 (l3 + 1) ω n) else (rA ω l0 10 8 (fun a2 => rA ω a2 6 1 (fun a3 => lI ω (gI Θ) a3 l3 (fun x4 => rA ω l0 10 8 (fun a5 => rA ω a5 6 1 (fun a6 => lI ω (gI Θ) a6 l4 (fun x7 => if x4 = x7 then (J_X10_swap_102 Θ k_16 k_27 l0 l1 l2 l3 l4 ω n) else (rA ω l0 10 8 (fun a9 => cO ω a9 6 (kV (F_X6_changeAbout Θ a9 l3 l4 ω n) (fun ω n => cO ω l0 10 (kI (F_X10_gapAsLaid Θ l0 ω n) (fun x11 ω n => rA ω l0 10 8 (fun a12 => cO ω a12 6 (kV (F_X6_changeAbout Θ a12 l3 l4 ω n) (fun ω n => if x11 ≤ l2 then (J_X10_swap_102 Θ k_16 k_27 l0 l1 l2 l3 l4 ω n) else (J_X10_swap_102 Θ k_16 k_27 l0 ((10 * l3) + l4) x11 l3 l4 ω n)))))))))))))))))
def L_X10_swap_27 (Θ : GP) (k_16 : Nat → Int32 → Int32 → Int32 → OW → Nat → RO) : Nat → Nat → Int32 → Int32 → Int32 → Int32 → OW → Nat → RO
  | 0, _, _, _, _, _, _, _ => none
  | f + 1, l0, l1, l2, l3, l4, ω, n => B_X10_swap_27 Θ k_16 (L_X10_swap_27 Θ k_16 f) l0 l1 l2 l3 l4 ω n
def B_X10_swap_16 (Θ : GP) (k_16 : Nat → Int32 → Int32 → Int32 → OW → Nat → RO) (l0 : Nat) (l1 : Int32) (l2 : Int32) (l3 : Int32) (ω : OW) (n : Nat) : RO := if 10 ≤ l3 then (some (.inl (some (.int l1), ω, n))) else (L_X10_swap_27 Θ k_16 5000 l0 l1 l2 l3 (l3 + 1) ω n)
def L_X10_swap_16 (Θ : GP) : Nat → Nat → Int32 → Int32 → Int32 → OW → Nat → RO
  | 0, _, _, _, _, _, _ => none
  | f + 1, l0, l1, l2, l3, ω, n => B_X10_swap_16 Θ (L_X10_swap_16 Θ f) l0 l1 l2 l3 ω n
def F_X10_swap (Θ : GP) (l0 : Nat) (ω : OW) (n : Nat) : RO := rA ω l0 10 8 (fun a16 => cO ω a16 6 (kV (F_X6_lay Θ a16 ω n) (fun ω n => cO ω l0 10 (kI (F_X10_gapAsLaid Θ l0 ω n) (fun x18 ω n => L_X10_swap_16 Θ 5000 l0 (-1) x18 0 ω n)))))
theorem ok_J_X10_swap_102 (Θ : GP) (k_16 : Nat → Int32 → Int32 → Int32 → OW → Nat → RO) (k_27 : Nat → Int32 → Int32 → Int32 → Int32 → OW → Nat → RO) (hk_16 : ∀ l0 l1 l2 l3 ω n r, k_16 l0 l1 l2 l3 ω n = some r → GR Θ yX10_swap cX10_swap 6 (some .int) 7 (0, 0) 16 [(0, .ref l0), (1, .int l1), (2, .int l2), (3, .int l3)] [] ω n r) (hk_27 : ∀ l0 l1 l2 l3 l4 ω n r, k_27 l0 l1 l2 l3 l4 ω n = some r → GR Θ yX10_swap cX10_swap 6 (some .int) 7 (0, 0) 27 [(0, .ref l0), (1, .int l1), (2, .int l2), (3, .int l3), (4, .int l4)] [] ω n r) (l0 : Nat) (l1 : Int32) (l2 : Int32) (l3 : Int32) (l4 : Int32) (ω : OW) (n : Nat) (r : Out) (h : J_X10_swap_102 Θ k_16 k_27 l0 l1 l2 l3 l4 ω n = some r) : GR Θ yX10_swap cX10_swap 6 (some .int) 7 (0, 0) 102 [(0, .ref l0), (1, .int l1), (2, .int l2), (3, .int l3), (4, .int l4)] [] ω n r := by
  unfold J_X10_swap_102 at h
  refine g_iinc (j := 4) (v := l4 + 1) (lv' := [(4, .int (l4 + 1)), (0, .ref l0), (1, .int l1), (2, .int l2), (3, .int l3)]) dX10_swap_102 rfl rfl (by decide) rfl ?_
  refine g_goto (tgt := 27) dX10_swap_105 (by decide) ?_
  refine G.lsub [1, 2, 3, 4, 0] rfl ?_
  exact hk_27 l0 l1 l2 l3 (l4 + 1) _ _ r h
theorem ok_B_X10_swap_27 (Θ : GP) (k_16 : Nat → Int32 → Int32 → Int32 → OW → Nat → RO) (k_27 : Nat → Int32 → Int32 → Int32 → Int32 → OW → Nat → RO) (hk_16 : ∀ l0 l1 l2 l3 ω n r, k_16 l0 l1 l2 l3 ω n = some r → GR Θ yX10_swap cX10_swap 6 (some .int) 7 (0, 0) 16 [(0, .ref l0), (1, .int l1), (2, .int l2), (3, .int l3)] [] ω n r) (hk_27 : ∀ l0 l1 l2 l3 l4 ω n r, k_27 l0 l1 l2 l3 l4 ω n = some r → GR Θ yX10_swap cX10_swap 6 (some .int) 7 (0, 0) 27 [(0, .ref l0), (1, .int l1), (2, .int l2), (3, .int l3), (4, .int l4)] [] ω n r) (l0 : Nat) (l1 : Int32) (l2 : Int32) (l3 : Int32) (l4 : Int32) (ω : OW) (n : Nat) (r : Out) (h : B_X10_swap_27 Θ k_16 k_27 l0 l1 l2 l3 l4 ω n = some r) : GR Θ yX10_swap cX10_swap 6 (some .int) 7 (0, 0) 27 [(0, .ref l0), (1, .int l1), (2, .int l2), (3, .int l3), (4, .int l4)] [] ω n r := by
  unfold B_X10_swap_27 at h
  refine g_iload dX10_swap_27 4 rfl ?_
  refine g_bipush (v := 10) dX10_swap_29 (by decide) ?_
  refine g_icmp_ge (tgt := 108) dX10_swap_31 (by decide) (fun c1 => ?_) (fun c1 => ?_)
  · rw [if_pos c1] at h
    refine g_iinc (j := 3) (v := l3 + 1) (lv' := [(3, .int (l3 + 1)), (0, .ref l0), (1, .int l1), (2, .int l2), (4, .int l4)]) dX10_swap_108 rfl rfl (by decide) rfl ?_
    refine g_goto (tgt := 16) dX10_swap_111 (by decide) ?_
    refine G.lsub [1, 2, 3, 0] rfl ?_
    exact hk_16 l0 l1 l2 (l3 + 1) _ _ r h
  · rw [if_neg c1] at h
    refine g_aload_n dX10_swap_34 rfl 0 rfl ?_
    refine g_rA fl_X10_88 dX10_swap_35 h (fun a2 h => ?_)
    refine g_rA fl_X10_331 dX10_swap_38 h (fun a3 h => ?_)
    refine g_iload_n dX10_swap_41 rfl 3 rfl ?_
    refine g_lIi dX10_swap_42 h (fun x4 h => ?_)
    refine g_aload_n dX10_swap_43 rfl 0 rfl ?_
    refine g_rA fl_X10_88 dX10_swap_44 h (fun a5 h => ?_)
    refine g_rA fl_X10_331 dX10_swap_47 h (fun a6 h => ?_)
    refine g_iload dX10_swap_50 4 rfl ?_
    refine g_lIi dX10_swap_52 h (fun x7 h => ?_)
    refine g_icmp_ne (tgt := 59) dX10_swap_53 (by decide) (fun c8 => ?_) (fun c8 => ?_)
    · rw [if_neg c8] at h
      refine g_aload_n dX10_swap_59 rfl 0 rfl ?_
      refine g_rA fl_X10_88 dX10_swap_60 h (fun a9 h => ?_)
      refine g_iload_n dX10_swap_63 rfl 3 rfl ?_
      refine g_iload dX10_swap_64 4 rfl ?_
      refine g_cV (ci := 6) (As := [.int l3, .int l4]) mv_X10_332 dX10_swap_66 rfl (ok_X6_changeAbout Θ a9 l3 l4 _ _) rfl rfl (Nat.le_of_ble_eq_true rfl) (by decide) (by decide) (by decide) h (fun ω n h => ?_)
      refine G.less (B' := (0, 0)) (by decide) (by decide) ?_
      refine g_aload_n dX10_swap_69 rfl 0 rfl ?_
      refine g_cI (ci := 10) (As := []) mv_X10_318 dX10_swap_70 rfl (ok_X10_gapAsLaid Θ l0 _ _) rfl rfl (Nat.le_of_ble_eq_true rfl) (by decide) (by decide) (by decide) h (fun x11 ω n h => ?_)
      refine G.less (B' := (0, 0)) (by decide) (by decide) ?_
      refine g_istore (lv' := [(5, .int x11), (0, .ref l0), (1, .int l1), (2, .int l2), (3, .int l3), (4, .int l4)]) dX10_swap_73 (by decide) rfl ?_
      refine g_aload_n dX10_swap_75 rfl 1 rfl ?_
      refine g_rA fl_X10_88 dX10_swap_76 h (fun a12 h => ?_)
      refine g_iload_n dX10_swap_79 rfl 4 rfl ?_
      refine g_iload dX10_swap_80 5 rfl ?_
      refine g_cV (ci := 6) (As := [.int l3, .int l4]) mv_X10_332 dX10_swap_82 rfl (ok_X6_changeAbout Θ a12 l3 l4 _ _) rfl rfl (Nat.le_of_ble_eq_true rfl) (by decide) (by decide) (by decide) h (fun ω n h => ?_)
      refine G.less (B' := (0, 0)) (by decide) (by decide) ?_
      refine g_iload dX10_swap_85 0 rfl ?_
      refine g_iload_n dX10_swap_87 rfl 3 rfl ?_
      refine g_icmp_le (tgt := 102) dX10_swap_88 (by decide) (fun c14 => ?_) (fun c14 => ?_)
      · rw [if_pos c14] at h
        refine G.lsub [1, 2, 3, 4, 5] rfl ?_
        exact ok_J_X10_swap_102 Θ k_16 k_27 hk_16 hk_27 l0 l1 l2 l3 l4 _ _ r h
      · rw [if_neg c14] at h
        refine g_iload dX10_swap_91 0 rfl ?_
        refine g_istore_n (lv' := [(2, .int x11), (5, .int x11), (0, .ref l0), (1, .int l1), (3, .int l3), (4, .int l4)]) dX10_swap_93 rfl (by decide) rfl ?_
        refine g_bipush (v := 10) dX10_swap_94 (by decide) ?_
        refine g_iload_n dX10_swap_96 rfl 4 rfl ?_
        refine g_imul dX10_swap_97 ?_
        refine g_iload dX10_swap_98 5 rfl ?_
        refine g_iadd dX10_swap_100 ?_
        refine g_istore_n (lv' := [(1, .int ((10 * l3) + l4)), (2, .int x11), (5, .int x11), (0, .ref l0), (3, .int l3), (4, .int l4)]) dX10_swap_101 rfl (by decide) rfl ?_
        refine G.lsub [3, 0, 1, 4, 5] rfl ?_
        exact ok_J_X10_swap_102 Θ k_16 k_27 hk_16 hk_27 l0 ((10 * l3) + l4) x11 l3 l4 _ _ r h
    · rw [if_pos c8] at h
      refine g_goto (tgt := 102) dX10_swap_56 (by decide) ?_
      exact ok_J_X10_swap_102 Θ k_16 k_27 hk_16 hk_27 l0 l1 l2 l3 l4 _ _ r h
theorem ok_L_X10_swap_27 (Θ : GP) (k_16 : Nat → Int32 → Int32 → Int32 → OW → Nat → RO) (hk_16 : ∀ l0 l1 l2 l3 ω n r, k_16 l0 l1 l2 l3 ω n = some r → GR Θ yX10_swap cX10_swap 6 (some .int) 7 (0, 0) 16 [(0, .ref l0), (1, .int l1), (2, .int l2), (3, .int l3)] [] ω n r) : ∀ (f : Nat) (l0 : Nat) (l1 : Int32) (l2 : Int32) (l3 : Int32) (l4 : Int32) (ω : OW) (n : Nat) (r : Out), L_X10_swap_27 Θ k_16 f l0 l1 l2 l3 l4 ω n = some r → GR Θ yX10_swap cX10_swap 6 (some .int) 7 (0, 0) 27 [(0, .ref l0), (1, .int l1), (2, .int l2), (3, .int l3), (4, .int l4)] [] ω n r := by
  intro f
  induction f with
  | zero =>
    intro l0 l1 l2 l3 l4 ω n r h
    unfold L_X10_swap_27 at h
    cases h
  | succ f ih =>
    intro l0 l1 l2 l3 l4 ω n r h
    unfold L_X10_swap_27 at h
    exact ok_B_X10_swap_27 Θ k_16 (L_X10_swap_27 Θ k_16 f) hk_16 ih l0 l1 l2 l3 l4 ω n r h
theorem ok_B_X10_swap_16 (Θ : GP) (k_16 : Nat → Int32 → Int32 → Int32 → OW → Nat → RO) (hk_16 : ∀ l0 l1 l2 l3 ω n r, k_16 l0 l1 l2 l3 ω n = some r → GR Θ yX10_swap cX10_swap 6 (some .int) 7 (0, 0) 16 [(0, .ref l0), (1, .int l1), (2, .int l2), (3, .int l3)] [] ω n r) (l0 : Nat) (l1 : Int32) (l2 : Int32) (l3 : Int32) (ω : OW) (n : Nat) (r : Out) (h : B_X10_swap_16 Θ k_16 l0 l1 l2 l3 ω n = some r) : GR Θ yX10_swap cX10_swap 6 (some .int) 7 (0, 0) 16 [(0, .ref l0), (1, .int l1), (2, .int l2), (3, .int l3)] [] ω n r := by
  unfold B_X10_swap_16 at h
  refine g_iload_n dX10_swap_16 rfl 3 rfl ?_
  refine g_bipush (v := 10) dX10_swap_17 (by decide) ?_
  refine g_icmp_ge (tgt := 114) dX10_swap_19 (by decide) (fun c15 => ?_) (fun c15 => ?_)
  · rw [if_pos c15] at h
    refine g_iload_n dX10_swap_114 rfl 1 rfl ?_
    cases h
    exact g_iret rfl dX10_swap_115 rfl
  · rw [if_neg c15] at h
    refine g_iload_n dX10_swap_22 rfl 3 rfl ?_
    refine g_iconst (v := 1) dX10_swap_23 (by decide) ?_
    refine g_iadd dX10_swap_24 ?_
    refine g_istore (lv' := [(4, .int (l3 + 1)), (0, .ref l0), (1, .int l1), (2, .int l2), (3, .int l3)]) dX10_swap_25 (by decide) rfl ?_
    refine G.lsub [1, 2, 3, 4, 0] rfl ?_
    exact ok_L_X10_swap_27 Θ k_16 hk_16 5000 l0 l1 l2 l3 (l3 + 1) _ _ r h
theorem ok_L_X10_swap_16 (Θ : GP) : ∀ (f : Nat) (l0 : Nat) (l1 : Int32) (l2 : Int32) (l3 : Int32) (ω : OW) (n : Nat) (r : Out), L_X10_swap_16 Θ f l0 l1 l2 l3 ω n = some r → GR Θ yX10_swap cX10_swap 6 (some .int) 7 (0, 0) 16 [(0, .ref l0), (1, .int l1), (2, .int l2), (3, .int l3)] [] ω n r := by
  intro f
  induction f with
  | zero =>
    intro l0 l1 l2 l3 ω n r h
    unfold L_X10_swap_16 at h
    cases h
  | succ f ih =>
    intro l0 l1 l2 l3 ω n r h
    unfold L_X10_swap_16 at h
    exact ok_B_X10_swap_16 Θ (L_X10_swap_16 Θ f) ih l0 l1 l2 l3 ω n r h
theorem ok_X10_swap (Θ : GP) (l0 : Nat) (ω : OW) (n : Nat) : Ok Θ 7 0 0 yX10_swap cX10_swap 6 (some .int) [.ref l0] ω n (F_X10_swap Θ l0 ω n) := by
  refine Ok.of (by decide +kernel) (Nat.le_of_ble_eq_true rfl) (fun r h => ?_)
  unfold F_X10_swap at h
  show GR Θ yX10_swap cX10_swap 6 (some .int) 7 (0, 0) 0 [(0, .ref l0)] [] ω n r
  refine g_aload_n dX10_swap_0 rfl 0 rfl ?_
  refine g_rA fl_X10_88 dX10_swap_1 h (fun a16 h => ?_)
  refine g_cV (ci := 6) (As := []) mv_X10_200 dX10_swap_4 rfl (ok_X6_lay Θ a16 _ _) rfl rfl (Nat.le_of_ble_eq_true rfl) (by decide) (by decide) (by decide) h (fun ω n h => ?_)
  refine G.less (B' := (0, 0)) (by decide) (by decide) ?_
  refine g_iconst (v := (-1)) dX10_swap_7 (by decide) ?_
  refine g_istore_n (lv' := [(1, .int (-1)), (0, .ref l0)]) dX10_swap_8 rfl (by decide) rfl ?_
  refine g_aload_n dX10_swap_9 rfl 1 rfl ?_
  refine g_cI (ci := 10) (As := []) mv_X10_318 dX10_swap_10 rfl (ok_X10_gapAsLaid Θ l0 _ _) rfl rfl (Nat.le_of_ble_eq_true rfl) (by decide) (by decide) (by decide) h (fun x18 ω n h => ?_)
  refine G.less (B' := (0, 0)) (by decide) (by decide) ?_
  refine g_istore_n (lv' := [(2, .int x18), (1, .int (-1)), (0, .ref l0)]) dX10_swap_13 rfl (by decide) rfl ?_
  refine g_iconst (v := 0) dX10_swap_14 (by decide) ?_
  refine g_istore_n (lv' := [(3, .int 0), (2, .int x18), (1, .int (-1)), (0, .ref l0)]) dX10_swap_15 rfl (by decide) rfl ?_
  refine G.lsub [3, 2, 1, 0] rfl ?_
  exact ok_L_X10_swap_16 Θ 5000 l0 (-1) x18 0 _ _ r h
def J_X10_next_112 (Θ : GP) (k_13 : Nat → Int32 → Int32 → Int32 → OW → Nat → RO) (k_27 : Nat → Int32 → Int32 → Int32 → Int32 → OW → Nat → RO) (l0 : Nat) (l1 : Int32) (l2 : Int32) (l3 : Int32) (l4 : Int32) (ω : OW) (n : Nat) : RO := k_27 l0 l1 l2 l3 (l4 + 1) ω n
def J_X10_next_101 (Θ : GP) (k_13 : Nat → Int32 → Int32 → Int32 → OW → Nat → RO) (k_27 : Nat → Int32 → Int32 → Int32 → Int32 → OW → Nat → RO) (l0 : Nat) (l3 : Int32) (l4 : Int32) (l5 : Int32) (ω : OW) (n : Nat) : RO := J_X10_next_112 Θ k_13 k_27 l0 ((10 * l3) + l4) l5 l3 l4 ω n
def B_X10_next_27 (Θ : GP) (k_13 : Nat → Int32 → Int32 → Int32 → OW → Nat → RO) (k_27 : Nat → Int32 → Int32 → Int32 → Int32 → OW → Nat → RO) (l0 : Nat) (l1 : Int32) (l2 : Int32) (l3 : Int32) (l4 : Int32) (ω : OW) (n : Nat) : RO := if 10 ≤ l4 then (k_13 l0 l1 l2 (l3 + 1) ω n) else (rA ω l0 10 0 (fun a2 => rA ω a2 0 10 (fun a3 => lI ω (gI Θ) a3 l3 (fun x4 => if 0 ≤ x4 then (J_X10_next_112 Θ k_13 k_27 l0 l1 l2 l3 l4 ω n) else (rA ω l0 10 0 (fun a6 => rA ω a6 0 11 (fun a7 => lI ω (gI Θ) a7 l4 (fun x8 => if x8 < 0 then (rA ω l0 10 8 (fun a10 => rA ω a10 6 1 (fun a11 => sI ω (gI Θ) a11 l4 l3 (fun ω => cO ω l0 10 (kI (F_X10_gapAsLaid Θ l0 ω n) (fun x12 ω n => rA ω l0 10 8 (fun a13 => rA ω a13 6 1 (fun a14 => sI ω (gI Θ) a14 l4 (-1) (fun ω => if l1 = (-1) then (J_X10_next_101 Θ k_13 k_27 l0 l3 l4 x12 ω n) else (if x12 ≤ l2 then (J_X10_next_112 Θ k_13 k_27 l0 l1 l2 l3 l4 ω n) else (J_X10_next_101 Θ k_13 k_27 l0 l3 l4 x12 ω n))))))))))) else (J_X10_next_112 Θ k_13 k_27 l0 l1 l2 l3 l4 ω n)))))))))
def L_X10_next_27 (Θ : GP) (k_13 : Nat → Int32 → Int32 → Int32 → OW → Nat → RO) : Nat → Nat → Int32 → Int32 → Int32 → Int32 → OW → Nat → RO
  | 0, _, _, _, _, _, _, _ => none
  | f + 1, l0, l1, l2, l3, l4, ω, n => B_X10_next_27 Θ k_13 (L_X10_next_27 Θ k_13 f) l0 l1 l2 l3 l4 ω n
def B_X10_next_13 (Θ : GP) (k_13 : Nat → Int32 → Int32 → Int32 → OW → Nat → RO) (l0 : Nat) (l1 : Int32) (l2 : Int32) (l3 : Int32) (ω : OW) (n : Nat) : RO := rA ω l0 10 0 (fun a17 => rI ω a17 0 0 (fun x18 => if x18 ≤ l3 then (some (.inl (some (.int l1), ω, n))) else (L_X10_next_27 Θ k_13 5000 l0 l1 l2 l3 0 ω n)))
def L_X10_next_13 (Θ : GP) : Nat → Nat → Int32 → Int32 → Int32 → OW → Nat → RO
  | 0, _, _, _, _, _, _ => none
  | f + 1, l0, l1, l2, l3, ω, n => B_X10_next_13 Θ (L_X10_next_13 Θ f) l0 l1 l2 l3 ω n
def F_X10_next (Θ : GP) (l0 : Nat) (ω : OW) (n : Nat) : RO := rA ω l0 10 8 (fun a20 => cO ω a20 6 (kV (F_X6_lay Θ a20 ω n) (fun ω n => L_X10_next_13 Θ 5000 l0 (-1) 0 0 ω n)))
theorem ok_J_X10_next_112 (Θ : GP) (k_13 : Nat → Int32 → Int32 → Int32 → OW → Nat → RO) (k_27 : Nat → Int32 → Int32 → Int32 → Int32 → OW → Nat → RO) (hk_13 : ∀ l0 l1 l2 l3 ω n r, k_13 l0 l1 l2 l3 ω n = some r → GR Θ yX10_next cX10_next 6 (some .int) 7 (0, 0) 13 [(0, .ref l0), (1, .int l1), (2, .int l2), (3, .int l3)] [] ω n r) (hk_27 : ∀ l0 l1 l2 l3 l4 ω n r, k_27 l0 l1 l2 l3 l4 ω n = some r → GR Θ yX10_next cX10_next 6 (some .int) 7 (0, 0) 27 [(0, .ref l0), (1, .int l1), (2, .int l2), (3, .int l3), (4, .int l4)] [] ω n r) (l0 : Nat) (l1 : Int32) (l2 : Int32) (l3 : Int32) (l4 : Int32) (ω : OW) (n : Nat) (r : Out) (h : J_X10_next_112 Θ k_13 k_27 l0 l1 l2 l3 l4 ω n = some r) : GR Θ yX10_next cX10_next 6 (some .int) 7 (0, 0) 112 [(0, .ref l0), (1, .int l1), (2, .int l2), (3, .int l3), (4, .int l4)] [] ω n r := by
  unfold J_X10_next_112 at h
  refine g_iinc (j := 4) (v := l4 + 1) (lv' := [(4, .int (l4 + 1)), (0, .ref l0), (1, .int l1), (2, .int l2), (3, .int l3)]) dX10_next_112 rfl rfl (by decide) rfl ?_
  refine g_goto (tgt := 27) dX10_next_115 (by decide) ?_
  refine G.lsub [1, 2, 3, 4, 0] rfl ?_
  exact hk_27 l0 l1 l2 l3 (l4 + 1) _ _ r h
theorem ok_J_X10_next_101 (Θ : GP) (k_13 : Nat → Int32 → Int32 → Int32 → OW → Nat → RO) (k_27 : Nat → Int32 → Int32 → Int32 → Int32 → OW → Nat → RO) (hk_13 : ∀ l0 l1 l2 l3 ω n r, k_13 l0 l1 l2 l3 ω n = some r → GR Θ yX10_next cX10_next 6 (some .int) 7 (0, 0) 13 [(0, .ref l0), (1, .int l1), (2, .int l2), (3, .int l3)] [] ω n r) (hk_27 : ∀ l0 l1 l2 l3 l4 ω n r, k_27 l0 l1 l2 l3 l4 ω n = some r → GR Θ yX10_next cX10_next 6 (some .int) 7 (0, 0) 27 [(0, .ref l0), (1, .int l1), (2, .int l2), (3, .int l3), (4, .int l4)] [] ω n r) (l0 : Nat) (l3 : Int32) (l4 : Int32) (l5 : Int32) (ω : OW) (n : Nat) (r : Out) (h : J_X10_next_101 Θ k_13 k_27 l0 l3 l4 l5 ω n = some r) : GR Θ yX10_next cX10_next 6 (some .int) 7 (0, 0) 101 [(0, .ref l0), (3, .int l3), (4, .int l4), (5, .int l5)] [] ω n r := by
  unfold J_X10_next_101 at h
  refine g_iload dX10_next_101 3 rfl ?_
  refine g_istore_n (lv' := [(2, .int l5), (0, .ref l0), (3, .int l3), (4, .int l4), (5, .int l5)]) dX10_next_103 rfl (by decide) rfl ?_
  refine g_bipush (v := 10) dX10_next_104 (by decide) ?_
  refine g_iload_n dX10_next_106 rfl 2 rfl ?_
  refine g_imul dX10_next_107 ?_
  refine g_iload dX10_next_108 3 rfl ?_
  refine g_iadd dX10_next_110 ?_
  refine g_istore_n (lv' := [(1, .int ((10 * l3) + l4)), (2, .int l5), (0, .ref l0), (3, .int l3), (4, .int l4), (5, .int l5)]) dX10_next_111 rfl (by decide) rfl ?_
  refine G.lsub [2, 0, 1, 3, 4] rfl ?_
  exact ok_J_X10_next_112 Θ k_13 k_27 hk_13 hk_27 l0 ((10 * l3) + l4) l5 l3 l4 _ _ r h
theorem ok_B_X10_next_27 (Θ : GP) (k_13 : Nat → Int32 → Int32 → Int32 → OW → Nat → RO) (k_27 : Nat → Int32 → Int32 → Int32 → Int32 → OW → Nat → RO) (hk_13 : ∀ l0 l1 l2 l3 ω n r, k_13 l0 l1 l2 l3 ω n = some r → GR Θ yX10_next cX10_next 6 (some .int) 7 (0, 0) 13 [(0, .ref l0), (1, .int l1), (2, .int l2), (3, .int l3)] [] ω n r) (hk_27 : ∀ l0 l1 l2 l3 l4 ω n r, k_27 l0 l1 l2 l3 l4 ω n = some r → GR Θ yX10_next cX10_next 6 (some .int) 7 (0, 0) 27 [(0, .ref l0), (1, .int l1), (2, .int l2), (3, .int l3), (4, .int l4)] [] ω n r) (l0 : Nat) (l1 : Int32) (l2 : Int32) (l3 : Int32) (l4 : Int32) (ω : OW) (n : Nat) (r : Out) (h : B_X10_next_27 Θ k_13 k_27 l0 l1 l2 l3 l4 ω n = some r) : GR Θ yX10_next cX10_next 6 (some .int) 7 (0, 0) 27 [(0, .ref l0), (1, .int l1), (2, .int l2), (3, .int l3), (4, .int l4)] [] ω n r := by
  unfold B_X10_next_27 at h
  refine g_iload dX10_next_27 4 rfl ?_
  refine g_bipush (v := 10) dX10_next_29 (by decide) ?_
  refine g_icmp_ge (tgt := 118) dX10_next_31 (by decide) (fun c1 => ?_) (fun c1 => ?_)
  · rw [if_pos c1] at h
    refine g_iinc (j := 3) (v := l3 + 1) (lv' := [(3, .int (l3 + 1)), (0, .ref l0), (1, .int l1), (2, .int l2), (4, .int l4)]) dX10_next_118 rfl rfl (by decide) rfl ?_
    refine g_goto (tgt := 13) dX10_next_121 (by decide) ?_
    refine G.lsub [1, 2, 3, 0] rfl ?_
    exact hk_13 l0 l1 l2 (l3 + 1) _ _ r h
  · rw [if_neg c1] at h
    refine g_aload_n dX10_next_34 rfl 0 rfl ?_
    refine g_rA fl_X10_48 dX10_next_35 h (fun a2 h => ?_)
    refine g_rA fl_X10_167 dX10_next_38 h (fun a3 h => ?_)
    refine g_iload_n dX10_next_41 rfl 3 rfl ?_
    refine g_lIi dX10_next_42 h (fun x4 h => ?_)
    refine g_if_ge (tgt := 112) dX10_next_43 (by decide) (fun c5 => ?_) (fun c5 => ?_)
    · rw [if_pos c5] at h
      exact ok_J_X10_next_112 Θ k_13 k_27 hk_13 hk_27 l0 l1 l2 l3 l4 _ _ r h
    · rw [if_neg c5] at h
      refine g_aload_n dX10_next_46 rfl 0 rfl ?_
      refine g_rA fl_X10_48 dX10_next_47 h (fun a6 h => ?_)
      refine g_rA fl_X10_178 dX10_next_50 h (fun a7 h => ?_)
      refine g_iload dX10_next_53 4 rfl ?_
      refine g_lIi dX10_next_55 h (fun x8 h => ?_)
      refine g_if_lt (tgt := 62) dX10_next_56 (by decide) (fun c9 => ?_) (fun c9 => ?_)
      · rw [if_pos c9] at h
        refine g_aload_n dX10_next_62 rfl 0 rfl ?_
        refine g_rA fl_X10_88 dX10_next_63 h (fun a10 h => ?_)
        refine g_rA fl_X10_331 dX10_next_66 h (fun a11 h => ?_)
        refine g_iload dX10_next_69 4 rfl ?_
        refine g_iload_n dX10_next_71 rfl 3 rfl ?_
        refine g_sIi dX10_next_72 h (fun ω h => ?_)
        refine g_aload_n dX10_next_73 rfl 0 rfl ?_
        refine g_cI (ci := 10) (As := []) mv_X10_318 dX10_next_74 rfl (ok_X10_gapAsLaid Θ l0 _ _) rfl rfl (Nat.le_of_ble_eq_true rfl) (by decide) (by decide) (by decide) h (fun x12 ω n h => ?_)
        refine G.less (B' := (0, 0)) (by decide) (by decide) ?_
        refine g_istore (lv' := [(5, .int x12), (0, .ref l0), (1, .int l1), (2, .int l2), (3, .int l3), (4, .int l4)]) dX10_next_77 (by decide) rfl ?_
        refine g_aload_n dX10_next_79 rfl 1 rfl ?_
        refine g_rA fl_X10_88 dX10_next_80 h (fun a13 h => ?_)
        refine g_rA fl_X10_331 dX10_next_83 h (fun a14 h => ?_)
        refine g_iload dX10_next_86 5 rfl ?_
        refine g_iconst (v := (-1)) dX10_next_88 (by decide) ?_
        refine g_sIi dX10_next_89 h (fun ω h => ?_)
        refine g_iload_n dX10_next_90 rfl 2 rfl ?_
        refine g_iconst (v := (-1)) dX10_next_91 (by decide) ?_
        refine g_icmp_eq (tgt := 101) dX10_next_92 (by decide) (fun c15 => ?_) (fun c15 => ?_)
        · rw [if_pos c15] at h
          refine G.lsub [1, 4, 5, 0] rfl ?_
          exact ok_J_X10_next_101 Θ k_13 k_27 hk_13 hk_27 l0 l3 l4 x12 _ _ r h
        · rw [if_neg c15] at h
          refine g_iload dX10_next_95 0 rfl ?_
          refine g_iload_n dX10_next_97 rfl 3 rfl ?_
          refine g_icmp_le (tgt := 112) dX10_next_98 (by decide) (fun c16 => ?_) (fun c16 => ?_)
          · rw [if_pos c16] at h
            refine G.lsub [1, 2, 3, 4, 5] rfl ?_
            exact ok_J_X10_next_112 Θ k_13 k_27 hk_13 hk_27 l0 l1 l2 l3 l4 _ _ r h
          · rw [if_neg c16] at h
            refine G.lsub [1, 4, 5, 0] rfl ?_
            exact ok_J_X10_next_101 Θ k_13 k_27 hk_13 hk_27 l0 l3 l4 x12 _ _ r h
      · rw [if_neg c9] at h
        refine g_goto (tgt := 112) dX10_next_59 (by decide) ?_
        exact ok_J_X10_next_112 Θ k_13 k_27 hk_13 hk_27 l0 l1 l2 l3 l4 _ _ r h
theorem ok_L_X10_next_27 (Θ : GP) (k_13 : Nat → Int32 → Int32 → Int32 → OW → Nat → RO) (hk_13 : ∀ l0 l1 l2 l3 ω n r, k_13 l0 l1 l2 l3 ω n = some r → GR Θ yX10_next cX10_next 6 (some .int) 7 (0, 0) 13 [(0, .ref l0), (1, .int l1), (2, .int l2), (3, .int l3)] [] ω n r) : ∀ (f : Nat) (l0 : Nat) (l1 : Int32) (l2 : Int32) (l3 : Int32) (l4 : Int32) (ω : OW) (n : Nat) (r : Out), L_X10_next_27 Θ k_13 f l0 l1 l2 l3 l4 ω n = some r → GR Θ yX10_next cX10_next 6 (some .int) 7 (0, 0) 27 [(0, .ref l0), (1, .int l1), (2, .int l2), (3, .int l3), (4, .int l4)] [] ω n r := by
  intro f
  induction f with
  | zero =>
    intro l0 l1 l2 l3 l4 ω n r h
    unfold L_X10_next_27 at h
    cases h
  | succ f ih =>
    intro l0 l1 l2 l3 l4 ω n r h
    unfold L_X10_next_27 at h
    exact ok_B_X10_next_27 Θ k_13 (L_X10_next_27 Θ k_13 f) hk_13 ih l0 l1 l2 l3 l4 ω n r h
theorem ok_B_X10_next_13 (Θ : GP) (k_13 : Nat → Int32 → Int32 → Int32 → OW → Nat → RO) (hk_13 : ∀ l0 l1 l2 l3 ω n r, k_13 l0 l1 l2 l3 ω n = some r → GR Θ yX10_next cX10_next 6 (some .int) 7 (0, 0) 13 [(0, .ref l0), (1, .int l1), (2, .int l2), (3, .int l3)] [] ω n r) (l0 : Nat) (l1 : Int32) (l2 : Int32) (l3 : Int32) (ω : OW) (n : Nat) (r : Out) (h : B_X10_next_13 Θ k_13 l0 l1 l2 l3 ω n = some r) : GR Θ yX10_next cX10_next 6 (some .int) 7 (0, 0) 13 [(0, .ref l0), (1, .int l1), (2, .int l2), (3, .int l3)] [] ω n r := by
  unfold B_X10_next_13 at h
  refine g_iload_n dX10_next_13 rfl 3 rfl ?_
  refine g_aload_n dX10_next_14 rfl 0 rfl ?_
  refine g_rA fl_X10_48 dX10_next_15 h (fun a17 h => ?_)
  refine g_rI fl_X10_294 dX10_next_18 h (fun x18 h => ?_)
  refine g_icmp_ge (tgt := 124) dX10_next_21 (by decide) (fun c19 => ?_) (fun c19 => ?_)
  · rw [if_pos c19] at h
    refine g_iload_n dX10_next_124 rfl 1 rfl ?_
    cases h
    exact g_iret rfl dX10_next_125 rfl
  · rw [if_neg c19] at h
    refine g_iconst (v := 0) dX10_next_24 (by decide) ?_
    refine g_istore (lv' := [(4, .int 0), (0, .ref l0), (1, .int l1), (2, .int l2), (3, .int l3)]) dX10_next_25 (by decide) rfl ?_
    refine G.lsub [1, 2, 3, 4, 0] rfl ?_
    exact ok_L_X10_next_27 Θ k_13 hk_13 5000 l0 l1 l2 l3 0 _ _ r h
theorem ok_L_X10_next_13 (Θ : GP) : ∀ (f : Nat) (l0 : Nat) (l1 : Int32) (l2 : Int32) (l3 : Int32) (ω : OW) (n : Nat) (r : Out), L_X10_next_13 Θ f l0 l1 l2 l3 ω n = some r → GR Θ yX10_next cX10_next 6 (some .int) 7 (0, 0) 13 [(0, .ref l0), (1, .int l1), (2, .int l2), (3, .int l3)] [] ω n r := by
  intro f
  induction f with
  | zero =>
    intro l0 l1 l2 l3 ω n r h
    unfold L_X10_next_13 at h
    cases h
  | succ f ih =>
    intro l0 l1 l2 l3 ω n r h
    unfold L_X10_next_13 at h
    exact ok_B_X10_next_13 Θ (L_X10_next_13 Θ f) ih l0 l1 l2 l3 ω n r h
theorem ok_X10_next (Θ : GP) (l0 : Nat) (ω : OW) (n : Nat) : Ok Θ 7 0 0 yX10_next cX10_next 6 (some .int) [.ref l0] ω n (F_X10_next Θ l0 ω n) := by
  refine Ok.of (by decide +kernel) (Nat.le_of_ble_eq_true rfl) (fun r h => ?_)
  unfold F_X10_next at h
  show GR Θ yX10_next cX10_next 6 (some .int) 7 (0, 0) 0 [(0, .ref l0)] [] ω n r
  refine g_aload_n dX10_next_0 rfl 0 rfl ?_
  refine g_rA fl_X10_88 dX10_next_1 h (fun a20 h => ?_)
  refine g_cV (ci := 6) (As := []) mv_X10_200 dX10_next_4 rfl (ok_X6_lay Θ a20 _ _) rfl rfl (Nat.le_of_ble_eq_true rfl) (by decide) (by decide) (by decide) h (fun ω n h => ?_)
  refine G.less (B' := (0, 0)) (by decide) (by decide) ?_
  refine g_iconst (v := (-1)) dX10_next_7 (by decide) ?_
  refine g_istore_n (lv' := [(1, .int (-1)), (0, .ref l0)]) dX10_next_8 rfl (by decide) rfl ?_
  refine g_iconst (v := 0) dX10_next_9 (by decide) ?_
  refine g_istore_n (lv' := [(2, .int 0), (1, .int (-1)), (0, .ref l0)]) dX10_next_10 rfl (by decide) rfl ?_
  refine g_iconst (v := 0) dX10_next_11 (by decide) ?_
  refine g_istore_n (lv' := [(3, .int 0), (2, .int 0), (1, .int (-1)), (0, .ref l0)]) dX10_next_12 rfl (by decide) rfl ?_
  refine G.lsub [3, 2, 1, 0] rfl ?_
  exact ok_L_X10_next_13 Θ 5000 l0 (-1) 0 0 _ _ r h
def J_X10_sift_54 (Θ : GP) (l0 : Nat) (l2 : Int32) (ω : OW) (n : Nat) : RO := rA ω l0 10 5 (fun a1 => wF ω a1 8 0 (.int 0) (fun ω => bz l2 (some (.inl (some (.int l2), ω, n)))))
def J_X10_sift_26 (Θ : GP) (l0 : Nat) (l1 : Int32) (s0 : Int32) (ω : OW) (n : Nat) : RO := if s0 = 0 then (J_X10_sift_54 Θ l0 s0 ω n) else (rA ω l0 10 8 (fun a4 => cO ω a4 6 (kV (F_X6_lay Θ a4 ω n) (fun ω n => rA ω l0 10 11 (fun a6 => rA ω l0 10 8 (fun a7 => rA ω l0 10 5 (fun a8 => cO ω a6 7 (kV (F_X7_sift Θ a6 a7 l1 a8 ω n) (fun ω n => J_X10_sift_54 Θ l0 s0 ω n)))))))))
def J_X10_sift_25 (Θ : GP) (l0 : Nat) (l1 : Int32) (ω : OW) (n : Nat) : RO := J_X10_sift_26 Θ l0 l1 0 ω n
def F_X10_sift (Θ : GP) (l0 : Nat) (l1 : Int32) (ω : OW) (n : Nat) : RO := rA ω l0 10 5 (fun a10 => cO ω a10 8 (kI (F_X8_tellsFrights Θ a10 ω n) (fun x11 ω n => if x11 = 0 then (J_X10_sift_25 Θ l0 l1 ω n) else (if l1 < 1 then (J_X10_sift_25 Θ l0 l1 ω n) else (if 60 < l1 then (J_X10_sift_25 Θ l0 l1 ω n) else (J_X10_sift_26 Θ l0 l1 1 ω n))))))
theorem ok_J_X10_sift_54 (Θ : GP) (l0 : Nat) (l2 : Int32) (ω : OW) (n : Nat) (r : Out) (h : J_X10_sift_54 Θ l0 l2 ω n = some r) : GR Θ yX10_sift cX10_sift 3 (some .boolean) 7 (0, 0) 54 [(0, .ref l0), (2, .int l2)] [] ω n r := by
  unfold J_X10_sift_54 at h
  refine g_aload_n dX10_sift_54 rfl 0 rfl ?_
  refine g_rA fl_X10_16 dX10_sift_55 h (fun a1 h => ?_)
  refine g_iconst (v := 0) dX10_sift_58 (by decide) ?_
  refine g_wF fl_X10_112 dX10_sift_59 (rfl) rfl h (fun ω h => ?_)
  refine g_iload_n dX10_sift_62 rfl 1 rfl ?_
  obtain ⟨z2, h⟩ := bz_inv h
  cases h
  exact g_zret rfl z2 dX10_sift_63 rfl
theorem ok_J_X10_sift_26 (Θ : GP) (l0 : Nat) (l1 : Int32) (s0 : Int32) (ω : OW) (n : Nat) (r : Out) (h : J_X10_sift_26 Θ l0 l1 s0 ω n = some r) : GR Θ yX10_sift cX10_sift 3 (some .boolean) 7 (0, 0) 26 [(0, .ref l0), (1, .int l1)] [.int s0] ω n r := by
  unfold J_X10_sift_26 at h
  refine g_istore_n (lv' := [(2, .int s0), (0, .ref l0), (1, .int l1)]) dX10_sift_26 rfl (by decide) rfl ?_
  refine g_iload_n dX10_sift_27 rfl 0 rfl ?_
  refine g_if_eq (tgt := 54) dX10_sift_28 (by decide) (fun c3 => ?_) (fun c3 => ?_)
  · rw [if_pos c3] at h
    refine G.lsub [1, 0] rfl ?_
    exact ok_J_X10_sift_54 Θ l0 s0 _ _ r h
  · rw [if_neg c3] at h
    refine g_aload_n dX10_sift_31 rfl 1 rfl ?_
    refine g_rA fl_X10_88 dX10_sift_32 h (fun a4 h => ?_)
    refine g_cV (ci := 6) (As := []) mv_X10_200 dX10_sift_35 rfl (ok_X6_lay Θ a4 _ _) rfl rfl (Nat.le_of_ble_eq_true rfl) (by decide) (by decide) (by decide) h (fun ω n h => ?_)
    refine G.less (B' := (0, 0)) (by decide) (by decide) ?_
    refine g_aload_n dX10_sift_38 rfl 1 rfl ?_
    refine g_rA fl_X10_23 dX10_sift_39 h (fun a6 h => ?_)
    refine g_aload_n dX10_sift_42 rfl 1 rfl ?_
    refine g_rA fl_X10_88 dX10_sift_43 h (fun a7 h => ?_)
    refine g_iload_n dX10_sift_46 rfl 2 rfl ?_
    refine g_aload_n dX10_sift_47 rfl 1 rfl ?_
    refine g_rA fl_X10_16 dX10_sift_48 h (fun a8 h => ?_)
    refine g_cV (ci := 7) (As := [.ref a7, .int l1, .ref a8]) mv_X10_432 dX10_sift_51 rfl (ok_X7_sift Θ a6 a7 l1 a8 _ _) rfl rfl (Nat.le_of_ble_eq_true rfl) (by decide) (by decide) (by decide) h (fun ω n h => ?_)
    refine G.less (B' := (0, 0)) (by decide) (by decide) ?_
    refine G.lsub [1, 0] rfl ?_
    exact ok_J_X10_sift_54 Θ l0 s0 _ _ r h
theorem ok_J_X10_sift_25 (Θ : GP) (l0 : Nat) (l1 : Int32) (ω : OW) (n : Nat) (r : Out) (h : J_X10_sift_25 Θ l0 l1 ω n = some r) : GR Θ yX10_sift cX10_sift 3 (some .boolean) 7 (0, 0) 25 [(0, .ref l0), (1, .int l1)] [] ω n r := by
  unfold J_X10_sift_25 at h
  refine g_iconst (v := 0) dX10_sift_25 (by decide) ?_
  exact ok_J_X10_sift_26 Θ l0 l1 0 _ _ r h
theorem ok_X10_sift (Θ : GP) (l0 : Nat) (l1 : Int32) (ω : OW) (n : Nat) : Ok Θ 7 0 0 yX10_sift cX10_sift 3 (some .boolean) [.ref l0, .int l1] ω n (F_X10_sift Θ l0 l1 ω n) := by
  refine Ok.of (by decide +kernel) (Nat.le_of_ble_eq_true rfl) (fun r h => ?_)
  unfold F_X10_sift at h
  show GR Θ yX10_sift cX10_sift 3 (some .boolean) 7 (0, 0) 0 [(0, .ref l0), (1, .int l1)] [] ω n r
  refine g_aload_n dX10_sift_0 rfl 0 rfl ?_
  refine g_rA fl_X10_16 dX10_sift_1 h (fun a10 h => ?_)
  refine g_cI (ci := 8) (As := []) mv_X10_429 dX10_sift_4 rfl (ok_X8_tellsFrights Θ a10 _ _) rfl rfl (Nat.le_of_ble_eq_true rfl) (by decide) (by decide) (by decide) h (fun x11 ω n h => ?_)
  refine G.less (B' := (0, 0)) (by decide) (by decide) ?_
  refine g_if_eq (tgt := 25) dX10_sift_7 (by decide) (fun c12 => ?_) (fun c12 => ?_)
  · rw [if_pos c12] at h
    exact ok_J_X10_sift_25 Θ l0 l1 _ _ r h
  · rw [if_neg c12] at h
    refine g_iload_n dX10_sift_10 rfl 1 rfl ?_
    refine g_iconst (v := 1) dX10_sift_11 (by decide) ?_
    refine g_icmp_lt (tgt := 25) dX10_sift_12 (by decide) (fun c13 => ?_) (fun c13 => ?_)
    · rw [if_pos c13] at h
      exact ok_J_X10_sift_25 Θ l0 l1 _ _ r h
    · rw [if_neg c13] at h
      refine g_iload_n dX10_sift_15 rfl 1 rfl ?_
      refine g_bipush (v := 60) dX10_sift_16 (by decide) ?_
      refine g_icmp_gt (tgt := 25) dX10_sift_18 (by decide) (fun c14 => ?_) (fun c14 => ?_)
      · rw [if_pos c14] at h
        exact ok_J_X10_sift_25 Θ l0 l1 _ _ r h
      · rw [if_neg c14] at h
        refine g_iconst (v := 1) dX10_sift_21 (by decide) ?_
        refine g_goto (tgt := 26) dX10_sift_22 (by decide) ?_
        exact ok_J_X10_sift_26 Θ l0 l1 1 _ _ r h
def J_X10_found_40 (Θ : GP) (s0 : Int32) (ω : OW) (n : Nat) : RO := some (.inl (some (.int s0), ω, n))
def F_X10_found (Θ : GP) (l0 : Nat) (l1 : Int32) (l2 : Int32) (ω : OW) (n : Nat) : RO := cO ω l0 10 (kI (F_X10_sift Θ l0 l1 ω n) (fun x1 ω n => if x1 = 0 then (some (.inr ("java/lang/IllegalArgumentException", ω))) else (if l2 = 0 then (rA ω l0 10 11 (fun a4 => cO ω a4 7 (kI (F_X7_howMany Θ a4 ω n) (fun x5 ω n => J_X10_found_40 Θ x5 ω n)))) else (rA ω l0 10 11 (fun a6 => cO ω a6 7 (kI (F_X7_deedsOfAll Θ a6 ω n) (fun x7 ω n => J_X10_found_40 Θ x7 ω n)))))))
theorem ok_J_X10_found_40 (Θ : GP) (s0 : Int32) (ω : OW) (n : Nat) (r : Out) (h : J_X10_found_40 Θ s0 ω n = some r) : GR Θ yX10_found cX10_found 3 (some .int) 8 (0, 0) 40 [] [.int s0] ω n r := by
  unfold J_X10_found_40 at h
  cases h
  exact g_iret rfl dX10_found_40 rfl
theorem ok_X10_found (Θ : GP) (l0 : Nat) (l1 : Int32) (l2 : Int32) (ω : OW) (n : Nat) : Ok Θ 8 1 6 yX10_found cX10_found 3 (some .int) [.ref l0, .int l1, .int l2] ω n (F_X10_found Θ l0 l1 l2 ω n) := by
  refine Ok.of (by decide +kernel) (Nat.le_of_ble_eq_true rfl) (fun r h => ?_)
  unfold F_X10_found at h
  show GR Θ yX10_found cX10_found 3 (some .int) 8 (1, 6) 0 [(0, .ref l0), (1, .int l1), (2, .int l2)] [] ω n r
  refine g_aload_n dX10_found_0 rfl 0 rfl ?_
  refine g_iload_n dX10_found_1 rfl 1 rfl ?_
  refine g_cI (ci := 10) (As := [.int l1]) mv_X10_335 dX10_found_2 rfl (ok_X10_sift Θ l0 l1 _ _) rfl rfl (Nat.le_of_ble_eq_true rfl) (by decide) (by decide) (by decide) h (fun x1 ω n h => ?_)
  refine G.less (B' := (1, 6)) (by decide) (by decide) ?_
  refine g_if_ne (tgt := 19) dX10_found_5 (by decide) (fun c2 => ?_) (fun c2 => ?_)
  · rw [if_neg c2] at h
    refine g_iload_n dX10_found_19 rfl 2 rfl ?_
    refine g_if_eq (tgt := 33) dX10_found_20 (by decide) (fun c3 => ?_) (fun c3 => ?_)
    · rw [if_pos c3] at h
      refine g_aload_n dX10_found_33 rfl 0 rfl ?_
      refine g_rA fl_X10_23 dX10_found_34 h (fun a4 h => ?_)
      refine g_cI (ci := 7) (As := []) mv_X10_343 dX10_found_37 rfl (ok_X7_howMany Θ a4 _ _) rfl rfl (Nat.le_of_ble_eq_true rfl) (by decide) (by decide) (by decide) h (fun x5 ω n h => ?_)
      refine G.less (B' := (1, 6)) (by decide) (by decide) ?_
      refine G.lsub [] rfl ?_
      refine G.less (B' := (0, 0)) (by decide) (by decide) ?_
      exact ok_J_X10_found_40 Θ x5 _ _ r h
    · rw [if_neg c3] at h
      refine g_aload_n dX10_found_23 rfl 0 rfl ?_
      refine g_rA fl_X10_23 dX10_found_24 h (fun a6 h => ?_)
      refine g_cI (ci := 7) (As := []) mv_X10_340 dX10_found_27 rfl (ok_X7_deedsOfAll Θ a6 _ _) rfl rfl (Nat.le_of_ble_eq_true rfl) (by decide) (by decide) (by decide) h (fun x7 ω n h => ?_)
      refine G.less (B' := (1, 6)) (by decide) (by decide) ?_
      refine g_goto (tgt := 40) dX10_found_30 (by decide) ?_
      refine G.lsub [] rfl ?_
      refine G.less (B' := (0, 0)) (by decide) (by decide) ?_
      exact ok_J_X10_found_40 Θ x7 _ _ r h
  · rw [if_pos c2] at h
    cases h
    exact g_throwW (q := 31) th_X10_125_129 rfl dX10_found_8 dX10_found_11 dX10_found_12 dX10_found_15 dX10_found_18 rfl (by decide) (by decide) (by decide) (Nat.le_of_ble_eq_true rfl) (fun _ _ => rfl)
def F_X10_ask (Θ : GP) (l0 : Nat) (l1 : Int32) (ω : OW) (n : Nat) : RO := cO ω l0 10 (kI (F_X10_sift Θ l0 l1 ω n) (fun x1 ω n => if x1 = 0 then (some (.inr ("java/lang/IllegalArgumentException", ω))) else (rA ω l0 10 11 (fun a3 => rA ω l0 10 0 (fun a4 => rA ω a4 0 11 (fun a5 => cO ω a3 7 (kI (F_X7_bestSlot Θ a3 a5 ω n) (fun x6 ω n => some (.inl (some (.int x6), ω, n))))))))))
theorem ok_X10_ask (Θ : GP) (l0 : Nat) (l1 : Int32) (ω : OW) (n : Nat) : Ok Θ 8 1 6 yX10_ask cX10_ask 2 (some .int) [.ref l0, .int l1] ω n (F_X10_ask Θ l0 l1 ω n) := by
  refine Ok.of (by decide +kernel) (Nat.le_of_ble_eq_true rfl) (fun r h => ?_)
  unfold F_X10_ask at h
  show GR Θ yX10_ask cX10_ask 2 (some .int) 8 (1, 6) 0 [(0, .ref l0), (1, .int l1)] [] ω n r
  refine g_aload_n dX10_ask_0 rfl 0 rfl ?_
  refine g_iload_n dX10_ask_1 rfl 1 rfl ?_
  refine g_cI (ci := 10) (As := [.int l1]) mv_X10_335 dX10_ask_2 rfl (ok_X10_sift Θ l0 l1 _ _) rfl rfl (Nat.le_of_ble_eq_true rfl) (by decide) (by decide) (by decide) h (fun x1 ω n h => ?_)
  refine G.less (B' := (1, 6)) (by decide) (by decide) ?_
  refine g_if_ne (tgt := 19) dX10_ask_5 (by decide) (fun c2 => ?_) (fun c2 => ?_)
  · rw [if_neg c2] at h
    refine g_aload_n dX10_ask_19 rfl 0 rfl ?_
    refine g_rA fl_X10_23 dX10_ask_20 h (fun a3 h => ?_)
    refine g_aload_n dX10_ask_23 rfl 0 rfl ?_
    refine g_rA fl_X10_48 dX10_ask_24 h (fun a4 h => ?_)
    refine g_rA fl_X10_178 dX10_ask_27 h (fun a5 h => ?_)
    refine g_cI (ci := 7) (As := [.ref a5]) mv_X10_346 dX10_ask_30 rfl (ok_X7_bestSlot Θ a3 a5 _ _) rfl rfl (Nat.le_of_ble_eq_true rfl) (by decide) (by decide) (by decide) h (fun x6 ω n h => ?_)
    refine G.less (B' := (1, 6)) (by decide) (by decide) ?_
    cases h
    exact g_iret rfl dX10_ask_33 rfl
  · rw [if_pos c2] at h
    cases h
    exact g_throwW (q := 31) th_X10_125_129 rfl dX10_ask_8 dX10_ask_11 dX10_ask_12 dX10_ask_15 dX10_ask_18 rfl (by decide) (by decide) (by decide) (Nat.le_of_ble_eq_true rfl) (fun _ _ => rfl)
def J_X10_car_186 (Θ : GP) (s0 : Int32) (s1 : Int32) (ω : OW) (n : Nat) : RO := some (.inl (some (.int (s1 ||| s0)), ω, n))
def J_X10_car_170 (Θ : GP) (l0 : Nat) (s0 : Int32) (ω : OW) (n : Nat) : RO := rA ω l0 10 9 (fun a1 => rI ω a1 6 8 (fun x2 => if x2 = (-1) then (J_X10_car_186 Θ 0 s0 ω n) else (J_X10_car_186 Θ 2 s0 ω n)))
def J_X10_car_148 (Θ : GP) (k_72 : Nat → Int32 → OW → Nat → RO) (l0 : Nat) (l3 : Int32) (ω : OW) (n : Nat) : RO := k_72 l0 (l3 + 1) ω n
def J_X10_car_123 (Θ : GP) (k_72 : Nat → Int32 → OW → Nat → RO) (l0 : Nat) (l3 : Int32) (l4 : Int32) (l5 : Int32) (ω : OW) (n : Nat) : RO := if l5 = 0 then (J_X10_car_148 Θ k_72 l0 l3 ω n) else (if l4 = 0 then (rA ω l0 10 8 (fun a6 => rA ω l0 10 0 (fun a7 => rI ω a7 0 4 (fun x8 => cO ω a6 6 (kV (F_X6_hear Θ a6 l3 x8 ω n) (fun ω n => J_X10_car_148 Θ k_72 l0 l3 ω n)))))) else (J_X10_car_148 Θ k_72 l0 l3 ω n))
def B_X10_car_72 (Θ : GP) (k_72 : Nat → Int32 → OW → Nat → RO) (l0 : Nat) (l3 : Int32) (ω : OW) (n : Nat) : RO := if 10 ≤ l3 then (rA ω l0 10 8 (fun a11 => rI ω a11 6 8 (fun x12 => if x12 = (-1) then (J_X10_car_170 Θ l0 0 ω n) else (J_X10_car_170 Θ l0 1 ω n)))) else (rA ω l0 10 8 (fun a14 => cO ω a14 6 (kI (F_X6_screamsIn Θ a14 l3 ω n) (fun x15 ω n => rA ω l0 10 9 (fun a16 => cO ω a16 6 (kI (F_X6_screamsIn Θ a16 l3 ω n) (fun x17 ω n => if x15 = 0 then (J_X10_car_123 Θ k_72 l0 l3 x15 x17 ω n) else (if x17 = 0 then (rA ω l0 10 9 (fun a20 => rA ω l0 10 0 (fun a21 => rI ω a21 0 4 (fun x22 => cO ω a20 6 (kV (F_X6_hear Θ a20 l3 x22 ω n) (fun ω n => J_X10_car_123 Θ k_72 l0 l3 x15 x17 ω n)))))) else (J_X10_car_123 Θ k_72 l0 l3 x15 x17 ω n)))))))))
def L_X10_car_72 (Θ : GP) : Nat → Nat → Int32 → OW → Nat → RO
  | 0, _, _, _, _ => none
  | f + 1, l0, l3, ω, n => B_X10_car_72 Θ (L_X10_car_72 Θ f) l0 l3 ω n
def F_X10_car (Θ : GP) (l0 : Nat) (l1 : Int32) (l2 : Int32) (ω : OW) (n : Nat) : RO := cO ω l0 10 (kV (F_X10_needOne Θ l0 l1 ω n) (fun ω n => cO ω l0 10 (kV (F_X10_needOne Θ l0 l2 ω n) (fun ω n => if l1 = l2 then (some (.inr ("java/lang/IllegalArgumentException", ω))) else (rA ω l0 10 8 (fun a27 => cO ω a27 6 (kV (F_X6_lay Θ a27 ω n) (fun ω n => rA ω l0 10 8 (fun a29 => cO ω a29 6 (kV (F_X6_board Θ a29 l1 ω n) (fun ω n => rA ω l0 10 8 (fun a31 => cO ω a31 6 (kV (F_X6_start Θ a31 ω n) (fun ω n => rA ω l0 10 9 (fun a33 => cO ω a33 6 (kV (F_X6_lay Θ a33 ω n) (fun ω n => rA ω l0 10 9 (fun a35 => cO ω a35 6 (kV (F_X6_board Θ a35 l2 ω n) (fun ω n => rA ω l0 10 9 (fun a37 => cO ω a37 6 (kV (F_X6_start Θ a37 ω n) (fun ω n => L_X10_car_72 Θ 5000 l0 0 ω n)))))))))))))))))))))))
theorem ok_J_X10_car_186 (Θ : GP) (s0 : Int32) (s1 : Int32) (ω : OW) (n : Nat) (r : Out) (h : J_X10_car_186 Θ s0 s1 ω n = some r) : GR Θ yX10_car cX10_car 6 (some .int) 7 (0, 0) 186 [] [.int s0, .int s1] ω n r := by
  unfold J_X10_car_186 at h
  refine g_ior dX10_car_186 ?_
  cases h
  exact g_iret rfl dX10_car_187 rfl
theorem ok_J_X10_car_170 (Θ : GP) (l0 : Nat) (s0 : Int32) (ω : OW) (n : Nat) (r : Out) (h : J_X10_car_170 Θ l0 s0 ω n = some r) : GR Θ yX10_car cX10_car 6 (some .int) 7 (0, 0) 170 [(0, .ref l0)] [.int s0] ω n r := by
  unfold J_X10_car_170 at h
  refine g_aload_n dX10_car_170 rfl 0 rfl ?_
  refine g_rA fl_X10_92 dX10_car_171 h (fun a1 h => ?_)
  refine g_rI fl_X10_243 dX10_car_174 h (fun x2 h => ?_)
  refine g_iconst (v := (-1)) dX10_car_177 (by decide) ?_
  refine g_icmp_eq (tgt := 185) dX10_car_178 (by decide) (fun c3 => ?_) (fun c3 => ?_)
  · rw [if_pos c3] at h
    refine g_iconst (v := 0) dX10_car_185 (by decide) ?_
    refine G.lsub [] rfl ?_
    exact ok_J_X10_car_186 Θ 0 s0 _ _ r h
  · rw [if_neg c3] at h
    refine g_iconst (v := 2) dX10_car_181 (by decide) ?_
    refine g_goto (tgt := 186) dX10_car_182 (by decide) ?_
    refine G.lsub [] rfl ?_
    exact ok_J_X10_car_186 Θ 2 s0 _ _ r h
theorem ok_J_X10_car_148 (Θ : GP) (k_72 : Nat → Int32 → OW → Nat → RO) (hk_72 : ∀ l0 l3 ω n r, k_72 l0 l3 ω n = some r → GR Θ yX10_car cX10_car 6 (some .int) 7 (0, 0) 72 [(0, .ref l0), (3, .int l3)] [] ω n r) (l0 : Nat) (l3 : Int32) (ω : OW) (n : Nat) (r : Out) (h : J_X10_car_148 Θ k_72 l0 l3 ω n = some r) : GR Θ yX10_car cX10_car 6 (some .int) 7 (0, 0) 148 [(0, .ref l0), (3, .int l3)] [] ω n r := by
  unfold J_X10_car_148 at h
  refine g_iinc (j := 1) (v := l3 + 1) (lv' := [(3, .int (l3 + 1)), (0, .ref l0)]) dX10_car_148 rfl rfl (by decide) rfl ?_
  refine g_goto (tgt := 72) dX10_car_151 (by decide) ?_
  refine G.lsub [1, 0] rfl ?_
  exact hk_72 l0 (l3 + 1) _ _ r h
theorem ok_J_X10_car_123 (Θ : GP) (k_72 : Nat → Int32 → OW → Nat → RO) (hk_72 : ∀ l0 l3 ω n r, k_72 l0 l3 ω n = some r → GR Θ yX10_car cX10_car 6 (some .int) 7 (0, 0) 72 [(0, .ref l0), (3, .int l3)] [] ω n r) (l0 : Nat) (l3 : Int32) (l4 : Int32) (l5 : Int32) (ω : OW) (n : Nat) (r : Out) (h : J_X10_car_123 Θ k_72 l0 l3 l4 l5 ω n = some r) : GR Θ yX10_car cX10_car 6 (some .int) 7 (0, 0) 123 [(0, .ref l0), (3, .int l3), (4, .int l4), (5, .int l5)] [] ω n r := by
  unfold J_X10_car_123 at h
  refine g_iload dX10_car_123 3 rfl ?_
  refine g_if_eq (tgt := 148) dX10_car_125 (by decide) (fun c4 => ?_) (fun c4 => ?_)
  · rw [if_pos c4] at h
    refine G.lsub [0, 1] rfl ?_
    exact ok_J_X10_car_148 Θ k_72 hk_72 l0 l3 _ _ r h
  · rw [if_neg c4] at h
    refine g_iload dX10_car_128 2 rfl ?_
    refine g_if_ne (tgt := 148) dX10_car_130 (by decide) (fun c5 => ?_) (fun c5 => ?_)
    · rw [if_neg c5] at h
      refine G.lsub [0, 1] rfl ?_
      exact ok_J_X10_car_148 Θ k_72 hk_72 l0 l3 _ _ r h
    · rw [if_pos c5] at h
      refine g_aload_n dX10_car_133 rfl 0 rfl ?_
      refine g_rA fl_X10_88 dX10_car_134 h (fun a6 h => ?_)
      refine g_iload_n dX10_car_137 rfl 1 rfl ?_
      refine g_aload_n dX10_car_138 rfl 0 rfl ?_
      refine g_rA fl_X10_48 dX10_car_139 h (fun a7 h => ?_)
      refine g_rI fl_X10_357 dX10_car_142 h (fun x8 h => ?_)
      refine g_cV (ci := 6) (As := [.int l3, .int x8]) mv_X10_360 dX10_car_145 rfl (ok_X6_hear Θ a6 l3 x8 _ _) rfl rfl (Nat.le_of_ble_eq_true rfl) (by decide) (by decide) (by decide) h (fun ω n h => ?_)
      refine G.less (B' := (0, 0)) (by decide) (by decide) ?_
      refine G.lsub [0, 1] rfl ?_
      exact ok_J_X10_car_148 Θ k_72 hk_72 l0 l3 _ _ r h
theorem ok_B_X10_car_72 (Θ : GP) (k_72 : Nat → Int32 → OW → Nat → RO) (hk_72 : ∀ l0 l3 ω n r, k_72 l0 l3 ω n = some r → GR Θ yX10_car cX10_car 6 (some .int) 7 (0, 0) 72 [(0, .ref l0), (3, .int l3)] [] ω n r) (l0 : Nat) (l3 : Int32) (ω : OW) (n : Nat) (r : Out) (h : B_X10_car_72 Θ k_72 l0 l3 ω n = some r) : GR Θ yX10_car cX10_car 6 (some .int) 7 (0, 0) 72 [(0, .ref l0), (3, .int l3)] [] ω n r := by
  unfold B_X10_car_72 at h
  refine g_iload_n dX10_car_72 rfl 1 rfl ?_
  refine g_bipush (v := 10) dX10_car_73 (by decide) ?_
  refine g_icmp_ge (tgt := 154) dX10_car_75 (by decide) (fun c10 => ?_) (fun c10 => ?_)
  · rw [if_pos c10] at h
    refine g_aload_n dX10_car_154 rfl 0 rfl ?_
    refine g_rA fl_X10_88 dX10_car_155 h (fun a11 h => ?_)
    refine g_rI fl_X10_243 dX10_car_158 h (fun x12 h => ?_)
    refine g_iconst (v := (-1)) dX10_car_161 (by decide) ?_
    refine g_icmp_eq (tgt := 169) dX10_car_162 (by decide) (fun c13 => ?_) (fun c13 => ?_)
    · rw [if_pos c13] at h
      refine g_iconst (v := 0) dX10_car_169 (by decide) ?_
      refine G.lsub [0] rfl ?_
      exact ok_J_X10_car_170 Θ l0 0 _ _ r h
    · rw [if_neg c13] at h
      refine g_iconst (v := 1) dX10_car_165 (by decide) ?_
      refine g_goto (tgt := 170) dX10_car_166 (by decide) ?_
      refine G.lsub [0] rfl ?_
      exact ok_J_X10_car_170 Θ l0 1 _ _ r h
  · rw [if_neg c10] at h
    refine g_aload_n dX10_car_78 rfl 0 rfl ?_
    refine g_rA fl_X10_88 dX10_car_79 h (fun a14 h => ?_)
    refine g_iload_n dX10_car_82 rfl 1 rfl ?_
    refine g_cI (ci := 6) (As := [.int l3]) mv_X10_354 dX10_car_83 rfl (ok_X6_screamsIn Θ a14 l3 _ _) rfl rfl (Nat.le_of_ble_eq_true rfl) (by decide) (by decide) (by decide) h (fun x15 ω n h => ?_)
    refine G.less (B' := (0, 0)) (by decide) (by decide) ?_
    refine g_istore (lv' := [(4, .int x15), (0, .ref l0), (3, .int l3)]) dX10_car_86 (by decide) rfl ?_
    refine g_aload_n dX10_car_88 rfl 1 rfl ?_
    refine g_rA fl_X10_92 dX10_car_89 h (fun a16 h => ?_)
    refine g_iload_n dX10_car_92 rfl 2 rfl ?_
    refine g_cI (ci := 6) (As := [.int l3]) mv_X10_354 dX10_car_93 rfl (ok_X6_screamsIn Θ a16 l3 _ _) rfl rfl (Nat.le_of_ble_eq_true rfl) (by decide) (by decide) (by decide) h (fun x17 ω n h => ?_)
    refine G.less (B' := (0, 0)) (by decide) (by decide) ?_
    refine g_istore (lv' := [(5, .int x17), (4, .int x15), (0, .ref l0), (3, .int l3)]) dX10_car_96 (by decide) rfl ?_
    refine g_iload dX10_car_98 1 rfl ?_
    refine g_if_eq (tgt := 123) dX10_car_100 (by decide) (fun c18 => ?_) (fun c18 => ?_)
    · rw [if_pos c18] at h
      refine G.lsub [2, 3, 1, 0] rfl ?_
      exact ok_J_X10_car_123 Θ k_72 hk_72 l0 l3 x15 x17 _ _ r h
    · rw [if_neg c18] at h
      refine g_iload dX10_car_103 0 rfl ?_
      refine g_if_ne (tgt := 123) dX10_car_105 (by decide) (fun c19 => ?_) (fun c19 => ?_)
      · rw [if_neg c19] at h
        refine G.lsub [2, 3, 1, 0] rfl ?_
        exact ok_J_X10_car_123 Θ k_72 hk_72 l0 l3 x15 x17 _ _ r h
      · rw [if_pos c19] at h
        refine g_aload_n dX10_car_108 rfl 2 rfl ?_
        refine g_rA fl_X10_92 dX10_car_109 h (fun a20 h => ?_)
        refine g_iload_n dX10_car_112 rfl 3 rfl ?_
        refine g_aload_n dX10_car_113 rfl 2 rfl ?_
        refine g_rA fl_X10_48 dX10_car_114 h (fun a21 h => ?_)
        refine g_rI fl_X10_357 dX10_car_117 h (fun x22 h => ?_)
        refine g_cV (ci := 6) (As := [.int l3, .int x22]) mv_X10_360 dX10_car_120 rfl (ok_X6_hear Θ a20 l3 x22 _ _) rfl rfl (Nat.le_of_ble_eq_true rfl) (by decide) (by decide) (by decide) h (fun ω n h => ?_)
        refine G.less (B' := (0, 0)) (by decide) (by decide) ?_
        refine G.lsub [2, 3, 1, 0] rfl ?_
        exact ok_J_X10_car_123 Θ k_72 hk_72 l0 l3 x15 x17 _ _ r h
theorem ok_L_X10_car_72 (Θ : GP) : ∀ (f : Nat) (l0 : Nat) (l3 : Int32) (ω : OW) (n : Nat) (r : Out), L_X10_car_72 Θ f l0 l3 ω n = some r → GR Θ yX10_car cX10_car 6 (some .int) 7 (0, 0) 72 [(0, .ref l0), (3, .int l3)] [] ω n r := by
  intro f
  induction f with
  | zero =>
    intro l0 l3 ω n r h
    unfold L_X10_car_72 at h
    cases h
  | succ f ih =>
    intro l0 l3 ω n r h
    unfold L_X10_car_72 at h
    exact ok_B_X10_car_72 Θ (L_X10_car_72 Θ f) ih l0 l3 ω n r h
theorem ok_X10_car (Θ : GP) (l0 : Nat) (l1 : Int32) (l2 : Int32) (ω : OW) (n : Nat) : Ok Θ 7 3 18 yX10_car cX10_car 6 (some .int) [.ref l0, .int l1, .int l2] ω n (F_X10_car Θ l0 l1 l2 ω n) := by
  refine Ok.of (by decide +kernel) (Nat.le_of_ble_eq_true rfl) (fun r h => ?_)
  unfold F_X10_car at h
  show GR Θ yX10_car cX10_car 6 (some .int) 7 (3, 18) 0 [(0, .ref l0), (1, .int l1), (2, .int l2)] [] ω n r
  refine g_aload_n dX10_car_0 rfl 0 rfl ?_
  refine g_iload_n dX10_car_1 rfl 1 rfl ?_
  refine g_cV (ci := 10) (As := [.int l1]) mv_X10_181 dX10_car_2 rfl (ok_X10_needOne Θ l0 l1 _ _) rfl rfl (Nat.le_of_ble_eq_true rfl) (by decide) (by decide) (by decide) h (fun ω n h => ?_)
  refine G.less (B' := (2, 12)) (by decide) (by decide) ?_
  refine g_aload_n dX10_car_5 rfl 0 rfl ?_
  refine g_iload_n dX10_car_6 rfl 2 rfl ?_
  refine g_cV (ci := 10) (As := [.int l2]) mv_X10_181 dX10_car_7 rfl (ok_X10_needOne Θ l0 l2 _ _) rfl rfl (Nat.le_of_ble_eq_true rfl) (by decide) (by decide) (by decide) h (fun ω n h => ?_)
  refine G.less (B' := (1, 6)) (by decide) (by decide) ?_
  refine g_iload_n dX10_car_10 rfl 1 rfl ?_
  refine g_iload_n dX10_car_11 rfl 2 rfl ?_
  refine g_icmp_ne (tgt := 26) dX10_car_12 (by decide) (fun c26 => ?_) (fun c26 => ?_)
  · rw [if_neg c26] at h
    refine g_aload_n dX10_car_26 rfl 0 rfl ?_
    refine g_rA fl_X10_88 dX10_car_27 h (fun a27 h => ?_)
    refine g_cV (ci := 6) (As := []) mv_X10_200 dX10_car_30 rfl (ok_X6_lay Θ a27 _ _) rfl rfl (Nat.le_of_ble_eq_true rfl) (by decide) (by decide) (by decide) h (fun ω n h => ?_)
    refine G.less (B' := (1, 6)) (by decide) (by decide) ?_
    refine g_aload_n dX10_car_33 rfl 0 rfl ?_
    refine g_rA fl_X10_88 dX10_car_34 h (fun a29 h => ?_)
    refine g_iload_n dX10_car_37 rfl 1 rfl ?_
    refine g_cV (ci := 6) (As := [.int l1]) mv_X10_203 dX10_car_38 rfl (ok_X6_board Θ a29 l1 _ _) rfl rfl (Nat.le_of_ble_eq_true rfl) (by decide) (by decide) (by decide) h (fun ω n h => ?_)
    refine G.less (B' := (1, 6)) (by decide) (by decide) ?_
    refine g_aload_n dX10_car_41 rfl 0 rfl ?_
    refine g_rA fl_X10_88 dX10_car_42 h (fun a31 h => ?_)
    refine g_cV (ci := 6) (As := []) mv_X10_351 dX10_car_45 rfl (ok_X6_start Θ a31 _ _) rfl rfl (Nat.le_of_ble_eq_true rfl) (by decide) (by decide) (by decide) h (fun ω n h => ?_)
    refine G.less (B' := (1, 6)) (by decide) (by decide) ?_
    refine g_aload_n dX10_car_48 rfl 0 rfl ?_
    refine g_rA fl_X10_92 dX10_car_49 h (fun a33 h => ?_)
    refine g_cV (ci := 6) (As := []) mv_X10_200 dX10_car_52 rfl (ok_X6_lay Θ a33 _ _) rfl rfl (Nat.le_of_ble_eq_true rfl) (by decide) (by decide) (by decide) h (fun ω n h => ?_)
    refine G.less (B' := (1, 6)) (by decide) (by decide) ?_
    refine g_aload_n dX10_car_55 rfl 0 rfl ?_
    refine g_rA fl_X10_92 dX10_car_56 h (fun a35 h => ?_)
    refine g_iload_n dX10_car_59 rfl 2 rfl ?_
    refine g_cV (ci := 6) (As := [.int l2]) mv_X10_203 dX10_car_60 rfl (ok_X6_board Θ a35 l2 _ _) rfl rfl (Nat.le_of_ble_eq_true rfl) (by decide) (by decide) (by decide) h (fun ω n h => ?_)
    refine G.less (B' := (1, 6)) (by decide) (by decide) ?_
    refine g_aload_n dX10_car_63 rfl 0 rfl ?_
    refine g_rA fl_X10_92 dX10_car_64 h (fun a37 h => ?_)
    refine g_cV (ci := 6) (As := []) mv_X10_351 dX10_car_67 rfl (ok_X6_start Θ a37 _ _) rfl rfl (Nat.le_of_ble_eq_true rfl) (by decide) (by decide) (by decide) h (fun ω n h => ?_)
    refine G.less (B' := (1, 6)) (by decide) (by decide) ?_
    refine g_iconst (v := 0) dX10_car_70 (by decide) ?_
    refine g_istore_n (lv' := [(3, .int 0), (0, .ref l0), (1, .int l1), (2, .int l2)]) dX10_car_71 rfl (by decide) rfl ?_
    refine G.lsub [1, 0] rfl ?_
    refine G.less (B' := (0, 0)) (by decide) (by decide) ?_
    exact ok_L_X10_car_72 Θ 5000 l0 0 _ _ r h
  · rw [if_pos c26] at h
    cases h
    exact g_throwW (q := 32) th_X10_125_129 rfl dX10_car_15 dX10_car_18 dX10_car_19 dX10_car_22 dX10_car_25 rfl (by decide) (by decide) (by decide) (Nat.le_of_ble_eq_true rfl) (fun _ _ => rfl)
def J_X10_corners_84 (Θ : GP) (k_14 : Nat → Int32 → Int32 → OW → Nat → RO) (l0 : Nat) (l2 : Int32) (l3 : Int32) (ω : OW) (n : Nat) : RO := k_14 l0 l2 (l3 + 1) ω n
def J_X10_corners_38 (Θ : GP) (k_14 : Nat → Int32 → Int32 → OW → Nat → RO) (l0 : Nat) (l2 : Int32) (l3 : Int32) (s0 : Int32) (ω : OW) (n : Nat) : RO := if s0 = 0 then (J_X10_corners_84 Θ k_14 l0 l2 l3 ω n) else (rA ω l0 10 8 (fun a2 => rA ω a2 6 1 (fun a3 => lI ω (gI Θ) a3 l3 (fun x4 => if 0 ≤ x4 then (J_X10_corners_84 Θ k_14 l0 l2 l3 ω n) else (rA ω l0 10 8 (fun a6 => rA ω a6 6 10 (fun a7 => lI ω (gI Θ) a7 l3 (fun x8 => rA ω l0 10 8 (fun a9 => rI ω a9 6 4 (fun x10 => if x8 < (x10 / 2) then (J_X10_corners_84 Θ k_14 l0 l2 l3 ω n) else (J_X10_corners_84 Θ k_14 l0 (l2 ||| (1 <<< ((l3 : Int32) &&& 31))) l3 ω n)))))))))))
def B_X10_corners_14 (Θ : GP) (k_14 : Nat → Int32 → Int32 → OW → Nat → RO) (l0 : Nat) (l2 : Int32) (l3 : Int32) (ω : OW) (n : Nat) : RO := if 10 ≤ l3 then (some (.inl (some (.int l2), ω, n))) else (rA ω l0 10 8 (fun a13 => rA ω a13 6 10 (fun a14 => lI ω (gI Θ) a14 l3 (fun x15 => if x15 = (-1) then (J_X10_corners_38 Θ k_14 l0 l2 l3 0 ω n) else (J_X10_corners_38 Θ k_14 l0 l2 l3 1 ω n)))))
def L_X10_corners_14 (Θ : GP) : Nat → Nat → Int32 → Int32 → OW → Nat → RO
  | 0, _, _, _, _, _ => none
  | f + 1, l0, l2, l3, ω, n => B_X10_corners_14 Θ (L_X10_corners_14 Θ f) l0 l2 l3 ω n
def F_X10_corners (Θ : GP) (l0 : Nat) (l1 : Int32) (ω : OW) (n : Nat) : RO := cO ω l0 10 (kV (F_X10_needOne Θ l0 l1 ω n) (fun ω n => cO ω l0 10 (kV (F_X10_rideStraight Θ l0 l1 ω n) (fun ω n => L_X10_corners_14 Θ 5000 l0 0 0 ω n))))
theorem ok_J_X10_corners_84 (Θ : GP) (k_14 : Nat → Int32 → Int32 → OW → Nat → RO) (hk_14 : ∀ l0 l2 l3 ω n r, k_14 l0 l2 l3 ω n = some r → GR Θ yX10_corners cX10_corners 5 (some .int) 7 (0, 0) 14 [(0, .ref l0), (2, .int l2), (3, .int l3)] [] ω n r) (l0 : Nat) (l2 : Int32) (l3 : Int32) (ω : OW) (n : Nat) (r : Out) (h : J_X10_corners_84 Θ k_14 l0 l2 l3 ω n = some r) : GR Θ yX10_corners cX10_corners 5 (some .int) 7 (0, 0) 84 [(0, .ref l0), (2, .int l2), (3, .int l3)] [] ω n r := by
  unfold J_X10_corners_84 at h
  refine g_iinc (j := 2) (v := l3 + 1) (lv' := [(3, .int (l3 + 1)), (0, .ref l0), (2, .int l2)]) dX10_corners_84 rfl rfl (by decide) rfl ?_
  refine g_goto (tgt := 14) dX10_corners_87 (by decide) ?_
  refine G.lsub [1, 2, 0] rfl ?_
  exact hk_14 l0 l2 (l3 + 1) _ _ r h
theorem ok_J_X10_corners_38 (Θ : GP) (k_14 : Nat → Int32 → Int32 → OW → Nat → RO) (hk_14 : ∀ l0 l2 l3 ω n r, k_14 l0 l2 l3 ω n = some r → GR Θ yX10_corners cX10_corners 5 (some .int) 7 (0, 0) 14 [(0, .ref l0), (2, .int l2), (3, .int l3)] [] ω n r) (l0 : Nat) (l2 : Int32) (l3 : Int32) (s0 : Int32) (ω : OW) (n : Nat) (r : Out) (h : J_X10_corners_38 Θ k_14 l0 l2 l3 s0 ω n = some r) : GR Θ yX10_corners cX10_corners 5 (some .int) 7 (0, 0) 38 [(0, .ref l0), (2, .int l2), (3, .int l3)] [.int s0] ω n r := by
  unfold J_X10_corners_38 at h
  refine g_istore (lv' := [(4, .int s0), (0, .ref l0), (2, .int l2), (3, .int l3)]) dX10_corners_38 (by decide) rfl ?_
  refine g_iload dX10_corners_40 0 rfl ?_
  refine g_if_eq (tgt := 84) dX10_corners_42 (by decide) (fun c1 => ?_) (fun c1 => ?_)
  · rw [if_pos c1] at h
    refine G.lsub [1, 2, 3] rfl ?_
    exact ok_J_X10_corners_84 Θ k_14 hk_14 l0 l2 l3 _ _ r h
  · rw [if_neg c1] at h
    refine g_aload_n dX10_corners_45 rfl 1 rfl ?_
    refine g_rA fl_X10_88 dX10_corners_46 h (fun a2 h => ?_)
    refine g_rA fl_X10_331 dX10_corners_49 h (fun a3 h => ?_)
    refine g_iload_n dX10_corners_52 rfl 3 rfl ?_
    refine g_lIi dX10_corners_53 h (fun x4 h => ?_)
    refine g_if_ge (tgt := 84) dX10_corners_54 (by decide) (fun c5 => ?_) (fun c5 => ?_)
    · rw [if_pos c5] at h
      refine G.lsub [1, 2, 3] rfl ?_
      exact ok_J_X10_corners_84 Θ k_14 hk_14 l0 l2 l3 _ _ r h
    · rw [if_neg c5] at h
      refine g_aload_n dX10_corners_57 rfl 1 rfl ?_
      refine g_rA fl_X10_88 dX10_corners_58 h (fun a6 h => ?_)
      refine g_rA fl_X10_303 dX10_corners_61 h (fun a7 h => ?_)
      refine g_iload_n dX10_corners_64 rfl 3 rfl ?_
      refine g_lIi dX10_corners_65 h (fun x8 h => ?_)
      refine g_aload_n dX10_corners_66 rfl 1 rfl ?_
      refine g_rA fl_X10_88 dX10_corners_67 h (fun a9 h => ?_)
      refine g_rI fl_X10_363 dX10_corners_70 h (fun x10 h => ?_)
      refine g_iconst (v := 2) dX10_corners_73 (by decide) ?_
      refine g_idiv dX10_corners_74 (by decide) ?_
      refine g_icmp_lt (tgt := 84) dX10_corners_75 (by decide) (fun c11 => ?_) (fun c11 => ?_)
      · rw [if_pos c11] at h
        refine G.lsub [1, 2, 3] rfl ?_
        exact ok_J_X10_corners_84 Θ k_14 hk_14 l0 l2 l3 _ _ r h
      · rw [if_neg c11] at h
        refine g_iload_n dX10_corners_78 rfl 2 rfl ?_
        refine g_iconst (v := 1) dX10_corners_79 (by decide) ?_
        refine g_iload_n dX10_corners_80 rfl 3 rfl ?_
        refine g_ishl dX10_corners_81 ?_
        refine g_ior dX10_corners_82 ?_
        refine g_istore_n (lv' := [(2, .int (l2 ||| (1 <<< ((l3 : Int32) &&& 31)))), (4, .int s0), (0, .ref l0), (3, .int l3)]) dX10_corners_83 rfl (by decide) rfl ?_
        refine G.lsub [2, 0, 3] rfl ?_
        exact ok_J_X10_corners_84 Θ k_14 hk_14 l0 (l2 ||| (1 <<< ((l3 : Int32) &&& 31))) l3 _ _ r h
theorem ok_B_X10_corners_14 (Θ : GP) (k_14 : Nat → Int32 → Int32 → OW → Nat → RO) (hk_14 : ∀ l0 l2 l3 ω n r, k_14 l0 l2 l3 ω n = some r → GR Θ yX10_corners cX10_corners 5 (some .int) 7 (0, 0) 14 [(0, .ref l0), (2, .int l2), (3, .int l3)] [] ω n r) (l0 : Nat) (l2 : Int32) (l3 : Int32) (ω : OW) (n : Nat) (r : Out) (h : B_X10_corners_14 Θ k_14 l0 l2 l3 ω n = some r) : GR Θ yX10_corners cX10_corners 5 (some .int) 7 (0, 0) 14 [(0, .ref l0), (2, .int l2), (3, .int l3)] [] ω n r := by
  unfold B_X10_corners_14 at h
  refine g_iload_n dX10_corners_14 rfl 2 rfl ?_
  refine g_bipush (v := 10) dX10_corners_15 (by decide) ?_
  refine g_icmp_ge (tgt := 90) dX10_corners_17 (by decide) (fun c12 => ?_) (fun c12 => ?_)
  · rw [if_pos c12] at h
    refine g_iload_n dX10_corners_90 rfl 1 rfl ?_
    cases h
    exact g_iret rfl dX10_corners_91 rfl
  · rw [if_neg c12] at h
    refine g_aload_n dX10_corners_20 rfl 0 rfl ?_
    refine g_rA fl_X10_88 dX10_corners_21 h (fun a13 h => ?_)
    refine g_rA fl_X10_303 dX10_corners_24 h (fun a14 h => ?_)
    refine g_iload_n dX10_corners_27 rfl 2 rfl ?_
    refine g_lIi dX10_corners_28 h (fun x15 h => ?_)
    refine g_iconst (v := (-1)) dX10_corners_29 (by decide) ?_
    refine g_icmp_eq (tgt := 37) dX10_corners_30 (by decide) (fun c16 => ?_) (fun c16 => ?_)
    · rw [if_pos c16] at h
      refine g_iconst (v := 0) dX10_corners_37 (by decide) ?_
      exact ok_J_X10_corners_38 Θ k_14 hk_14 l0 l2 l3 0 _ _ r h
    · rw [if_neg c16] at h
      refine g_iconst (v := 1) dX10_corners_33 (by decide) ?_
      refine g_goto (tgt := 38) dX10_corners_34 (by decide) ?_
      exact ok_J_X10_corners_38 Θ k_14 hk_14 l0 l2 l3 1 _ _ r h
theorem ok_L_X10_corners_14 (Θ : GP) : ∀ (f : Nat) (l0 : Nat) (l2 : Int32) (l3 : Int32) (ω : OW) (n : Nat) (r : Out), L_X10_corners_14 Θ f l0 l2 l3 ω n = some r → GR Θ yX10_corners cX10_corners 5 (some .int) 7 (0, 0) 14 [(0, .ref l0), (2, .int l2), (3, .int l3)] [] ω n r := by
  intro f
  induction f with
  | zero =>
    intro l0 l2 l3 ω n r h
    unfold L_X10_corners_14 at h
    cases h
  | succ f ih =>
    intro l0 l2 l3 ω n r h
    unfold L_X10_corners_14 at h
    exact ok_B_X10_corners_14 Θ (L_X10_corners_14 Θ f) ih l0 l2 l3 ω n r h
theorem ok_X10_corners (Θ : GP) (l0 : Nat) (l1 : Int32) (ω : OW) (n : Nat) : Ok Θ 7 1 6 yX10_corners cX10_corners 5 (some .int) [.ref l0, .int l1] ω n (F_X10_corners Θ l0 l1 ω n) := by
  refine Ok.of (by decide +kernel) (Nat.le_of_ble_eq_true rfl) (fun r h => ?_)
  unfold F_X10_corners at h
  show GR Θ yX10_corners cX10_corners 5 (some .int) 7 (1, 6) 0 [(0, .ref l0), (1, .int l1)] [] ω n r
  refine g_aload_n dX10_corners_0 rfl 0 rfl ?_
  refine g_iload_n dX10_corners_1 rfl 1 rfl ?_
  refine g_cV (ci := 10) (As := [.int l1]) mv_X10_181 dX10_corners_2 rfl (ok_X10_needOne Θ l0 l1 _ _) rfl rfl (Nat.le_of_ble_eq_true rfl) (by decide) (by decide) (by decide) h (fun ω n h => ?_)
  refine G.less (B' := (0, 0)) (by decide) (by decide) ?_
  refine g_aload_n dX10_corners_5 rfl 0 rfl ?_
  refine g_iload_n dX10_corners_6 rfl 1 rfl ?_
  refine g_cV (ci := 10) (As := [.int l1]) mv_X10_300 dX10_corners_7 rfl (ok_X10_rideStraight Θ l0 l1 _ _) rfl rfl (Nat.le_of_ble_eq_true rfl) (by decide) (by decide) (by decide) h (fun ω n h => ?_)
  refine G.less (B' := (0, 0)) (by decide) (by decide) ?_
  refine g_iconst (v := 0) dX10_corners_10 (by decide) ?_
  refine g_istore_n (lv' := [(2, .int 0), (0, .ref l0), (1, .int l1)]) dX10_corners_11 rfl (by decide) rfl ?_
  refine g_iconst (v := 0) dX10_corners_12 (by decide) ?_
  refine g_istore_n (lv' := [(3, .int 0), (2, .int 0), (0, .ref l0), (1, .int l1)]) dX10_corners_13 rfl (by decide) rfl ?_
  refine G.lsub [2, 1, 0] rfl ?_
  exact ok_L_X10_corners_14 Θ 5000 l0 0 0 _ _ r h
def J_X10_cover_96 (Θ : GP) (k_52 : Nat → Int32 → Int32 → Int32 → OW → Nat → RO) (l0 : Nat) (l1 : Int32) (l2 : Int32) (l3 : Int32) (ω : OW) (n : Nat) : RO := k_52 l0 l1 l2 (l3 + 1) ω n
def B_X10_cover_52 (Θ : GP) (k_52 : Nat → Int32 → Int32 → Int32 → OW → Nat → RO) (l0 : Nat) (l1 : Int32) (l2 : Int32) (l3 : Int32) (ω : OW) (n : Nat) : RO := rA ω l0 10 0 (fun a1 => rI ω a1 0 0 (fun x2 => if x2 ≤ l3 then (some (.inl (some (.int l2), ω, n))) else (rA ω l0 10 0 (fun a4 => rA ω a4 0 7 (fun a5 => lI ω (gI Θ) a5 l3 (fun x6 => if (l1 &&& (1 <<< ((x6 : Int32) &&& 31))) = 0 then (J_X10_cover_96 Θ k_52 l0 l1 l2 l3 ω n) else (J_X10_cover_96 Θ k_52 l0 (l1 &&& ((1 <<< ((x6 : Int32) &&& 31)) ^^^ (-1))) (l2 ||| (1 <<< ((l3 : Int32) &&& 31))) l3 ω n)))))))
def L_X10_cover_52 (Θ : GP) : Nat → Nat → Int32 → Int32 → Int32 → OW → Nat → RO
  | 0, _, _, _, _, _, _ => none
  | f + 1, l0, l1, l2, l3, ω, n => B_X10_cover_52 Θ (L_X10_cover_52 Θ f) l0 l1 l2 l3 ω n
def J_X10_cover_40 (Θ : GP) (k_4 : Nat → Int32 → Int32 → OW → Nat → RO) (l0 : Nat) (l2 : Int32) (s0 : Int32) (s1 : Int32) (ω : OW) (n : Nat) : RO := k_4 l0 (s1 ||| s0) (l2 + 1) ω n
def B_X10_cover_4 (Θ : GP) (k_4 : Nat → Int32 → Int32 → OW → Nat → RO) (l0 : Nat) (l1 : Int32) (l2 : Int32) (ω : OW) (n : Nat) : RO := rA ω l0 10 0 (fun a8 => rI ω a8 0 1 (fun x9 => if x9 ≤ l2 then (L_X10_cover_52 Θ 5000 l0 l1 0 0 ω n) else (rA ω l0 10 0 (fun a11 => cO ω a11 0 (kI (F_X0_waits Θ a11 l2 ω n) (fun x12 ω n => if x12 = 0 then (J_X10_cover_40 Θ k_4 l0 l2 0 l1 ω n) else (rA ω l0 10 0 (fun a14 => rA ω a14 0 12 (fun a15 => lI ω (gI Θ) a15 l2 (fun x16 => J_X10_cover_40 Θ k_4 l0 l2 x16 l1 ω n))))))))))
def L_X10_cover_4 (Θ : GP) : Nat → Nat → Int32 → Int32 → OW → Nat → RO
  | 0, _, _, _, _, _ => none
  | f + 1, l0, l1, l2, ω, n => B_X10_cover_4 Θ (L_X10_cover_4 Θ f) l0 l1 l2 ω n
def F_X10_cover (Θ : GP) (l0 : Nat) (ω : OW) (n : Nat) : RO := L_X10_cover_4 Θ 5000 l0 0 0 ω n
theorem ok_J_X10_cover_96 (Θ : GP) (k_52 : Nat → Int32 → Int32 → Int32 → OW → Nat → RO) (hk_52 : ∀ l0 l1 l2 l3 ω n r, k_52 l0 l1 l2 l3 ω n = some r → GR Θ yX10_cover cX10_cover 5 (some .int) 2 (0, 0) 52 [(0, .ref l0), (1, .int l1), (2, .int l2), (3, .int l3)] [] ω n r) (l0 : Nat) (l1 : Int32) (l2 : Int32) (l3 : Int32) (ω : OW) (n : Nat) (r : Out) (h : J_X10_cover_96 Θ k_52 l0 l1 l2 l3 ω n = some r) : GR Θ yX10_cover cX10_cover 5 (some .int) 2 (0, 0) 96 [(0, .ref l0), (1, .int l1), (2, .int l2), (3, .int l3)] [] ω n r := by
  unfold J_X10_cover_96 at h
  refine g_iinc (j := 3) (v := l3 + 1) (lv' := [(3, .int (l3 + 1)), (0, .ref l0), (1, .int l1), (2, .int l2)]) dX10_cover_96 rfl rfl (by decide) rfl ?_
  refine g_goto (tgt := 52) dX10_cover_99 (by decide) ?_
  refine G.lsub [1, 2, 3, 0] rfl ?_
  exact hk_52 l0 l1 l2 (l3 + 1) _ _ r h
theorem ok_B_X10_cover_52 (Θ : GP) (k_52 : Nat → Int32 → Int32 → Int32 → OW → Nat → RO) (hk_52 : ∀ l0 l1 l2 l3 ω n r, k_52 l0 l1 l2 l3 ω n = some r → GR Θ yX10_cover cX10_cover 5 (some .int) 2 (0, 0) 52 [(0, .ref l0), (1, .int l1), (2, .int l2), (3, .int l3)] [] ω n r) (l0 : Nat) (l1 : Int32) (l2 : Int32) (l3 : Int32) (ω : OW) (n : Nat) (r : Out) (h : B_X10_cover_52 Θ k_52 l0 l1 l2 l3 ω n = some r) : GR Θ yX10_cover cX10_cover 5 (some .int) 2 (0, 0) 52 [(0, .ref l0), (1, .int l1), (2, .int l2), (3, .int l3)] [] ω n r := by
  unfold B_X10_cover_52 at h
  refine g_iload_n dX10_cover_52 rfl 3 rfl ?_
  refine g_aload_n dX10_cover_53 rfl 0 rfl ?_
  refine g_rA fl_X10_48 dX10_cover_54 h (fun a1 h => ?_)
  refine g_rI fl_X10_294 dX10_cover_57 h (fun x2 h => ?_)
  refine g_icmp_ge (tgt := 102) dX10_cover_60 (by decide) (fun c3 => ?_) (fun c3 => ?_)
  · rw [if_pos c3] at h
    refine g_iload_n dX10_cover_102 rfl 2 rfl ?_
    cases h
    exact g_iret rfl dX10_cover_103 rfl
  · rw [if_neg c3] at h
    refine g_iconst (v := 1) dX10_cover_63 (by decide) ?_
    refine g_aload_n dX10_cover_64 rfl 0 rfl ?_
    refine g_rA fl_X10_48 dX10_cover_65 h (fun a4 h => ?_)
    refine g_rA fl_X10_158 dX10_cover_68 h (fun a5 h => ?_)
    refine g_iload_n dX10_cover_71 rfl 3 rfl ?_
    refine g_lIi dX10_cover_72 h (fun x6 h => ?_)
    refine g_ishl dX10_cover_73 ?_
    refine g_istore (lv' := [(4, .int (1 <<< ((x6 : Int32) &&& 31))), (0, .ref l0), (1, .int l1), (2, .int l2), (3, .int l3)]) dX10_cover_74 (by decide) rfl ?_
    refine g_iload_n dX10_cover_76 rfl 2 rfl ?_
    refine g_iload dX10_cover_77 0 rfl ?_
    refine g_iand dX10_cover_79 ?_
    refine g_if_eq (tgt := 96) dX10_cover_80 (by decide) (fun c7 => ?_) (fun c7 => ?_)
    · rw [if_pos c7] at h
      refine G.lsub [1, 2, 3, 4] rfl ?_
      exact ok_J_X10_cover_96 Θ k_52 hk_52 l0 l1 l2 l3 _ _ r h
    · rw [if_neg c7] at h
      refine g_iload_n dX10_cover_83 rfl 3 rfl ?_
      refine g_iconst (v := 1) dX10_cover_84 (by decide) ?_
      refine g_iload_n dX10_cover_85 rfl 4 rfl ?_
      refine g_ishl dX10_cover_86 ?_
      refine g_ior dX10_cover_87 ?_
      refine g_istore_n (lv' := [(2, .int (l2 ||| (1 <<< ((l3 : Int32) &&& 31)))), (4, .int (1 <<< ((x6 : Int32) &&& 31))), (0, .ref l0), (1, .int l1), (3, .int l3)]) dX10_cover_88 rfl (by decide) rfl ?_
      refine g_iload_n dX10_cover_89 rfl 3 rfl ?_
      refine g_iload dX10_cover_90 1 rfl ?_
      refine g_iconst (v := (-1)) dX10_cover_92 (by decide) ?_
      refine g_ixor dX10_cover_93 ?_
      refine g_iand dX10_cover_94 ?_
      refine g_istore_n (lv' := [(1, .int (l1 &&& ((1 <<< ((x6 : Int32) &&& 31)) ^^^ (-1)))), (2, .int (l2 ||| (1 <<< ((l3 : Int32) &&& 31)))), (4, .int (1 <<< ((x6 : Int32) &&& 31))), (0, .ref l0), (3, .int l3)]) dX10_cover_95 rfl (by decide) rfl ?_
      refine G.lsub [3, 0, 1, 4] rfl ?_
      exact ok_J_X10_cover_96 Θ k_52 hk_52 l0 (l1 &&& ((1 <<< ((x6 : Int32) &&& 31)) ^^^ (-1))) (l2 ||| (1 <<< ((l3 : Int32) &&& 31))) l3 _ _ r h
theorem ok_L_X10_cover_52 (Θ : GP) : ∀ (f : Nat) (l0 : Nat) (l1 : Int32) (l2 : Int32) (l3 : Int32) (ω : OW) (n : Nat) (r : Out), L_X10_cover_52 Θ f l0 l1 l2 l3 ω n = some r → GR Θ yX10_cover cX10_cover 5 (some .int) 2 (0, 0) 52 [(0, .ref l0), (1, .int l1), (2, .int l2), (3, .int l3)] [] ω n r := by
  intro f
  induction f with
  | zero =>
    intro l0 l1 l2 l3 ω n r h
    unfold L_X10_cover_52 at h
    cases h
  | succ f ih =>
    intro l0 l1 l2 l3 ω n r h
    unfold L_X10_cover_52 at h
    exact ok_B_X10_cover_52 Θ (L_X10_cover_52 Θ f) ih l0 l1 l2 l3 ω n r h
theorem ok_J_X10_cover_40 (Θ : GP) (k_4 : Nat → Int32 → Int32 → OW → Nat → RO) (hk_4 : ∀ l0 l1 l2 ω n r, k_4 l0 l1 l2 ω n = some r → GR Θ yX10_cover cX10_cover 5 (some .int) 2 (0, 0) 4 [(0, .ref l0), (1, .int l1), (2, .int l2)] [] ω n r) (l0 : Nat) (l2 : Int32) (s0 : Int32) (s1 : Int32) (ω : OW) (n : Nat) (r : Out) (h : J_X10_cover_40 Θ k_4 l0 l2 s0 s1 ω n = some r) : GR Θ yX10_cover cX10_cover 5 (some .int) 2 (0, 0) 40 [(0, .ref l0), (2, .int l2)] [.int s0, .int s1] ω n r := by
  unfold J_X10_cover_40 at h
  refine g_ior dX10_cover_40 ?_
  refine g_istore_n (lv' := [(1, .int (s1 ||| s0)), (0, .ref l0), (2, .int l2)]) dX10_cover_41 rfl (by decide) rfl ?_
  refine g_iinc (j := 2) (v := l2 + 1) (lv' := [(2, .int (l2 + 1)), (1, .int (s1 ||| s0)), (0, .ref l0)]) dX10_cover_42 rfl rfl (by decide) rfl ?_
  refine g_goto (tgt := 4) dX10_cover_45 (by decide) ?_
  refine G.lsub [2, 1, 0] rfl ?_
  exact hk_4 l0 (s1 ||| s0) (l2 + 1) _ _ r h
theorem ok_B_X10_cover_4 (Θ : GP) (k_4 : Nat → Int32 → Int32 → OW → Nat → RO) (hk_4 : ∀ l0 l1 l2 ω n r, k_4 l0 l1 l2 ω n = some r → GR Θ yX10_cover cX10_cover 5 (some .int) 2 (0, 0) 4 [(0, .ref l0), (1, .int l1), (2, .int l2)] [] ω n r) (l0 : Nat) (l1 : Int32) (l2 : Int32) (ω : OW) (n : Nat) (r : Out) (h : B_X10_cover_4 Θ k_4 l0 l1 l2 ω n = some r) : GR Θ yX10_cover cX10_cover 5 (some .int) 2 (0, 0) 4 [(0, .ref l0), (1, .int l1), (2, .int l2)] [] ω n r := by
  unfold B_X10_cover_4 at h
  refine g_iload_n dX10_cover_4 rfl 2 rfl ?_
  refine g_aload_n dX10_cover_5 rfl 0 rfl ?_
  refine g_rA fl_X10_48 dX10_cover_6 h (fun a8 h => ?_)
  refine g_rI fl_X10_322 dX10_cover_9 h (fun x9 h => ?_)
  refine g_icmp_ge (tgt := 48) dX10_cover_12 (by decide) (fun c10 => ?_) (fun c10 => ?_)
  · rw [if_pos c10] at h
    refine g_iconst (v := 0) dX10_cover_48 (by decide) ?_
    refine g_istore_n (lv' := [(2, .int 0), (0, .ref l0), (1, .int l1)]) dX10_cover_49 rfl (by decide) rfl ?_
    refine g_iconst (v := 0) dX10_cover_50 (by decide) ?_
    refine g_istore_n (lv' := [(3, .int 0), (2, .int 0), (0, .ref l0), (1, .int l1)]) dX10_cover_51 rfl (by decide) rfl ?_
    refine G.lsub [2, 3, 1, 0] rfl ?_
    exact ok_L_X10_cover_52 Θ 5000 l0 l1 0 0 _ _ r h
  · rw [if_neg c10] at h
    refine g_iload_n dX10_cover_15 rfl 1 rfl ?_
    refine g_aload_n dX10_cover_16 rfl 0 rfl ?_
    refine g_rA fl_X10_48 dX10_cover_17 h (fun a11 h => ?_)
    refine g_iload_n dX10_cover_20 rfl 2 rfl ?_
    refine g_cI (ci := 0) (As := [.int l2]) mv_X10_325 dX10_cover_21 rfl (ok_X0_waits Θ a11 l2 _ _) rfl rfl (Nat.le_of_ble_eq_true rfl) (by decide) (by decide) (by decide) h (fun x12 ω n h => ?_)
    refine G.less (B' := (0, 0)) (by decide) (by decide) ?_
    refine g_if_eq (tgt := 39) dX10_cover_24 (by decide) (fun c13 => ?_) (fun c13 => ?_)
    · rw [if_pos c13] at h
      refine g_iconst (v := 0) dX10_cover_39 (by decide) ?_
      refine G.lsub [0, 2] rfl ?_
      exact ok_J_X10_cover_40 Θ k_4 hk_4 l0 l2 0 l1 _ _ r h
    · rw [if_neg c13] at h
      refine g_aload_n dX10_cover_27 rfl 0 rfl ?_
      refine g_rA fl_X10_48 dX10_cover_28 h (fun a14 h => ?_)
      refine g_rA fl_X10_184 dX10_cover_31 h (fun a15 h => ?_)
      refine g_iload_n dX10_cover_34 rfl 2 rfl ?_
      refine g_lIi dX10_cover_35 h (fun x16 h => ?_)
      refine g_goto (tgt := 40) dX10_cover_36 (by decide) ?_
      refine G.lsub [0, 2] rfl ?_
      exact ok_J_X10_cover_40 Θ k_4 hk_4 l0 l2 x16 l1 _ _ r h
theorem ok_L_X10_cover_4 (Θ : GP) : ∀ (f : Nat) (l0 : Nat) (l1 : Int32) (l2 : Int32) (ω : OW) (n : Nat) (r : Out), L_X10_cover_4 Θ f l0 l1 l2 ω n = some r → GR Θ yX10_cover cX10_cover 5 (some .int) 2 (0, 0) 4 [(0, .ref l0), (1, .int l1), (2, .int l2)] [] ω n r := by
  intro f
  induction f with
  | zero =>
    intro l0 l1 l2 ω n r h
    unfold L_X10_cover_4 at h
    cases h
  | succ f ih =>
    intro l0 l1 l2 ω n r h
    unfold L_X10_cover_4 at h
    exact ok_B_X10_cover_4 Θ (L_X10_cover_4 Θ f) ih l0 l1 l2 ω n r h
theorem ok_X10_cover (Θ : GP) (l0 : Nat) (ω : OW) (n : Nat) : Ok Θ 2 0 0 yX10_cover cX10_cover 5 (some .int) [.ref l0] ω n (F_X10_cover Θ l0 ω n) := by
  refine Ok.of (by decide +kernel) (Nat.le_of_ble_eq_true rfl) (fun r h => ?_)
  unfold F_X10_cover at h
  show GR Θ yX10_cover cX10_cover 5 (some .int) 2 (0, 0) 0 [(0, .ref l0)] [] ω n r
  refine g_iconst (v := 0) dX10_cover_0 (by decide) ?_
  refine g_istore_n (lv' := [(1, .int 0), (0, .ref l0)]) dX10_cover_1 rfl (by decide) rfl ?_
  refine g_iconst (v := 0) dX10_cover_2 (by decide) ?_
  refine g_istore_n (lv' := [(2, .int 0), (1, .int 0), (0, .ref l0)]) dX10_cover_3 rfl (by decide) rfl ?_
  refine G.lsub [2, 1, 0] rfl ?_
  exact ok_L_X10_cover_4 Θ 5000 l0 0 0 _ _ r h
def J_X10_isQuietWithout_78 (Θ : GP) (k_17 : Nat → Int32 → OW → Nat → RO) (l0 : Nat) (l2 : Int32) (ω : OW) (n : Nat) : RO := k_17 l0 (l2 + 1) ω n
def B_X10_isQuietWithout_17 (Θ : GP) (k_17 : Nat → Int32 → OW → Nat → RO) (l0 : Nat) (l2 : Int32) (ω : OW) (n : Nat) : RO := rA ω l0 10 0 (fun a1 => rI ω a1 0 1 (fun x2 => if x2 ≤ l2 then (some (.inl (some (.int 1), ω, n))) else (rA ω l0 10 0 (fun a4 => cO ω a4 0 (kI (F_X0_waits Θ a4 l2 ω n) (fun x5 ω n => if x5 = 0 then (J_X10_isQuietWithout_78 Θ k_17 l0 l2 ω n) else (rA ω l0 10 0 (fun a7 => cO ω a7 0 (kI (F_X0_isInnocent Θ a7 l2 ω n) (fun x8 ω n => if x8 = 0 then (rA ω l0 10 8 (fun a10 => cO ω a10 6 (kV (F_X6_board Θ a10 l2 ω n) (fun ω n => rA ω l0 10 8 (fun a12 => cO ω a12 6 (kV (F_X6_straightOn Θ a12 ω n) (fun ω n => rA ω l0 10 8 (fun a14 => rI ω a14 6 8 (fun x15 => if x15 = (-1) then (J_X10_isQuietWithout_78 Θ k_17 l0 l2 ω n) else (some (.inl (some (.int 0), ω, n)))))))))))) else (J_X10_isQuietWithout_78 Θ k_17 l0 l2 ω n)))))))))))
def L_X10_isQuietWithout_17 (Θ : GP) : Nat → Nat → Int32 → OW → Nat → RO
  | 0, _, _, _, _ => none
  | f + 1, l0, l2, ω, n => B_X10_isQuietWithout_17 Θ (L_X10_isQuietWithout_17 Θ f) l0 l2 ω n
def F_X10_isQuietWithout (Θ : GP) (l0 : Nat) (l1 : Int32) (ω : OW) (n : Nat) : RO := rA ω l0 10 8 (fun a17 => cO ω a17 6 (kV (F_X6_lay Θ a17 ω n) (fun ω n => rA ω l0 10 8 (fun a19 => cO ω a19 6 (kV (F_X6_takeDown Θ a19 l1 ω n) (fun ω n => L_X10_isQuietWithout_17 Θ 5000 l0 0 ω n))))))
theorem ok_J_X10_isQuietWithout_78 (Θ : GP) (k_17 : Nat → Int32 → OW → Nat → RO) (hk_17 : ∀ l0 l2 ω n r, k_17 l0 l2 ω n = some r → GR Θ yX10_isQuietWithout cX10_isQuietWithout 3 (some .boolean) 6 (0, 0) 17 [(0, .ref l0), (2, .int l2)] [] ω n r) (l0 : Nat) (l2 : Int32) (ω : OW) (n : Nat) (r : Out) (h : J_X10_isQuietWithout_78 Θ k_17 l0 l2 ω n = some r) : GR Θ yX10_isQuietWithout cX10_isQuietWithout 3 (some .boolean) 6 (0, 0) 78 [(0, .ref l0), (2, .int l2)] [] ω n r := by
  unfold J_X10_isQuietWithout_78 at h
  refine g_iinc (j := 1) (v := l2 + 1) (lv' := [(2, .int (l2 + 1)), (0, .ref l0)]) dX10_isQuietWithout_78 rfl rfl (by decide) rfl ?_
  refine g_goto (tgt := 17) dX10_isQuietWithout_81 (by decide) ?_
  refine G.lsub [1, 0] rfl ?_
  exact hk_17 l0 (l2 + 1) _ _ r h
theorem ok_B_X10_isQuietWithout_17 (Θ : GP) (k_17 : Nat → Int32 → OW → Nat → RO) (hk_17 : ∀ l0 l2 ω n r, k_17 l0 l2 ω n = some r → GR Θ yX10_isQuietWithout cX10_isQuietWithout 3 (some .boolean) 6 (0, 0) 17 [(0, .ref l0), (2, .int l2)] [] ω n r) (l0 : Nat) (l2 : Int32) (ω : OW) (n : Nat) (r : Out) (h : B_X10_isQuietWithout_17 Θ k_17 l0 l2 ω n = some r) : GR Θ yX10_isQuietWithout cX10_isQuietWithout 3 (some .boolean) 6 (0, 0) 17 [(0, .ref l0), (2, .int l2)] [] ω n r := by
  unfold B_X10_isQuietWithout_17 at h
  refine g_iload_n dX10_isQuietWithout_17 rfl 1 rfl ?_
  refine g_aload_n dX10_isQuietWithout_18 rfl 0 rfl ?_
  refine g_rA fl_X10_48 dX10_isQuietWithout_19 h (fun a1 h => ?_)
  refine g_rI fl_X10_322 dX10_isQuietWithout_22 h (fun x2 h => ?_)
  refine g_icmp_ge (tgt := 84) dX10_isQuietWithout_25 (by decide) (fun c3 => ?_) (fun c3 => ?_)
  · rw [if_pos c3] at h
    refine g_iconst (v := 1) dX10_isQuietWithout_84 (by decide) ?_
    cases h
    exact g_zret rfl rfl dX10_isQuietWithout_85 rfl
  · rw [if_neg c3] at h
    refine g_aload_n dX10_isQuietWithout_28 rfl 0 rfl ?_
    refine g_rA fl_X10_48 dX10_isQuietWithout_29 h (fun a4 h => ?_)
    refine g_iload_n dX10_isQuietWithout_32 rfl 1 rfl ?_
    refine g_cI (ci := 0) (As := [.int l2]) mv_X10_325 dX10_isQuietWithout_33 rfl (ok_X0_waits Θ a4 l2 _ _) rfl rfl (Nat.le_of_ble_eq_true rfl) (by decide) (by decide) (by decide) h (fun x5 ω n h => ?_)
    refine G.less (B' := (0, 0)) (by decide) (by decide) ?_
    refine g_if_eq (tgt := 78) dX10_isQuietWithout_36 (by decide) (fun c6 => ?_) (fun c6 => ?_)
    · rw [if_pos c6] at h
      exact ok_J_X10_isQuietWithout_78 Θ k_17 hk_17 l0 l2 _ _ r h
    · rw [if_neg c6] at h
      refine g_aload_n dX10_isQuietWithout_39 rfl 0 rfl ?_
      refine g_rA fl_X10_48 dX10_isQuietWithout_40 h (fun a7 h => ?_)
      refine g_iload_n dX10_isQuietWithout_43 rfl 1 rfl ?_
      refine g_cI (ci := 0) (As := [.int l2]) mv_X10_328 dX10_isQuietWithout_44 rfl (ok_X0_isInnocent Θ a7 l2 _ _) rfl rfl (Nat.le_of_ble_eq_true rfl) (by decide) (by decide) (by decide) h (fun x8 ω n h => ?_)
      refine G.less (B' := (0, 0)) (by decide) (by decide) ?_
      refine g_if_ne (tgt := 78) dX10_isQuietWithout_47 (by decide) (fun c9 => ?_) (fun c9 => ?_)
      · rw [if_neg c9] at h
        exact ok_J_X10_isQuietWithout_78 Θ k_17 hk_17 l0 l2 _ _ r h
      · rw [if_pos c9] at h
        refine g_aload_n dX10_isQuietWithout_50 rfl 0 rfl ?_
        refine g_rA fl_X10_88 dX10_isQuietWithout_51 h (fun a10 h => ?_)
        refine g_iload_n dX10_isQuietWithout_54 rfl 1 rfl ?_
        refine g_cV (ci := 6) (As := [.int l2]) mv_X10_203 dX10_isQuietWithout_55 rfl (ok_X6_board Θ a10 l2 _ _) rfl rfl (Nat.le_of_ble_eq_true rfl) (by decide) (by decide) (by decide) h (fun ω n h => ?_)
        refine G.less (B' := (0, 0)) (by decide) (by decide) ?_
        refine g_aload_n dX10_isQuietWithout_58 rfl 0 rfl ?_
        refine g_rA fl_X10_88 dX10_isQuietWithout_59 h (fun a12 h => ?_)
        refine g_cV (ci := 6) (As := []) mv_X10_374 dX10_isQuietWithout_62 rfl (ok_X6_straightOn Θ a12 _ _) rfl rfl (Nat.le_of_ble_eq_true rfl) (by decide) (by decide) (by decide) h (fun ω n h => ?_)
        refine G.less (B' := (0, 0)) (by decide) (by decide) ?_
        refine g_aload_n dX10_isQuietWithout_65 rfl 0 rfl ?_
        refine g_rA fl_X10_88 dX10_isQuietWithout_66 h (fun a14 h => ?_)
        refine g_rI fl_X10_243 dX10_isQuietWithout_69 h (fun x15 h => ?_)
        refine g_iconst (v := (-1)) dX10_isQuietWithout_72 (by decide) ?_
        refine g_icmp_eq (tgt := 78) dX10_isQuietWithout_73 (by decide) (fun c16 => ?_) (fun c16 => ?_)
        · rw [if_pos c16] at h
          exact ok_J_X10_isQuietWithout_78 Θ k_17 hk_17 l0 l2 _ _ r h
        · rw [if_neg c16] at h
          refine g_iconst (v := 0) dX10_isQuietWithout_76 (by decide) ?_
          cases h
          exact g_zret rfl rfl dX10_isQuietWithout_77 rfl
theorem ok_L_X10_isQuietWithout_17 (Θ : GP) : ∀ (f : Nat) (l0 : Nat) (l2 : Int32) (ω : OW) (n : Nat) (r : Out), L_X10_isQuietWithout_17 Θ f l0 l2 ω n = some r → GR Θ yX10_isQuietWithout cX10_isQuietWithout 3 (some .boolean) 6 (0, 0) 17 [(0, .ref l0), (2, .int l2)] [] ω n r := by
  intro f
  induction f with
  | zero =>
    intro l0 l2 ω n r h
    unfold L_X10_isQuietWithout_17 at h
    cases h
  | succ f ih =>
    intro l0 l2 ω n r h
    unfold L_X10_isQuietWithout_17 at h
    exact ok_B_X10_isQuietWithout_17 Θ (L_X10_isQuietWithout_17 Θ f) ih l0 l2 ω n r h
theorem ok_X10_isQuietWithout (Θ : GP) (l0 : Nat) (l1 : Int32) (ω : OW) (n : Nat) : Ok Θ 6 0 0 yX10_isQuietWithout cX10_isQuietWithout 3 (some .boolean) [.ref l0, .int l1] ω n (F_X10_isQuietWithout Θ l0 l1 ω n) := by
  refine Ok.of (by decide +kernel) (Nat.le_of_ble_eq_true rfl) (fun r h => ?_)
  unfold F_X10_isQuietWithout at h
  show GR Θ yX10_isQuietWithout cX10_isQuietWithout 3 (some .boolean) 6 (0, 0) 0 [(0, .ref l0), (1, .int l1)] [] ω n r
  refine g_aload_n dX10_isQuietWithout_0 rfl 0 rfl ?_
  refine g_rA fl_X10_88 dX10_isQuietWithout_1 h (fun a17 h => ?_)
  refine g_cV (ci := 6) (As := []) mv_X10_200 dX10_isQuietWithout_4 rfl (ok_X6_lay Θ a17 _ _) rfl rfl (Nat.le_of_ble_eq_true rfl) (by decide) (by decide) (by decide) h (fun ω n h => ?_)
  refine G.less (B' := (0, 0)) (by decide) (by decide) ?_
  refine g_aload_n dX10_isQuietWithout_7 rfl 0 rfl ?_
  refine g_rA fl_X10_88 dX10_isQuietWithout_8 h (fun a19 h => ?_)
  refine g_iload_n dX10_isQuietWithout_11 rfl 1 rfl ?_
  refine g_cV (ci := 6) (As := [.int l1]) mv_X10_435 dX10_isQuietWithout_12 rfl (ok_X6_takeDown Θ a19 l1 _ _) rfl rfl (Nat.le_of_ble_eq_true rfl) (by decide) (by decide) (by decide) h (fun ω n h => ?_)
  refine G.less (B' := (0, 0)) (by decide) (by decide) ?_
  refine g_iconst (v := 0) dX10_isQuietWithout_15 (by decide) ?_
  refine g_istore_n (lv' := [(2, .int 0), (0, .ref l0), (1, .int l1)]) dX10_isQuietWithout_16 rfl (by decide) rfl ?_
  refine G.lsub [1, 0] rfl ?_
  exact ok_L_X10_isQuietWithout_17 Θ 5000 l0 0 _ _ r h
def J_X10_nailedProps_35 (Θ : GP) (k_4 : Nat → Int32 → Int32 → OW → Nat → RO) (l0 : Nat) (l2 : Int32) (s0 : Int32) (s1 : Int32) (ω : OW) (n : Nat) : RO := k_4 l0 (s1 ||| s0) (l2 + 1) ω n
def B_X10_nailedProps_4 (Θ : GP) (k_4 : Nat → Int32 → Int32 → OW → Nat → RO) (l0 : Nat) (l1 : Int32) (l2 : Int32) (ω : OW) (n : Nat) : RO := rA ω l0 10 0 (fun a1 => rI ω a1 0 0 (fun x2 => if x2 ≤ l2 then (some (.inl (some (.int l1), ω, n))) else (rA ω l0 10 0 (fun a4 => rA ω a4 0 10 (fun a5 => lI ω (gI Θ) a5 l2 (fun x6 => if x6 < 0 then (J_X10_nailedProps_35 Θ k_4 l0 l2 0 l1 ω n) else (J_X10_nailedProps_35 Θ k_4 l0 l2 (1 <<< ((l2 : Int32) &&& 31)) l1 ω n)))))))
def L_X10_nailedProps_4 (Θ : GP) : Nat → Nat → Int32 → Int32 → OW → Nat → RO
  | 0, _, _, _, _, _ => none
  | f + 1, l0, l1, l2, ω, n => B_X10_nailedProps_4 Θ (L_X10_nailedProps_4 Θ f) l0 l1 l2 ω n
def F_X10_nailedProps (Θ : GP) (l0 : Nat) (ω : OW) (n : Nat) : RO := L_X10_nailedProps_4 Θ 5000 l0 0 0 ω n
theorem ok_J_X10_nailedProps_35 (Θ : GP) (k_4 : Nat → Int32 → Int32 → OW → Nat → RO) (hk_4 : ∀ l0 l1 l2 ω n r, k_4 l0 l1 l2 ω n = some r → GR Θ yX10_nailedProps cX10_nailedProps 3 (some .int) 1 (0, 0) 4 [(0, .ref l0), (1, .int l1), (2, .int l2)] [] ω n r) (l0 : Nat) (l2 : Int32) (s0 : Int32) (s1 : Int32) (ω : OW) (n : Nat) (r : Out) (h : J_X10_nailedProps_35 Θ k_4 l0 l2 s0 s1 ω n = some r) : GR Θ yX10_nailedProps cX10_nailedProps 3 (some .int) 1 (0, 0) 35 [(0, .ref l0), (2, .int l2)] [.int s0, .int s1] ω n r := by
  unfold J_X10_nailedProps_35 at h
  refine g_ior dX10_nailedProps_35 ?_
  refine g_istore_n (lv' := [(1, .int (s1 ||| s0)), (0, .ref l0), (2, .int l2)]) dX10_nailedProps_36 rfl (by decide) rfl ?_
  refine g_iinc (j := 2) (v := l2 + 1) (lv' := [(2, .int (l2 + 1)), (1, .int (s1 ||| s0)), (0, .ref l0)]) dX10_nailedProps_37 rfl rfl (by decide) rfl ?_
  refine g_goto (tgt := 4) dX10_nailedProps_40 (by decide) ?_
  refine G.lsub [2, 1, 0] rfl ?_
  exact hk_4 l0 (s1 ||| s0) (l2 + 1) _ _ r h
theorem ok_B_X10_nailedProps_4 (Θ : GP) (k_4 : Nat → Int32 → Int32 → OW → Nat → RO) (hk_4 : ∀ l0 l1 l2 ω n r, k_4 l0 l1 l2 ω n = some r → GR Θ yX10_nailedProps cX10_nailedProps 3 (some .int) 1 (0, 0) 4 [(0, .ref l0), (1, .int l1), (2, .int l2)] [] ω n r) (l0 : Nat) (l1 : Int32) (l2 : Int32) (ω : OW) (n : Nat) (r : Out) (h : B_X10_nailedProps_4 Θ k_4 l0 l1 l2 ω n = some r) : GR Θ yX10_nailedProps cX10_nailedProps 3 (some .int) 1 (0, 0) 4 [(0, .ref l0), (1, .int l1), (2, .int l2)] [] ω n r := by
  unfold B_X10_nailedProps_4 at h
  refine g_iload_n dX10_nailedProps_4 rfl 2 rfl ?_
  refine g_aload_n dX10_nailedProps_5 rfl 0 rfl ?_
  refine g_rA fl_X10_48 dX10_nailedProps_6 h (fun a1 h => ?_)
  refine g_rI fl_X10_294 dX10_nailedProps_9 h (fun x2 h => ?_)
  refine g_icmp_ge (tgt := 43) dX10_nailedProps_12 (by decide) (fun c3 => ?_) (fun c3 => ?_)
  · rw [if_pos c3] at h
    refine g_iload_n dX10_nailedProps_43 rfl 1 rfl ?_
    cases h
    exact g_iret rfl dX10_nailedProps_44 rfl
  · rw [if_neg c3] at h
    refine g_iload_n dX10_nailedProps_15 rfl 1 rfl ?_
    refine g_aload_n dX10_nailedProps_16 rfl 0 rfl ?_
    refine g_rA fl_X10_48 dX10_nailedProps_17 h (fun a4 h => ?_)
    refine g_rA fl_X10_167 dX10_nailedProps_20 h (fun a5 h => ?_)
    refine g_iload_n dX10_nailedProps_23 rfl 2 rfl ?_
    refine g_lIi dX10_nailedProps_24 h (fun x6 h => ?_)
    refine g_if_lt (tgt := 34) dX10_nailedProps_25 (by decide) (fun c7 => ?_) (fun c7 => ?_)
    · rw [if_pos c7] at h
      refine g_iconst (v := 0) dX10_nailedProps_34 (by decide) ?_
      refine G.lsub [0, 2] rfl ?_
      exact ok_J_X10_nailedProps_35 Θ k_4 hk_4 l0 l2 0 l1 _ _ r h
    · rw [if_neg c7] at h
      refine g_iconst (v := 1) dX10_nailedProps_28 (by decide) ?_
      refine g_iload_n dX10_nailedProps_29 rfl 2 rfl ?_
      refine g_ishl dX10_nailedProps_30 ?_
      refine g_goto (tgt := 35) dX10_nailedProps_31 (by decide) ?_
      refine G.lsub [0, 2] rfl ?_
      exact ok_J_X10_nailedProps_35 Θ k_4 hk_4 l0 l2 (1 <<< ((l2 : Int32) &&& 31)) l1 _ _ r h
theorem ok_L_X10_nailedProps_4 (Θ : GP) : ∀ (f : Nat) (l0 : Nat) (l1 : Int32) (l2 : Int32) (ω : OW) (n : Nat) (r : Out), L_X10_nailedProps_4 Θ f l0 l1 l2 ω n = some r → GR Θ yX10_nailedProps cX10_nailedProps 3 (some .int) 1 (0, 0) 4 [(0, .ref l0), (1, .int l1), (2, .int l2)] [] ω n r := by
  intro f
  induction f with
  | zero =>
    intro l0 l1 l2 ω n r h
    unfold L_X10_nailedProps_4 at h
    cases h
  | succ f ih =>
    intro l0 l1 l2 ω n r h
    unfold L_X10_nailedProps_4 at h
    exact ok_B_X10_nailedProps_4 Θ (L_X10_nailedProps_4 Θ f) ih l0 l1 l2 ω n r h
theorem ok_X10_nailedProps (Θ : GP) (l0 : Nat) (ω : OW) (n : Nat) : Ok Θ 1 0 0 yX10_nailedProps cX10_nailedProps 3 (some .int) [.ref l0] ω n (F_X10_nailedProps Θ l0 ω n) := by
  refine Ok.of (by decide +kernel) (Nat.le_of_ble_eq_true rfl) (fun r h => ?_)
  unfold F_X10_nailedProps at h
  show GR Θ yX10_nailedProps cX10_nailedProps 3 (some .int) 1 (0, 0) 0 [(0, .ref l0)] [] ω n r
  refine g_iconst (v := 0) dX10_nailedProps_0 (by decide) ?_
  refine g_istore_n (lv' := [(1, .int 0), (0, .ref l0)]) dX10_nailedProps_1 rfl (by decide) rfl ?_
  refine g_iconst (v := 0) dX10_nailedProps_2 (by decide) ?_
  refine g_istore_n (lv' := [(2, .int 0), (1, .int 0), (0, .ref l0)]) dX10_nailedProps_3 rfl (by decide) rfl ?_
  refine G.lsub [2, 1, 0] rfl ?_
  exact ok_L_X10_nailedProps_4 Θ 5000 l0 0 0 _ _ r h
def J_X10_leave_71 (Θ : GP) (k_15 : Nat → Int32 → Int32 → Int32 → Int32 → OW → Nat → RO) (l0 : Nat) (l1 : Int32) (l2 : Int32) (l3 : Int32) (l4 : Int32) (ω : OW) (n : Nat) : RO := k_15 l0 l1 l2 l3 (l4 + 1) ω n
def J_X10_leave_46 (Θ : GP) (k_15 : Nat → Int32 → Int32 → Int32 → Int32 → OW → Nat → RO) (l0 : Nat) (l1 : Int32) (l2 : Int32) (l3 : Int32) (l4 : Int32) (s0 : Int32) (ω : OW) (n : Nat) : RO := if s0 = 0 then (J_X10_leave_71 Θ k_15 l0 l1 l2 l3 l4 ω n) else (cO ω l0 10 (kI (F_X10_isQuietWithout Θ l0 l4 ω n) (fun x2 ω n => if x2 = 0 then (J_X10_leave_71 Θ k_15 l0 l1 l2 l3 l4 ω n) else (kI (F_J6_bitCount_0f7a4 Θ l4 ω n) (fun x4 ω n => J_X10_leave_71 Θ k_15 l0 l1 l4 x4 l4 ω n)))))
def J_X10_leave_45 (Θ : GP) (k_15 : Nat → Int32 → Int32 → Int32 → Int32 → OW → Nat → RO) (l0 : Nat) (l1 : Int32) (l2 : Int32) (l3 : Int32) (l4 : Int32) (ω : OW) (n : Nat) : RO := J_X10_leave_46 Θ k_15 l0 l1 l2 l3 l4 0 ω n
def B_X10_leave_15 (Θ : GP) (k_15 : Nat → Int32 → Int32 → Int32 → Int32 → OW → Nat → RO) (l0 : Nat) (l1 : Int32) (l2 : Int32) (l3 : Int32) (l4 : Int32) (ω : OW) (n : Nat) : RO := if 256 ≤ l4 then (some (.inl (some (.int l2), ω, n))) else (if (l4 &&& (l1 ^^^ (-1))) = 0 then (kI (F_J6_bitCount_0f7a4 Θ l4 ω n) (fun x7 ω n => if l3 ≤ x7 then (J_X10_leave_45 Θ k_15 l0 l1 l2 l3 l4 ω n) else (J_X10_leave_46 Θ k_15 l0 l1 l2 l3 l4 1 ω n))) else (J_X10_leave_45 Θ k_15 l0 l1 l2 l3 l4 ω n))
def L_X10_leave_15 (Θ : GP) : Nat → Nat → Int32 → Int32 → Int32 → Int32 → OW → Nat → RO
  | 0, _, _, _, _, _, _, _ => none
  | f + 1, l0, l1, l2, l3, l4, ω, n => B_X10_leave_15 Θ (L_X10_leave_15 Θ f) l0 l1 l2 l3 l4 ω n
def F_X10_leave (Θ : GP) (l0 : Nat) (ω : OW) (n : Nat) : RO := cO ω l0 10 (kI (F_X10_nailedProps Θ l0 ω n) (fun x9 ω n => kI (F_J6_bitCount_0f7a4 Θ x9 ω n) (fun x10 ω n => L_X10_leave_15 Θ 5000 l0 x9 x9 x10 0 ω n)))
theorem ok_J_X10_leave_71 (Θ : GP) (k_15 : Nat → Int32 → Int32 → Int32 → Int32 → OW → Nat → RO) (hk_15 : ∀ l0 l1 l2 l3 l4 ω n r, k_15 l0 l1 l2 l3 l4 ω n = some r → GR Θ yX10_leave cX10_leave 6 (some .int) 7 (0, 0) 15 [(0, .ref l0), (1, .int l1), (2, .int l2), (3, .int l3), (4, .int l4)] [] ω n r) (l0 : Nat) (l1 : Int32) (l2 : Int32) (l3 : Int32) (l4 : Int32) (ω : OW) (n : Nat) (r : Out) (h : J_X10_leave_71 Θ k_15 l0 l1 l2 l3 l4 ω n = some r) : GR Θ yX10_leave cX10_leave 6 (some .int) 7 (0, 0) 71 [(0, .ref l0), (1, .int l1), (2, .int l2), (3, .int l3), (4, .int l4)] [] ω n r := by
  unfold J_X10_leave_71 at h
  refine g_iinc (j := 4) (v := l4 + 1) (lv' := [(4, .int (l4 + 1)), (0, .ref l0), (1, .int l1), (2, .int l2), (3, .int l3)]) dX10_leave_71 rfl rfl (by decide) rfl ?_
  refine g_goto (tgt := 15) dX10_leave_74 (by decide) ?_
  refine G.lsub [1, 2, 3, 4, 0] rfl ?_
  exact hk_15 l0 l1 l2 l3 (l4 + 1) _ _ r h
theorem ok_J_X10_leave_46 (Θ : GP) (k_15 : Nat → Int32 → Int32 → Int32 → Int32 → OW → Nat → RO) (hk_15 : ∀ l0 l1 l2 l3 l4 ω n r, k_15 l0 l1 l2 l3 l4 ω n = some r → GR Θ yX10_leave cX10_leave 6 (some .int) 7 (0, 0) 15 [(0, .ref l0), (1, .int l1), (2, .int l2), (3, .int l3), (4, .int l4)] [] ω n r) (l0 : Nat) (l1 : Int32) (l2 : Int32) (l3 : Int32) (l4 : Int32) (s0 : Int32) (ω : OW) (n : Nat) (r : Out) (h : J_X10_leave_46 Θ k_15 l0 l1 l2 l3 l4 s0 ω n = some r) : GR Θ yX10_leave cX10_leave 6 (some .int) 7 (0, 0) 46 [(0, .ref l0), (1, .int l1), (2, .int l2), (3, .int l3), (4, .int l4)] [.int s0] ω n r := by
  unfold J_X10_leave_46 at h
  refine g_istore (lv' := [(5, .int s0), (0, .ref l0), (1, .int l1), (2, .int l2), (3, .int l3), (4, .int l4)]) dX10_leave_46 (by decide) rfl ?_
  refine g_iload dX10_leave_48 0 rfl ?_
  refine g_if_eq (tgt := 71) dX10_leave_50 (by decide) (fun c1 => ?_) (fun c1 => ?_)
  · rw [if_pos c1] at h
    refine G.lsub [1, 2, 3, 4, 5] rfl ?_
    exact ok_J_X10_leave_71 Θ k_15 hk_15 l0 l1 l2 l3 l4 _ _ r h
  · rw [if_neg c1] at h
    refine g_aload_n dX10_leave_53 rfl 1 rfl ?_
    refine g_iload dX10_leave_54 5 rfl ?_
    refine g_cI (ci := 10) (As := [.int l4]) mv_X10_368 dX10_leave_56 rfl (ok_X10_isQuietWithout Θ l0 l4 _ _) rfl rfl (Nat.le_of_ble_eq_true rfl) (by decide) (by decide) (by decide) h (fun x2 ω n h => ?_)
    refine G.less (B' := (0, 0)) (by decide) (by decide) ?_
    refine g_if_eq (tgt := 71) dX10_leave_59 (by decide) (fun c3 => ?_) (fun c3 => ?_)
    · rw [if_pos c3] at h
      refine G.lsub [1, 2, 3, 4, 5] rfl ?_
      exact ok_J_X10_leave_71 Θ k_15 hk_15 l0 l1 l2 l3 l4 _ _ r h
    · rw [if_neg c3] at h
      refine g_iload dX10_leave_62 5 rfl ?_
      refine g_istore_n (lv' := [(2, .int l4), (5, .int s0), (0, .ref l0), (1, .int l1), (3, .int l3), (4, .int l4)]) dX10_leave_64 rfl (by decide) rfl ?_
      refine g_iload dX10_leave_65 5 rfl ?_
      refine g_sI (As := [.int l4]) ms_X10_276 dX10_leave_67 (ok_J6_bitCount_0f7a4 Θ l4 _ _) rfl rfl (Nat.le_of_ble_eq_true rfl) (by decide) (by decide) (by decide) h (fun x4 ω n h => ?_)
      refine G.less (B' := (0, 0)) (by decide) (by decide) ?_
      refine g_istore_n (lv' := [(3, .int x4), (2, .int l4), (5, .int s0), (0, .ref l0), (1, .int l1), (4, .int l4)]) dX10_leave_70 rfl (by decide) rfl ?_
      refine G.lsub [3, 4, 1, 0, 5] rfl ?_
      exact ok_J_X10_leave_71 Θ k_15 hk_15 l0 l1 l4 x4 l4 _ _ r h
theorem ok_J_X10_leave_45 (Θ : GP) (k_15 : Nat → Int32 → Int32 → Int32 → Int32 → OW → Nat → RO) (hk_15 : ∀ l0 l1 l2 l3 l4 ω n r, k_15 l0 l1 l2 l3 l4 ω n = some r → GR Θ yX10_leave cX10_leave 6 (some .int) 7 (0, 0) 15 [(0, .ref l0), (1, .int l1), (2, .int l2), (3, .int l3), (4, .int l4)] [] ω n r) (l0 : Nat) (l1 : Int32) (l2 : Int32) (l3 : Int32) (l4 : Int32) (ω : OW) (n : Nat) (r : Out) (h : J_X10_leave_45 Θ k_15 l0 l1 l2 l3 l4 ω n = some r) : GR Θ yX10_leave cX10_leave 6 (some .int) 7 (0, 0) 45 [(0, .ref l0), (1, .int l1), (2, .int l2), (3, .int l3), (4, .int l4)] [] ω n r := by
  unfold J_X10_leave_45 at h
  refine g_iconst (v := 0) dX10_leave_45 (by decide) ?_
  exact ok_J_X10_leave_46 Θ k_15 hk_15 l0 l1 l2 l3 l4 0 _ _ r h
theorem ok_B_X10_leave_15 (Θ : GP) (k_15 : Nat → Int32 → Int32 → Int32 → Int32 → OW → Nat → RO) (hk_15 : ∀ l0 l1 l2 l3 l4 ω n r, k_15 l0 l1 l2 l3 l4 ω n = some r → GR Θ yX10_leave cX10_leave 6 (some .int) 7 (0, 0) 15 [(0, .ref l0), (1, .int l1), (2, .int l2), (3, .int l3), (4, .int l4)] [] ω n r) (l0 : Nat) (l1 : Int32) (l2 : Int32) (l3 : Int32) (l4 : Int32) (ω : OW) (n : Nat) (r : Out) (h : B_X10_leave_15 Θ k_15 l0 l1 l2 l3 l4 ω n = some r) : GR Θ yX10_leave cX10_leave 6 (some .int) 7 (0, 0) 15 [(0, .ref l0), (1, .int l1), (2, .int l2), (3, .int l3), (4, .int l4)] [] ω n r := by
  unfold B_X10_leave_15 at h
  refine g_iload dX10_leave_15 4 rfl ?_
  refine g_sipush (v := 256) dX10_leave_17 (by decide) ?_
  refine g_icmp_ge (tgt := 77) dX10_leave_20 (by decide) (fun c5 => ?_) (fun c5 => ?_)
  · rw [if_pos c5] at h
    refine g_iload_n dX10_leave_77 rfl 2 rfl ?_
    cases h
    exact g_iret rfl dX10_leave_78 rfl
  · rw [if_neg c5] at h
    refine g_iload dX10_leave_23 4 rfl ?_
    refine g_iload_n dX10_leave_25 rfl 1 rfl ?_
    refine g_iconst (v := (-1)) dX10_leave_26 (by decide) ?_
    refine g_ixor dX10_leave_27 ?_
    refine g_iand dX10_leave_28 ?_
    refine g_if_ne (tgt := 45) dX10_leave_29 (by decide) (fun c6 => ?_) (fun c6 => ?_)
    · rw [if_neg c6] at h
      exact ok_J_X10_leave_45 Θ k_15 hk_15 l0 l1 l2 l3 l4 _ _ r h
    · rw [if_pos c6] at h
      refine g_iload dX10_leave_32 4 rfl ?_
      refine g_sI (As := [.int l4]) ms_X10_276 dX10_leave_34 (ok_J6_bitCount_0f7a4 Θ l4 _ _) rfl rfl (Nat.le_of_ble_eq_true rfl) (by decide) (by decide) (by decide) h (fun x7 ω n h => ?_)
      refine G.less (B' := (0, 0)) (by decide) (by decide) ?_
      refine g_iload_n dX10_leave_37 rfl 3 rfl ?_
      refine g_icmp_ge (tgt := 45) dX10_leave_38 (by decide) (fun c8 => ?_) (fun c8 => ?_)
      · rw [if_pos c8] at h
        exact ok_J_X10_leave_45 Θ k_15 hk_15 l0 l1 l2 l3 l4 _ _ r h
      · rw [if_neg c8] at h
        refine g_iconst (v := 1) dX10_leave_41 (by decide) ?_
        refine g_goto (tgt := 46) dX10_leave_42 (by decide) ?_
        exact ok_J_X10_leave_46 Θ k_15 hk_15 l0 l1 l2 l3 l4 1 _ _ r h
theorem ok_L_X10_leave_15 (Θ : GP) : ∀ (f : Nat) (l0 : Nat) (l1 : Int32) (l2 : Int32) (l3 : Int32) (l4 : Int32) (ω : OW) (n : Nat) (r : Out), L_X10_leave_15 Θ f l0 l1 l2 l3 l4 ω n = some r → GR Θ yX10_leave cX10_leave 6 (some .int) 7 (0, 0) 15 [(0, .ref l0), (1, .int l1), (2, .int l2), (3, .int l3), (4, .int l4)] [] ω n r := by
  intro f
  induction f with
  | zero =>
    intro l0 l1 l2 l3 l4 ω n r h
    unfold L_X10_leave_15 at h
    cases h
  | succ f ih =>
    intro l0 l1 l2 l3 l4 ω n r h
    unfold L_X10_leave_15 at h
    exact ok_B_X10_leave_15 Θ (L_X10_leave_15 Θ f) ih l0 l1 l2 l3 l4 ω n r h
theorem ok_X10_leave (Θ : GP) (l0 : Nat) (ω : OW) (n : Nat) : Ok Θ 7 0 0 yX10_leave cX10_leave 6 (some .int) [.ref l0] ω n (F_X10_leave Θ l0 ω n) := by
  refine Ok.of (by decide +kernel) (Nat.le_of_ble_eq_true rfl) (fun r h => ?_)
  unfold F_X10_leave at h
  show GR Θ yX10_leave cX10_leave 6 (some .int) 7 (0, 0) 0 [(0, .ref l0)] [] ω n r
  refine g_aload_n dX10_leave_0 rfl 0 rfl ?_
  refine g_cI (ci := 10) (As := []) mv_X10_365 dX10_leave_1 rfl (ok_X10_nailedProps Θ l0 _ _) rfl rfl (Nat.le_of_ble_eq_true rfl) (by decide) (by decide) (by decide) h (fun x9 ω n h => ?_)
  refine G.less (B' := (0, 0)) (by decide) (by decide) ?_
  refine g_istore_n (lv' := [(1, .int x9), (0, .ref l0)]) dX10_leave_4 rfl (by decide) rfl ?_
  refine g_iload_n dX10_leave_5 rfl 0 rfl ?_
  refine g_istore_n (lv' := [(2, .int x9), (1, .int x9), (0, .ref l0)]) dX10_leave_6 rfl (by decide) rfl ?_
  refine g_iload_n dX10_leave_7 rfl 1 rfl ?_
  refine g_sI (As := [.int x9]) ms_X10_276 dX10_leave_8 (ok_J6_bitCount_0f7a4 Θ x9 _ _) rfl rfl (Nat.le_of_ble_eq_true rfl) (by decide) (by decide) (by decide) h (fun x10 ω n h => ?_)
  refine G.less (B' := (0, 0)) (by decide) (by decide) ?_
  refine g_istore_n (lv' := [(3, .int x10), (2, .int x9), (1, .int x9), (0, .ref l0)]) dX10_leave_11 rfl (by decide) rfl ?_
  refine g_iconst (v := 0) dX10_leave_12 (by decide) ?_
  refine g_istore (lv' := [(4, .int 0), (3, .int x10), (2, .int x9), (1, .int x9), (0, .ref l0)]) dX10_leave_13 (by decide) rfl ?_
  refine G.lsub [4, 3, 2, 1, 0] rfl ?_
  exact ok_L_X10_leave_15 Θ 5000 l0 x9 x9 x10 0 _ _ r h
def J_X10_bravest_61 (Θ : GP) (k_13 : Nat → Int32 → Int32 → Int32 → OW → Nat → RO) (l0 : Nat) (l1 : Int32) (l2 : Int32) (l3 : Int32) (ω : OW) (n : Nat) : RO := k_13 l0 l1 l2 (l3 + 1) ω n
def J_X10_bravest_56 (Θ : GP) (k_13 : Nat → Int32 → Int32 → Int32 → OW → Nat → RO) (l0 : Nat) (l3 : Int32) (l4 : Int32) (ω : OW) (n : Nat) : RO := J_X10_bravest_61 Θ k_13 l0 l3 l4 l3 ω n
def B_X10_bravest_13 (Θ : GP) (k_13 : Nat → Int32 → Int32 → Int32 → OW → Nat → RO) (l0 : Nat) (l1 : Int32) (l2 : Int32) (l3 : Int32) (ω : OW) (n : Nat) : RO := rA ω l0 10 0 (fun a1 => rI ω a1 0 1 (fun x2 => if x2 ≤ l3 then (some (.inl (some (.int l1), ω, n))) else (rA ω l0 10 0 (fun a4 => cO ω a4 0 (kI (F_X0_waits Θ a4 l3 ω n) (fun x5 ω n => if x5 = 0 then (J_X10_bravest_61 Θ k_13 l0 l1 l2 l3 ω n) else (rA ω l0 10 10 (fun a7 => cO ω a7 9 (kI (F_X9_oddsOf Θ a7 l3 ω n) (fun x8 ω n => if l1 = (-1) then (J_X10_bravest_56 Θ k_13 l0 l3 x8 ω n) else (if l2 ≤ x8 then (J_X10_bravest_61 Θ k_13 l0 l1 l2 l3 ω n) else (J_X10_bravest_56 Θ k_13 l0 l3 x8 ω n))))))))))))
def L_X10_bravest_13 (Θ : GP) : Nat → Nat → Int32 → Int32 → Int32 → OW → Nat → RO
  | 0, _, _, _, _, _, _ => none
  | f + 1, l0, l1, l2, l3, ω, n => B_X10_bravest_13 Θ (L_X10_bravest_13 Θ f) l0 l1 l2 l3 ω n
def F_X10_bravest (Θ : GP) (l0 : Nat) (ω : OW) (n : Nat) : RO := rA ω l0 10 8 (fun a11 => cO ω a11 6 (kV (F_X6_lay Θ a11 ω n) (fun ω n => L_X10_bravest_13 Θ 5000 l0 (-1) 0 0 ω n)))
theorem ok_J_X10_bravest_61 (Θ : GP) (k_13 : Nat → Int32 → Int32 → Int32 → OW → Nat → RO) (hk_13 : ∀ l0 l1 l2 l3 ω n r, k_13 l0 l1 l2 l3 ω n = some r → GR Θ yX10_bravest cX10_bravest 5 (some .int) 6 (0, 0) 13 [(0, .ref l0), (1, .int l1), (2, .int l2), (3, .int l3)] [] ω n r) (l0 : Nat) (l1 : Int32) (l2 : Int32) (l3 : Int32) (ω : OW) (n : Nat) (r : Out) (h : J_X10_bravest_61 Θ k_13 l0 l1 l2 l3 ω n = some r) : GR Θ yX10_bravest cX10_bravest 5 (some .int) 6 (0, 0) 61 [(0, .ref l0), (1, .int l1), (2, .int l2), (3, .int l3)] [] ω n r := by
  unfold J_X10_bravest_61 at h
  refine g_iinc (j := 3) (v := l3 + 1) (lv' := [(3, .int (l3 + 1)), (0, .ref l0), (1, .int l1), (2, .int l2)]) dX10_bravest_61 rfl rfl (by decide) rfl ?_
  refine g_goto (tgt := 13) dX10_bravest_64 (by decide) ?_
  refine G.lsub [1, 2, 3, 0] rfl ?_
  exact hk_13 l0 l1 l2 (l3 + 1) _ _ r h
theorem ok_J_X10_bravest_56 (Θ : GP) (k_13 : Nat → Int32 → Int32 → Int32 → OW → Nat → RO) (hk_13 : ∀ l0 l1 l2 l3 ω n r, k_13 l0 l1 l2 l3 ω n = some r → GR Θ yX10_bravest cX10_bravest 5 (some .int) 6 (0, 0) 13 [(0, .ref l0), (1, .int l1), (2, .int l2), (3, .int l3)] [] ω n r) (l0 : Nat) (l3 : Int32) (l4 : Int32) (ω : OW) (n : Nat) (r : Out) (h : J_X10_bravest_56 Θ k_13 l0 l3 l4 ω n = some r) : GR Θ yX10_bravest cX10_bravest 5 (some .int) 6 (0, 0) 56 [(0, .ref l0), (3, .int l3), (4, .int l4)] [] ω n r := by
  unfold J_X10_bravest_56 at h
  refine g_iload dX10_bravest_56 2 rfl ?_
  refine g_istore_n (lv' := [(2, .int l4), (0, .ref l0), (3, .int l3), (4, .int l4)]) dX10_bravest_58 rfl (by decide) rfl ?_
  refine g_iload_n dX10_bravest_59 rfl 2 rfl ?_
  refine g_istore_n (lv' := [(1, .int l3), (2, .int l4), (0, .ref l0), (3, .int l3), (4, .int l4)]) dX10_bravest_60 rfl (by decide) rfl ?_
  refine G.lsub [2, 0, 1, 3] rfl ?_
  exact ok_J_X10_bravest_61 Θ k_13 hk_13 l0 l3 l4 l3 _ _ r h
theorem ok_B_X10_bravest_13 (Θ : GP) (k_13 : Nat → Int32 → Int32 → Int32 → OW → Nat → RO) (hk_13 : ∀ l0 l1 l2 l3 ω n r, k_13 l0 l1 l2 l3 ω n = some r → GR Θ yX10_bravest cX10_bravest 5 (some .int) 6 (0, 0) 13 [(0, .ref l0), (1, .int l1), (2, .int l2), (3, .int l3)] [] ω n r) (l0 : Nat) (l1 : Int32) (l2 : Int32) (l3 : Int32) (ω : OW) (n : Nat) (r : Out) (h : B_X10_bravest_13 Θ k_13 l0 l1 l2 l3 ω n = some r) : GR Θ yX10_bravest cX10_bravest 5 (some .int) 6 (0, 0) 13 [(0, .ref l0), (1, .int l1), (2, .int l2), (3, .int l3)] [] ω n r := by
  unfold B_X10_bravest_13 at h
  refine g_iload_n dX10_bravest_13 rfl 3 rfl ?_
  refine g_aload_n dX10_bravest_14 rfl 0 rfl ?_
  refine g_rA fl_X10_48 dX10_bravest_15 h (fun a1 h => ?_)
  refine g_rI fl_X10_322 dX10_bravest_18 h (fun x2 h => ?_)
  refine g_icmp_ge (tgt := 67) dX10_bravest_21 (by decide) (fun c3 => ?_) (fun c3 => ?_)
  · rw [if_pos c3] at h
    refine g_iload_n dX10_bravest_67 rfl 1 rfl ?_
    cases h
    exact g_iret rfl dX10_bravest_68 rfl
  · rw [if_neg c3] at h
    refine g_aload_n dX10_bravest_24 rfl 0 rfl ?_
    refine g_rA fl_X10_48 dX10_bravest_25 h (fun a4 h => ?_)
    refine g_iload_n dX10_bravest_28 rfl 3 rfl ?_
    refine g_cI (ci := 0) (As := [.int l3]) mv_X10_325 dX10_bravest_29 rfl (ok_X0_waits Θ a4 l3 _ _) rfl rfl (Nat.le_of_ble_eq_true rfl) (by decide) (by decide) (by decide) h (fun x5 ω n h => ?_)
    refine G.less (B' := (0, 0)) (by decide) (by decide) ?_
    refine g_if_eq (tgt := 61) dX10_bravest_32 (by decide) (fun c6 => ?_) (fun c6 => ?_)
    · rw [if_pos c6] at h
      exact ok_J_X10_bravest_61 Θ k_13 hk_13 l0 l1 l2 l3 _ _ r h
    · rw [if_neg c6] at h
      refine g_aload_n dX10_bravest_35 rfl 0 rfl ?_
      refine g_rA fl_X10_100 dX10_bravest_36 h (fun a7 h => ?_)
      refine g_iload_n dX10_bravest_39 rfl 3 rfl ?_
      refine g_cI (ci := 9) (As := [.int l3]) mv_X10_315 dX10_bravest_40 rfl (ok_X9_oddsOf Θ a7 l3 _ _) rfl rfl (Nat.le_of_ble_eq_true rfl) (by decide) (by decide) (by decide) h (fun x8 ω n h => ?_)
      refine G.less (B' := (0, 0)) (by decide) (by decide) ?_
      refine g_istore (lv' := [(4, .int x8), (0, .ref l0), (1, .int l1), (2, .int l2), (3, .int l3)]) dX10_bravest_43 (by decide) rfl ?_
      refine g_iload_n dX10_bravest_45 rfl 2 rfl ?_
      refine g_iconst (v := (-1)) dX10_bravest_46 (by decide) ?_
      refine g_icmp_eq (tgt := 56) dX10_bravest_47 (by decide) (fun c9 => ?_) (fun c9 => ?_)
      · rw [if_pos c9] at h
        refine G.lsub [1, 4, 0] rfl ?_
        exact ok_J_X10_bravest_56 Θ k_13 hk_13 l0 l3 x8 _ _ r h
      · rw [if_neg c9] at h
        refine g_iload dX10_bravest_50 0 rfl ?_
        refine g_iload_n dX10_bravest_52 rfl 3 rfl ?_
        refine g_icmp_ge (tgt := 61) dX10_bravest_53 (by decide) (fun c10 => ?_) (fun c10 => ?_)
        · rw [if_pos c10] at h
          refine G.lsub [1, 2, 3, 4] rfl ?_
          exact ok_J_X10_bravest_61 Θ k_13 hk_13 l0 l1 l2 l3 _ _ r h
        · rw [if_neg c10] at h
          refine G.lsub [1, 4, 0] rfl ?_
          exact ok_J_X10_bravest_56 Θ k_13 hk_13 l0 l3 x8 _ _ r h
theorem ok_L_X10_bravest_13 (Θ : GP) : ∀ (f : Nat) (l0 : Nat) (l1 : Int32) (l2 : Int32) (l3 : Int32) (ω : OW) (n : Nat) (r : Out), L_X10_bravest_13 Θ f l0 l1 l2 l3 ω n = some r → GR Θ yX10_bravest cX10_bravest 5 (some .int) 6 (0, 0) 13 [(0, .ref l0), (1, .int l1), (2, .int l2), (3, .int l3)] [] ω n r := by
  intro f
  induction f with
  | zero =>
    intro l0 l1 l2 l3 ω n r h
    unfold L_X10_bravest_13 at h
    cases h
  | succ f ih =>
    intro l0 l1 l2 l3 ω n r h
    unfold L_X10_bravest_13 at h
    exact ok_B_X10_bravest_13 Θ (L_X10_bravest_13 Θ f) ih l0 l1 l2 l3 ω n r h
theorem ok_X10_bravest (Θ : GP) (l0 : Nat) (ω : OW) (n : Nat) : Ok Θ 6 0 0 yX10_bravest cX10_bravest 5 (some .int) [.ref l0] ω n (F_X10_bravest Θ l0 ω n) := by
  refine Ok.of (by decide +kernel) (Nat.le_of_ble_eq_true rfl) (fun r h => ?_)
  unfold F_X10_bravest at h
  show GR Θ yX10_bravest cX10_bravest 5 (some .int) 6 (0, 0) 0 [(0, .ref l0)] [] ω n r
  refine g_aload_n dX10_bravest_0 rfl 0 rfl ?_
  refine g_rA fl_X10_88 dX10_bravest_1 h (fun a11 h => ?_)
  refine g_cV (ci := 6) (As := []) mv_X10_200 dX10_bravest_4 rfl (ok_X6_lay Θ a11 _ _) rfl rfl (Nat.le_of_ble_eq_true rfl) (by decide) (by decide) (by decide) h (fun ω n h => ?_)
  refine G.less (B' := (0, 0)) (by decide) (by decide) ?_
  refine g_iconst (v := (-1)) dX10_bravest_7 (by decide) ?_
  refine g_istore_n (lv' := [(1, .int (-1)), (0, .ref l0)]) dX10_bravest_8 rfl (by decide) rfl ?_
  refine g_iconst (v := 0) dX10_bravest_9 (by decide) ?_
  refine g_istore_n (lv' := [(2, .int 0), (1, .int (-1)), (0, .ref l0)]) dX10_bravest_10 rfl (by decide) rfl ?_
  refine g_iconst (v := 0) dX10_bravest_11 (by decide) ?_
  refine g_istore_n (lv' := [(3, .int 0), (2, .int 0), (1, .int (-1)), (0, .ref l0)]) dX10_bravest_12 rfl (by decide) rfl ?_
  refine G.lsub [3, 2, 1, 0] rfl ?_
  exact ok_L_X10_bravest_13 Θ 5000 l0 (-1) 0 0 _ _ r h
def J_X10_alike_75 (Θ : GP) (k_4 : Nat → Int32 → Int32 → OW → Nat → RO) (k_19 : Nat → Int32 → Int32 → Int32 → OW → Nat → RO) (l0 : Nat) (l1 : Int32) (l2 : Int32) (l3 : Int32) (ω : OW) (n : Nat) : RO := k_19 l0 l1 l2 (l3 + 1) ω n
def B_X10_alike_19 (Θ : GP) (k_4 : Nat → Int32 → Int32 → OW → Nat → RO) (k_19 : Nat → Int32 → Int32 → Int32 → OW → Nat → RO) (l0 : Nat) (l1 : Int32) (l2 : Int32) (l3 : Int32) (ω : OW) (n : Nat) : RO := rA ω l0 10 0 (fun a1 => rI ω a1 0 1 (fun x2 => if x2 ≤ l3 then (k_4 l0 l1 (l2 + 1) ω n) else (rA ω l0 10 0 (fun a4 => rA ω a4 0 12 (fun a5 => lI ω (gI Θ) a5 l2 (fun x6 => rA ω l0 10 0 (fun a7 => rA ω a7 0 12 (fun a8 => lI ω (gI Θ) a8 l3 (fun x9 => if x6 = x9 then (rA ω l0 10 0 (fun a11 => rA ω a11 0 13 (fun a12 => lI ω (gI Θ) a12 l2 (fun x13 => rA ω l0 10 0 (fun a14 => rA ω a14 0 13 (fun a15 => lI ω (gI Θ) a15 l3 (fun x16 => if x13 = x16 then (J_X10_alike_75 Θ k_4 k_19 l0 (l1 + 1) l2 l3 ω n) else (J_X10_alike_75 Θ k_4 k_19 l0 l1 l2 l3 ω n)))))))) else (J_X10_alike_75 Θ k_4 k_19 l0 l1 l2 l3 ω n))))))))))
def L_X10_alike_19 (Θ : GP) (k_4 : Nat → Int32 → Int32 → OW → Nat → RO) : Nat → Nat → Int32 → Int32 → Int32 → OW → Nat → RO
  | 0, _, _, _, _, _, _ => none
  | f + 1, l0, l1, l2, l3, ω, n => B_X10_alike_19 Θ k_4 (L_X10_alike_19 Θ k_4 f) l0 l1 l2 l3 ω n
def B_X10_alike_4 (Θ : GP) (k_4 : Nat → Int32 → Int32 → OW → Nat → RO) (l0 : Nat) (l1 : Int32) (l2 : Int32) (ω : OW) (n : Nat) : RO := rA ω l0 10 0 (fun a18 => rI ω a18 0 1 (fun x19 => if x19 ≤ l2 then (some (.inl (some (.int l1), ω, n))) else (L_X10_alike_19 Θ k_4 5000 l0 l1 l2 (l2 + 1) ω n)))
def L_X10_alike_4 (Θ : GP) : Nat → Nat → Int32 → Int32 → OW → Nat → RO
  | 0, _, _, _, _, _ => none
  | f + 1, l0, l1, l2, ω, n => B_X10_alike_4 Θ (L_X10_alike_4 Θ f) l0 l1 l2 ω n
def F_X10_alike (Θ : GP) (l0 : Nat) (ω : OW) (n : Nat) : RO := L_X10_alike_4 Θ 5000 l0 0 0 ω n
theorem ok_J_X10_alike_75 (Θ : GP) (k_4 : Nat → Int32 → Int32 → OW → Nat → RO) (k_19 : Nat → Int32 → Int32 → Int32 → OW → Nat → RO) (hk_4 : ∀ l0 l1 l2 ω n r, k_4 l0 l1 l2 ω n = some r → GR Θ yX10_alike cX10_alike 4 (some .int) 1 (0, 0) 4 [(0, .ref l0), (1, .int l1), (2, .int l2)] [] ω n r) (hk_19 : ∀ l0 l1 l2 l3 ω n r, k_19 l0 l1 l2 l3 ω n = some r → GR Θ yX10_alike cX10_alike 4 (some .int) 1 (0, 0) 19 [(0, .ref l0), (1, .int l1), (2, .int l2), (3, .int l3)] [] ω n r) (l0 : Nat) (l1 : Int32) (l2 : Int32) (l3 : Int32) (ω : OW) (n : Nat) (r : Out) (h : J_X10_alike_75 Θ k_4 k_19 l0 l1 l2 l3 ω n = some r) : GR Θ yX10_alike cX10_alike 4 (some .int) 1 (0, 0) 75 [(0, .ref l0), (1, .int l1), (2, .int l2), (3, .int l3)] [] ω n r := by
  unfold J_X10_alike_75 at h
  refine g_iinc (j := 3) (v := l3 + 1) (lv' := [(3, .int (l3 + 1)), (0, .ref l0), (1, .int l1), (2, .int l2)]) dX10_alike_75 rfl rfl (by decide) rfl ?_
  refine g_goto (tgt := 19) dX10_alike_78 (by decide) ?_
  refine G.lsub [1, 2, 3, 0] rfl ?_
  exact hk_19 l0 l1 l2 (l3 + 1) _ _ r h
theorem ok_B_X10_alike_19 (Θ : GP) (k_4 : Nat → Int32 → Int32 → OW → Nat → RO) (k_19 : Nat → Int32 → Int32 → Int32 → OW → Nat → RO) (hk_4 : ∀ l0 l1 l2 ω n r, k_4 l0 l1 l2 ω n = some r → GR Θ yX10_alike cX10_alike 4 (some .int) 1 (0, 0) 4 [(0, .ref l0), (1, .int l1), (2, .int l2)] [] ω n r) (hk_19 : ∀ l0 l1 l2 l3 ω n r, k_19 l0 l1 l2 l3 ω n = some r → GR Θ yX10_alike cX10_alike 4 (some .int) 1 (0, 0) 19 [(0, .ref l0), (1, .int l1), (2, .int l2), (3, .int l3)] [] ω n r) (l0 : Nat) (l1 : Int32) (l2 : Int32) (l3 : Int32) (ω : OW) (n : Nat) (r : Out) (h : B_X10_alike_19 Θ k_4 k_19 l0 l1 l2 l3 ω n = some r) : GR Θ yX10_alike cX10_alike 4 (some .int) 1 (0, 0) 19 [(0, .ref l0), (1, .int l1), (2, .int l2), (3, .int l3)] [] ω n r := by
  unfold B_X10_alike_19 at h
  refine g_iload_n dX10_alike_19 rfl 3 rfl ?_
  refine g_aload_n dX10_alike_20 rfl 0 rfl ?_
  refine g_rA fl_X10_48 dX10_alike_21 h (fun a1 h => ?_)
  refine g_rI fl_X10_322 dX10_alike_24 h (fun x2 h => ?_)
  refine g_icmp_ge (tgt := 81) dX10_alike_27 (by decide) (fun c3 => ?_) (fun c3 => ?_)
  · rw [if_pos c3] at h
    refine g_iinc (j := 2) (v := l2 + 1) (lv' := [(2, .int (l2 + 1)), (0, .ref l0), (1, .int l1), (3, .int l3)]) dX10_alike_81 rfl rfl (by decide) rfl ?_
    refine g_goto (tgt := 4) dX10_alike_84 (by decide) ?_
    refine G.lsub [1, 2, 0] rfl ?_
    exact hk_4 l0 l1 (l2 + 1) _ _ r h
  · rw [if_neg c3] at h
    refine g_aload_n dX10_alike_30 rfl 0 rfl ?_
    refine g_rA fl_X10_48 dX10_alike_31 h (fun a4 h => ?_)
    refine g_rA fl_X10_184 dX10_alike_34 h (fun a5 h => ?_)
    refine g_iload_n dX10_alike_37 rfl 2 rfl ?_
    refine g_lIi dX10_alike_38 h (fun x6 h => ?_)
    refine g_aload_n dX10_alike_39 rfl 0 rfl ?_
    refine g_rA fl_X10_48 dX10_alike_40 h (fun a7 h => ?_)
    refine g_rA fl_X10_184 dX10_alike_43 h (fun a8 h => ?_)
    refine g_iload_n dX10_alike_46 rfl 3 rfl ?_
    refine g_lIi dX10_alike_47 h (fun x9 h => ?_)
    refine g_icmp_ne (tgt := 75) dX10_alike_48 (by decide) (fun c10 => ?_) (fun c10 => ?_)
    · rw [if_neg c10] at h
      exact ok_J_X10_alike_75 Θ k_4 k_19 hk_4 hk_19 l0 l1 l2 l3 _ _ r h
    · rw [if_pos c10] at h
      refine g_aload_n dX10_alike_51 rfl 0 rfl ?_
      refine g_rA fl_X10_48 dX10_alike_52 h (fun a11 h => ?_)
      refine g_rA fl_X10_187 dX10_alike_55 h (fun a12 h => ?_)
      refine g_iload_n dX10_alike_58 rfl 2 rfl ?_
      refine g_lIi dX10_alike_59 h (fun x13 h => ?_)
      refine g_aload_n dX10_alike_60 rfl 0 rfl ?_
      refine g_rA fl_X10_48 dX10_alike_61 h (fun a14 h => ?_)
      refine g_rA fl_X10_187 dX10_alike_64 h (fun a15 h => ?_)
      refine g_iload_n dX10_alike_67 rfl 3 rfl ?_
      refine g_lIi dX10_alike_68 h (fun x16 h => ?_)
      refine g_icmp_ne (tgt := 75) dX10_alike_69 (by decide) (fun c17 => ?_) (fun c17 => ?_)
      · rw [if_neg c17] at h
        exact ok_J_X10_alike_75 Θ k_4 k_19 hk_4 hk_19 l0 l1 l2 l3 _ _ r h
      · rw [if_pos c17] at h
        refine g_iinc (j := 1) (v := l1 + 1) (lv' := [(1, .int (l1 + 1)), (0, .ref l0), (2, .int l2), (3, .int l3)]) dX10_alike_72 rfl rfl (by decide) rfl ?_
        refine G.lsub [1, 0, 2, 3] rfl ?_
        exact ok_J_X10_alike_75 Θ k_4 k_19 hk_4 hk_19 l0 (l1 + 1) l2 l3 _ _ r h
theorem ok_L_X10_alike_19 (Θ : GP) (k_4 : Nat → Int32 → Int32 → OW → Nat → RO) (hk_4 : ∀ l0 l1 l2 ω n r, k_4 l0 l1 l2 ω n = some r → GR Θ yX10_alike cX10_alike 4 (some .int) 1 (0, 0) 4 [(0, .ref l0), (1, .int l1), (2, .int l2)] [] ω n r) : ∀ (f : Nat) (l0 : Nat) (l1 : Int32) (l2 : Int32) (l3 : Int32) (ω : OW) (n : Nat) (r : Out), L_X10_alike_19 Θ k_4 f l0 l1 l2 l3 ω n = some r → GR Θ yX10_alike cX10_alike 4 (some .int) 1 (0, 0) 19 [(0, .ref l0), (1, .int l1), (2, .int l2), (3, .int l3)] [] ω n r := by
  intro f
  induction f with
  | zero =>
    intro l0 l1 l2 l3 ω n r h
    unfold L_X10_alike_19 at h
    cases h
  | succ f ih =>
    intro l0 l1 l2 l3 ω n r h
    unfold L_X10_alike_19 at h
    exact ok_B_X10_alike_19 Θ k_4 (L_X10_alike_19 Θ k_4 f) hk_4 ih l0 l1 l2 l3 ω n r h
theorem ok_B_X10_alike_4 (Θ : GP) (k_4 : Nat → Int32 → Int32 → OW → Nat → RO) (hk_4 : ∀ l0 l1 l2 ω n r, k_4 l0 l1 l2 ω n = some r → GR Θ yX10_alike cX10_alike 4 (some .int) 1 (0, 0) 4 [(0, .ref l0), (1, .int l1), (2, .int l2)] [] ω n r) (l0 : Nat) (l1 : Int32) (l2 : Int32) (ω : OW) (n : Nat) (r : Out) (h : B_X10_alike_4 Θ k_4 l0 l1 l2 ω n = some r) : GR Θ yX10_alike cX10_alike 4 (some .int) 1 (0, 0) 4 [(0, .ref l0), (1, .int l1), (2, .int l2)] [] ω n r := by
  unfold B_X10_alike_4 at h
  refine g_iload_n dX10_alike_4 rfl 2 rfl ?_
  refine g_aload_n dX10_alike_5 rfl 0 rfl ?_
  refine g_rA fl_X10_48 dX10_alike_6 h (fun a18 h => ?_)
  refine g_rI fl_X10_322 dX10_alike_9 h (fun x19 h => ?_)
  refine g_icmp_ge (tgt := 87) dX10_alike_12 (by decide) (fun c20 => ?_) (fun c20 => ?_)
  · rw [if_pos c20] at h
    refine g_iload_n dX10_alike_87 rfl 1 rfl ?_
    cases h
    exact g_iret rfl dX10_alike_88 rfl
  · rw [if_neg c20] at h
    refine g_iload_n dX10_alike_15 rfl 2 rfl ?_
    refine g_iconst (v := 1) dX10_alike_16 (by decide) ?_
    refine g_iadd dX10_alike_17 ?_
    refine g_istore_n (lv' := [(3, .int (l2 + 1)), (0, .ref l0), (1, .int l1), (2, .int l2)]) dX10_alike_18 rfl (by decide) rfl ?_
    refine G.lsub [1, 2, 3, 0] rfl ?_
    exact ok_L_X10_alike_19 Θ k_4 hk_4 5000 l0 l1 l2 (l2 + 1) _ _ r h
theorem ok_L_X10_alike_4 (Θ : GP) : ∀ (f : Nat) (l0 : Nat) (l1 : Int32) (l2 : Int32) (ω : OW) (n : Nat) (r : Out), L_X10_alike_4 Θ f l0 l1 l2 ω n = some r → GR Θ yX10_alike cX10_alike 4 (some .int) 1 (0, 0) 4 [(0, .ref l0), (1, .int l1), (2, .int l2)] [] ω n r := by
  intro f
  induction f with
  | zero =>
    intro l0 l1 l2 ω n r h
    unfold L_X10_alike_4 at h
    cases h
  | succ f ih =>
    intro l0 l1 l2 ω n r h
    unfold L_X10_alike_4 at h
    exact ok_B_X10_alike_4 Θ (L_X10_alike_4 Θ f) ih l0 l1 l2 ω n r h
theorem ok_X10_alike (Θ : GP) (l0 : Nat) (ω : OW) (n : Nat) : Ok Θ 1 0 0 yX10_alike cX10_alike 4 (some .int) [.ref l0] ω n (F_X10_alike Θ l0 ω n) := by
  refine Ok.of (by decide +kernel) (Nat.le_of_ble_eq_true rfl) (fun r h => ?_)
  unfold F_X10_alike at h
  show GR Θ yX10_alike cX10_alike 4 (some .int) 1 (0, 0) 0 [(0, .ref l0)] [] ω n r
  refine g_iconst (v := 0) dX10_alike_0 (by decide) ?_
  refine g_istore_n (lv' := [(1, .int 0), (0, .ref l0)]) dX10_alike_1 rfl (by decide) rfl ?_
  refine g_iconst (v := 0) dX10_alike_2 (by decide) ?_
  refine g_istore_n (lv' := [(2, .int 0), (1, .int 0), (0, .ref l0)]) dX10_alike_3 rfl (by decide) rfl ?_
  refine G.lsub [2, 1, 0] rfl ?_
  exact ok_L_X10_alike_4 Θ 5000 l0 0 0 _ _ r h
def J_X10_hearAllChoices_114 (Θ : GP) (k_2 : Nat → Int32 → Int32 → Int32 → OW → Nat → RO) (k_18 : Nat → Int32 → Int32 → Int32 → Int32 → OW → Nat → RO) (l0 : Nat) (l1 : Int32) (l2 : Int32) (l3 : Int32) (l4 : Int32) (ω : OW) (n : Nat) : RO := k_18 l0 l1 l2 l3 (l4 + 1) ω n
def J_X10_hearAllChoices_112 (Θ : GP) (k_2 : Nat → Int32 → Int32 → Int32 → OW → Nat → RO) (k_18 : Nat → Int32 → Int32 → Int32 → Int32 → OW → Nat → RO) (l0 : Nat) (l1 : Int32) (l2 : Int32) (l3 : Int32) (l4 : Int32) (s0 : Int32) (s1 : Int32) (s2 : Int32) (s3 : Nat) (ω : OW) (n : Nat) : RO := sI ω (gI Θ) s3 s2 (s1 ||| s0) (fun ω => J_X10_hearAllChoices_114 Θ k_2 k_18 l0 l1 l2 l3 l4 ω n)
def B_X10_hearAllChoices_18 (Θ : GP) (k_2 : Nat → Int32 → Int32 → Int32 → OW → Nat → RO) (k_18 : Nat → Int32 → Int32 → Int32 → Int32 → OW → Nat → RO) (l0 : Nat) (l1 : Int32) (l2 : Int32) (l3 : Int32) (l4 : Int32) (ω : OW) (n : Nat) : RO := if 8 < l4 then (k_2 l0 l1 l2 (l3 + 1) ω n) else (if (((l2 >>> ((l3 : Int32) &&& 31)) &&& (l2 >>> ((l4 : Int32) &&& 31))) &&& 1) = 0 then (J_X10_hearAllChoices_114 Θ k_2 k_18 l0 l1 l2 l3 l4 ω n) else (rA ω l0 10 8 (fun a3 => cO ω a3 6 (kV (F_X6_lay Θ a3 ω n) (fun ω n => rA ω l0 10 8 (fun a5 => cO ω a5 6 (kV (F_X6_takeDown Θ a5 ((1 <<< ((l3 : Int32) &&& 31)) >>> ((1 : Int32) &&& 31)) ω n) (fun ω n => rA ω l0 10 8 (fun a7 => cO ω a7 6 (kV (F_X6_board Θ a7 l1 ω n) (fun ω n => rA ω l0 10 8 (fun a9 => wF ω a9 6 6 (.int (l4 - 1)) (fun ω => rA ω l0 10 8 (fun a10 => cO ω a10 6 (kV (F_X6_straightOn Θ a10 ω n) (fun ω n => rA ω l0 10 13 (fun a12 => lI ω (gI Θ) a12 l3 (fun x13 => rA ω l0 10 8 (fun a14 => rI ω a14 6 8 (fun x15 => if x15 = (-1) then (J_X10_hearAllChoices_112 Θ k_2 k_18 l0 l1 l2 l3 l4 0 x13 l3 a12 ω n) else (J_X10_hearAllChoices_112 Θ k_2 k_18 l0 l1 l2 l3 l4 (1 <<< ((l4 : Int32) &&& 31)) x13 l3 a12 ω n)))))))))))))))))))))
def L_X10_hearAllChoices_18 (Θ : GP) (k_2 : Nat → Int32 → Int32 → Int32 → OW → Nat → RO) : Nat → Nat → Int32 → Int32 → Int32 → Int32 → OW → Nat → RO
  | 0, _, _, _, _, _, _, _ => none
  | f + 1, l0, l1, l2, l3, l4, ω, n => B_X10_hearAllChoices_18 Θ k_2 (L_X10_hearAllChoices_18 Θ k_2 f) l0 l1 l2 l3 l4 ω n
def B_X10_hearAllChoices_2 (Θ : GP) (k_2 : Nat → Int32 → Int32 → Int32 → OW → Nat → RO) (l0 : Nat) (l1 : Int32) (l2 : Int32) (l3 : Int32) (ω : OW) (n : Nat) : RO := if 8 < l3 then (some (.inl (none, ω, n))) else (rA ω l0 10 13 (fun a18 => sI ω (gI Θ) a18 l3 0 (fun ω => L_X10_hearAllChoices_18 Θ k_2 5000 l0 l1 l2 l3 0 ω n)))
def L_X10_hearAllChoices_2 (Θ : GP) : Nat → Nat → Int32 → Int32 → Int32 → OW → Nat → RO
  | 0, _, _, _, _, _, _ => none
  | f + 1, l0, l1, l2, l3, ω, n => B_X10_hearAllChoices_2 Θ (L_X10_hearAllChoices_2 Θ f) l0 l1 l2 l3 ω n
def F_X10_hearAllChoices (Θ : GP) (l0 : Nat) (l1 : Int32) (l2 : Int32) (ω : OW) (n : Nat) : RO := L_X10_hearAllChoices_2 Θ 5000 l0 l1 l2 0 ω n
theorem ok_J_X10_hearAllChoices_114 (Θ : GP) (k_2 : Nat → Int32 → Int32 → Int32 → OW → Nat → RO) (k_18 : Nat → Int32 → Int32 → Int32 → Int32 → OW → Nat → RO) (hk_2 : ∀ l0 l1 l2 l3 ω n r, k_2 l0 l1 l2 l3 ω n = some r → GR Θ yX10_hearAllChoices cX10_hearAllChoices 5 (none : Option Jvm.ClassFile.FieldType) 6 (0, 0) 2 [(0, .ref l0), (1, .int l1), (2, .int l2), (3, .int l3)] [] ω n r) (hk_18 : ∀ l0 l1 l2 l3 l4 ω n r, k_18 l0 l1 l2 l3 l4 ω n = some r → GR Θ yX10_hearAllChoices cX10_hearAllChoices 5 (none : Option Jvm.ClassFile.FieldType) 6 (0, 0) 18 [(0, .ref l0), (1, .int l1), (2, .int l2), (3, .int l3), (4, .int l4)] [] ω n r) (l0 : Nat) (l1 : Int32) (l2 : Int32) (l3 : Int32) (l4 : Int32) (ω : OW) (n : Nat) (r : Out) (h : J_X10_hearAllChoices_114 Θ k_2 k_18 l0 l1 l2 l3 l4 ω n = some r) : GR Θ yX10_hearAllChoices cX10_hearAllChoices 5 (none : Option Jvm.ClassFile.FieldType) 6 (0, 0) 114 [(0, .ref l0), (1, .int l1), (2, .int l2), (3, .int l3), (4, .int l4)] [] ω n r := by
  unfold J_X10_hearAllChoices_114 at h
  refine g_iinc (j := 4) (v := l4 + 1) (lv' := [(4, .int (l4 + 1)), (0, .ref l0), (1, .int l1), (2, .int l2), (3, .int l3)]) dX10_hearAllChoices_114 rfl rfl (by decide) rfl ?_
  refine g_goto (tgt := 18) dX10_hearAllChoices_117 (by decide) ?_
  refine G.lsub [1, 2, 3, 4, 0] rfl ?_
  exact hk_18 l0 l1 l2 l3 (l4 + 1) _ _ r h
theorem ok_J_X10_hearAllChoices_112 (Θ : GP) (k_2 : Nat → Int32 → Int32 → Int32 → OW → Nat → RO) (k_18 : Nat → Int32 → Int32 → Int32 → Int32 → OW → Nat → RO) (hk_2 : ∀ l0 l1 l2 l3 ω n r, k_2 l0 l1 l2 l3 ω n = some r → GR Θ yX10_hearAllChoices cX10_hearAllChoices 5 (none : Option Jvm.ClassFile.FieldType) 6 (0, 0) 2 [(0, .ref l0), (1, .int l1), (2, .int l2), (3, .int l3)] [] ω n r) (hk_18 : ∀ l0 l1 l2 l3 l4 ω n r, k_18 l0 l1 l2 l3 l4 ω n = some r → GR Θ yX10_hearAllChoices cX10_hearAllChoices 5 (none : Option Jvm.ClassFile.FieldType) 6 (0, 0) 18 [(0, .ref l0), (1, .int l1), (2, .int l2), (3, .int l3), (4, .int l4)] [] ω n r) (l0 : Nat) (l1 : Int32) (l2 : Int32) (l3 : Int32) (l4 : Int32) (s0 : Int32) (s1 : Int32) (s2 : Int32) (s3 : Nat) (ω : OW) (n : Nat) (r : Out) (h : J_X10_hearAllChoices_112 Θ k_2 k_18 l0 l1 l2 l3 l4 s0 s1 s2 s3 ω n = some r) : GR Θ yX10_hearAllChoices cX10_hearAllChoices 5 (none : Option Jvm.ClassFile.FieldType) 6 (0, 0) 112 [(0, .ref l0), (1, .int l1), (2, .int l2), (3, .int l3), (4, .int l4)] [.int s0, .int s1, .int s2, .ref s3] ω n r := by
  unfold J_X10_hearAllChoices_112 at h
  refine g_ior dX10_hearAllChoices_112 ?_
  refine g_sIi dX10_hearAllChoices_113 h (fun ω h => ?_)
  exact ok_J_X10_hearAllChoices_114 Θ k_2 k_18 hk_2 hk_18 l0 l1 l2 l3 l4 _ _ r h
theorem ok_B_X10_hearAllChoices_18 (Θ : GP) (k_2 : Nat → Int32 → Int32 → Int32 → OW → Nat → RO) (k_18 : Nat → Int32 → Int32 → Int32 → Int32 → OW → Nat → RO) (hk_2 : ∀ l0 l1 l2 l3 ω n r, k_2 l0 l1 l2 l3 ω n = some r → GR Θ yX10_hearAllChoices cX10_hearAllChoices 5 (none : Option Jvm.ClassFile.FieldType) 6 (0, 0) 2 [(0, .ref l0), (1, .int l1), (2, .int l2), (3, .int l3)] [] ω n r) (hk_18 : ∀ l0 l1 l2 l3 l4 ω n r, k_18 l0 l1 l2 l3 l4 ω n = some r → GR Θ yX10_hearAllChoices cX10_hearAllChoices 5 (none : Option Jvm.ClassFile.FieldType) 6 (0, 0) 18 [(0, .ref l0), (1, .int l1), (2, .int l2), (3, .int l3), (4, .int l4)] [] ω n r) (l0 : Nat) (l1 : Int32) (l2 : Int32) (l3 : Int32) (l4 : Int32) (ω : OW) (n : Nat) (r : Out) (h : B_X10_hearAllChoices_18 Θ k_2 k_18 l0 l1 l2 l3 l4 ω n = some r) : GR Θ yX10_hearAllChoices cX10_hearAllChoices 5 (none : Option Jvm.ClassFile.FieldType) 6 (0, 0) 18 [(0, .ref l0), (1, .int l1), (2, .int l2), (3, .int l3), (4, .int l4)] [] ω n r := by
  unfold B_X10_hearAllChoices_18 at h
  refine g_iload dX10_hearAllChoices_18 4 rfl ?_
  refine g_bipush (v := 8) dX10_hearAllChoices_20 (by decide) ?_
  refine g_icmp_gt (tgt := 120) dX10_hearAllChoices_22 (by decide) (fun c1 => ?_) (fun c1 => ?_)
  · rw [if_pos c1] at h
    refine g_iinc (j := 3) (v := l3 + 1) (lv' := [(3, .int (l3 + 1)), (0, .ref l0), (1, .int l1), (2, .int l2), (4, .int l4)]) dX10_hearAllChoices_120 rfl rfl (by decide) rfl ?_
    refine g_goto (tgt := 2) dX10_hearAllChoices_123 (by decide) ?_
    refine G.lsub [1, 2, 3, 0] rfl ?_
    exact hk_2 l0 l1 l2 (l3 + 1) _ _ r h
  · rw [if_neg c1] at h
    refine g_iload_n dX10_hearAllChoices_25 rfl 2 rfl ?_
    refine g_iload_n dX10_hearAllChoices_26 rfl 3 rfl ?_
    refine g_ishr dX10_hearAllChoices_27 ?_
    refine g_iload_n dX10_hearAllChoices_28 rfl 2 rfl ?_
    refine g_iload dX10_hearAllChoices_29 4 rfl ?_
    refine g_ishr dX10_hearAllChoices_31 ?_
    refine g_iand dX10_hearAllChoices_32 ?_
    refine g_iconst (v := 1) dX10_hearAllChoices_33 (by decide) ?_
    refine g_iand dX10_hearAllChoices_34 ?_
    refine g_if_ne (tgt := 41) dX10_hearAllChoices_35 (by decide) (fun c2 => ?_) (fun c2 => ?_)
    · rw [if_neg c2] at h
      refine g_aload_n dX10_hearAllChoices_41 rfl 0 rfl ?_
      refine g_rA fl_X10_88 dX10_hearAllChoices_42 h (fun a3 h => ?_)
      refine g_cV (ci := 6) (As := []) mv_X10_200 dX10_hearAllChoices_45 rfl (ok_X6_lay Θ a3 _ _) rfl rfl (Nat.le_of_ble_eq_true rfl) (by decide) (by decide) (by decide) h (fun ω n h => ?_)
      refine G.less (B' := (0, 0)) (by decide) (by decide) ?_
      refine g_aload_n dX10_hearAllChoices_48 rfl 0 rfl ?_
      refine g_rA fl_X10_88 dX10_hearAllChoices_49 h (fun a5 h => ?_)
      refine g_iconst (v := 1) dX10_hearAllChoices_52 (by decide) ?_
      refine g_iload_n dX10_hearAllChoices_53 rfl 3 rfl ?_
      refine g_ishl dX10_hearAllChoices_54 ?_
      refine g_iconst (v := 1) dX10_hearAllChoices_55 (by decide) ?_
      refine g_ishr dX10_hearAllChoices_56 ?_
      refine g_cV (ci := 6) (As := [.int ((1 <<< ((l3 : Int32) &&& 31)) >>> ((1 : Int32) &&& 31))]) mv_X10_435 dX10_hearAllChoices_57 rfl (ok_X6_takeDown Θ a5 ((1 <<< ((l3 : Int32) &&& 31)) >>> ((1 : Int32) &&& 31)) _ _) rfl rfl (Nat.le_of_ble_eq_true rfl) (by decide) (by decide) (by decide) h (fun ω n h => ?_)
      refine G.less (B' := (0, 0)) (by decide) (by decide) ?_
      refine g_aload_n dX10_hearAllChoices_60 rfl 0 rfl ?_
      refine g_rA fl_X10_88 dX10_hearAllChoices_61 h (fun a7 h => ?_)
      refine g_iload_n dX10_hearAllChoices_64 rfl 1 rfl ?_
      refine g_cV (ci := 6) (As := [.int l1]) mv_X10_203 dX10_hearAllChoices_65 rfl (ok_X6_board Θ a7 l1 _ _) rfl rfl (Nat.le_of_ble_eq_true rfl) (by decide) (by decide) (by decide) h (fun ω n h => ?_)
      refine G.less (B' := (0, 0)) (by decide) (by decide) ?_
      refine g_aload_n dX10_hearAllChoices_68 rfl 0 rfl ?_
      refine g_rA fl_X10_88 dX10_hearAllChoices_69 h (fun a9 h => ?_)
      refine g_iload dX10_hearAllChoices_72 4 rfl ?_
      refine g_iconst (v := 1) dX10_hearAllChoices_74 (by decide) ?_
      refine g_isub dX10_hearAllChoices_75 ?_
      refine g_wF fl_X10_438 dX10_hearAllChoices_76 (rfl) rfl h (fun ω h => ?_)
      refine g_aload_n dX10_hearAllChoices_79 rfl 0 rfl ?_
      refine g_rA fl_X10_88 dX10_hearAllChoices_80 h (fun a10 h => ?_)
      refine g_cV (ci := 6) (As := []) mv_X10_374 dX10_hearAllChoices_83 rfl (ok_X6_straightOn Θ a10 _ _) rfl rfl (Nat.le_of_ble_eq_true rfl) (by decide) (by decide) (by decide) h (fun ω n h => ?_)
      refine G.less (B' := (0, 0)) (by decide) (by decide) ?_
      refine g_aload_n dX10_hearAllChoices_86 rfl 0 rfl ?_
      refine g_rA fl_X10_31 dX10_hearAllChoices_87 h (fun a12 h => ?_)
      refine g_iload_n dX10_hearAllChoices_90 rfl 3 rfl ?_
      refine g_dup2 dX10_hearAllChoices_91 rfl rfl ?_
      refine g_lIi dX10_hearAllChoices_92 h (fun x13 h => ?_)
      refine g_aload_n dX10_hearAllChoices_93 rfl 0 rfl ?_
      refine g_rA fl_X10_88 dX10_hearAllChoices_94 h (fun a14 h => ?_)
      refine g_rI fl_X10_243 dX10_hearAllChoices_97 h (fun x15 h => ?_)
      refine g_iconst (v := (-1)) dX10_hearAllChoices_100 (by decide) ?_
      refine g_icmp_eq (tgt := 111) dX10_hearAllChoices_101 (by decide) (fun c16 => ?_) (fun c16 => ?_)
      · rw [if_pos c16] at h
        refine g_iconst (v := 0) dX10_hearAllChoices_111 (by decide) ?_
        exact ok_J_X10_hearAllChoices_112 Θ k_2 k_18 hk_2 hk_18 l0 l1 l2 l3 l4 0 x13 l3 a12 _ _ r h
      · rw [if_neg c16] at h
        refine g_iconst (v := 1) dX10_hearAllChoices_104 (by decide) ?_
        refine g_iload dX10_hearAllChoices_105 4 rfl ?_
        refine g_ishl dX10_hearAllChoices_107 ?_
        refine g_goto (tgt := 112) dX10_hearAllChoices_108 (by decide) ?_
        exact ok_J_X10_hearAllChoices_112 Θ k_2 k_18 hk_2 hk_18 l0 l1 l2 l3 l4 (1 <<< ((l4 : Int32) &&& 31)) x13 l3 a12 _ _ r h
    · rw [if_pos c2] at h
      refine g_goto (tgt := 114) dX10_hearAllChoices_38 (by decide) ?_
      exact ok_J_X10_hearAllChoices_114 Θ k_2 k_18 hk_2 hk_18 l0 l1 l2 l3 l4 _ _ r h
theorem ok_L_X10_hearAllChoices_18 (Θ : GP) (k_2 : Nat → Int32 → Int32 → Int32 → OW → Nat → RO) (hk_2 : ∀ l0 l1 l2 l3 ω n r, k_2 l0 l1 l2 l3 ω n = some r → GR Θ yX10_hearAllChoices cX10_hearAllChoices 5 (none : Option Jvm.ClassFile.FieldType) 6 (0, 0) 2 [(0, .ref l0), (1, .int l1), (2, .int l2), (3, .int l3)] [] ω n r) : ∀ (f : Nat) (l0 : Nat) (l1 : Int32) (l2 : Int32) (l3 : Int32) (l4 : Int32) (ω : OW) (n : Nat) (r : Out), L_X10_hearAllChoices_18 Θ k_2 f l0 l1 l2 l3 l4 ω n = some r → GR Θ yX10_hearAllChoices cX10_hearAllChoices 5 (none : Option Jvm.ClassFile.FieldType) 6 (0, 0) 18 [(0, .ref l0), (1, .int l1), (2, .int l2), (3, .int l3), (4, .int l4)] [] ω n r := by
  intro f
  induction f with
  | zero =>
    intro l0 l1 l2 l3 l4 ω n r h
    unfold L_X10_hearAllChoices_18 at h
    cases h
  | succ f ih =>
    intro l0 l1 l2 l3 l4 ω n r h
    unfold L_X10_hearAllChoices_18 at h
    exact ok_B_X10_hearAllChoices_18 Θ k_2 (L_X10_hearAllChoices_18 Θ k_2 f) hk_2 ih l0 l1 l2 l3 l4 ω n r h
theorem ok_B_X10_hearAllChoices_2 (Θ : GP) (k_2 : Nat → Int32 → Int32 → Int32 → OW → Nat → RO) (hk_2 : ∀ l0 l1 l2 l3 ω n r, k_2 l0 l1 l2 l3 ω n = some r → GR Θ yX10_hearAllChoices cX10_hearAllChoices 5 (none : Option Jvm.ClassFile.FieldType) 6 (0, 0) 2 [(0, .ref l0), (1, .int l1), (2, .int l2), (3, .int l3)] [] ω n r) (l0 : Nat) (l1 : Int32) (l2 : Int32) (l3 : Int32) (ω : OW) (n : Nat) (r : Out) (h : B_X10_hearAllChoices_2 Θ k_2 l0 l1 l2 l3 ω n = some r) : GR Θ yX10_hearAllChoices cX10_hearAllChoices 5 (none : Option Jvm.ClassFile.FieldType) 6 (0, 0) 2 [(0, .ref l0), (1, .int l1), (2, .int l2), (3, .int l3)] [] ω n r := by
  unfold B_X10_hearAllChoices_2 at h
  refine g_iload_n dX10_hearAllChoices_2 rfl 3 rfl ?_
  refine g_bipush (v := 8) dX10_hearAllChoices_3 (by decide) ?_
  refine g_icmp_gt (tgt := 126) dX10_hearAllChoices_5 (by decide) (fun c17 => ?_) (fun c17 => ?_)
  · rw [if_pos c17] at h
    cases h
    exact g_vret rfl dX10_hearAllChoices_126 rfl
  · rw [if_neg c17] at h
    refine g_aload_n dX10_hearAllChoices_8 rfl 0 rfl ?_
    refine g_rA fl_X10_31 dX10_hearAllChoices_9 h (fun a18 h => ?_)
    refine g_iload_n dX10_hearAllChoices_12 rfl 3 rfl ?_
    refine g_iconst (v := 0) dX10_hearAllChoices_13 (by decide) ?_
    refine g_sIi dX10_hearAllChoices_14 h (fun ω h => ?_)
    refine g_iconst (v := 0) dX10_hearAllChoices_15 (by decide) ?_
    refine g_istore (lv' := [(4, .int 0), (0, .ref l0), (1, .int l1), (2, .int l2), (3, .int l3)]) dX10_hearAllChoices_16 (by decide) rfl ?_
    refine G.lsub [1, 2, 3, 4, 0] rfl ?_
    exact ok_L_X10_hearAllChoices_18 Θ k_2 hk_2 5000 l0 l1 l2 l3 0 _ _ r h
theorem ok_L_X10_hearAllChoices_2 (Θ : GP) : ∀ (f : Nat) (l0 : Nat) (l1 : Int32) (l2 : Int32) (l3 : Int32) (ω : OW) (n : Nat) (r : Out), L_X10_hearAllChoices_2 Θ f l0 l1 l2 l3 ω n = some r → GR Θ yX10_hearAllChoices cX10_hearAllChoices 5 (none : Option Jvm.ClassFile.FieldType) 6 (0, 0) 2 [(0, .ref l0), (1, .int l1), (2, .int l2), (3, .int l3)] [] ω n r := by
  intro f
  induction f with
  | zero =>
    intro l0 l1 l2 l3 ω n r h
    unfold L_X10_hearAllChoices_2 at h
    cases h
  | succ f ih =>
    intro l0 l1 l2 l3 ω n r h
    unfold L_X10_hearAllChoices_2 at h
    exact ok_B_X10_hearAllChoices_2 Θ (L_X10_hearAllChoices_2 Θ f) ih l0 l1 l2 l3 ω n r h
theorem ok_X10_hearAllChoices (Θ : GP) (l0 : Nat) (l1 : Int32) (l2 : Int32) (ω : OW) (n : Nat) : Ok Θ 6 0 0 yX10_hearAllChoices cX10_hearAllChoices 5 (none : Option Jvm.ClassFile.FieldType) [.ref l0, .int l1, .int l2] ω n (F_X10_hearAllChoices Θ l0 l1 l2 ω n) := by
  refine Ok.of (by decide +kernel) (Nat.le_of_ble_eq_true rfl) (fun r h => ?_)
  unfold F_X10_hearAllChoices at h
  show GR Θ yX10_hearAllChoices cX10_hearAllChoices 5 (none : Option Jvm.ClassFile.FieldType) 6 (0, 0) 0 [(0, .ref l0), (1, .int l1), (2, .int l2)] [] ω n r
  refine g_iconst (v := 0) dX10_hearAllChoices_0 (by decide) ?_
  refine g_istore_n (lv' := [(3, .int 0), (0, .ref l0), (1, .int l1), (2, .int l2)]) dX10_hearAllChoices_1 rfl (by decide) rfl ?_
  refine G.lsub [1, 2, 3, 0] rfl ?_
  exact ok_L_X10_hearAllChoices_2 Θ 5000 l0 l1 l2 0 _ _ r h
def J_X10_usher_116 (Θ : GP) (k_54 : Nat → Int32 → Int32 → Int32 → Int32 → OW → Nat → RO) (l0 : Nat) (l2 : Int32) (l3 : Int32) (l4 : Int32) (l5 : Int32) (ω : OW) (n : Nat) : RO := k_54 l0 l2 l3 l4 (l5 + 1) ω n
def J_X10_usher_93 (Θ : GP) (k_54 : Nat → Int32 → Int32 → Int32 → Int32 → OW → Nat → RO) (l0 : Nat) (l2 : Int32) (l3 : Int32) (l4 : Int32) (l5 : Int32) (ω : OW) (n : Nat) : RO := rA ω l0 10 13 (fun a1 => lI ω (gI Θ) a1 l5 (fun x2 => kI (F_J6_bitCount_0f7a4 Θ ((l2 &&& (x2 ^^^ (-1))) &&& (l3 ^^^ (-1))) ω n) (fun x3 ω n => J_X10_usher_116 Θ k_54 l0 l2 l3 (l4 + x3) l5 ω n)))
def B_X10_usher_54 (Θ : GP) (k_54 : Nat → Int32 → Int32 → Int32 → Int32 → OW → Nat → RO) (l0 : Nat) (l2 : Int32) (l3 : Int32) (l4 : Int32) (l5 : Int32) (ω : OW) (n : Nat) : RO := if 8 < l5 then (some (.inl (some (.int l4), ω, n))) else (if ((l2 >>> ((l5 : Int32) &&& 31)) &&& 1) = 0 then (J_X10_usher_116 Θ k_54 l0 l2 l3 l4 l5 ω n) else (rA ω l0 10 13 (fun a6 => lI ω (gI Θ) a6 l5 (fun x7 => if x7 = l2 then (kI (F_J6_bitCount_0f7a4 Θ l2 ω n) (fun x9 ω n => J_X10_usher_93 Θ k_54 l0 l2 l3 (l4 + x9) l5 ω n)) else (J_X10_usher_93 Θ k_54 l0 l2 l3 l4 l5 ω n)))))
def L_X10_usher_54 (Θ : GP) : Nat → Nat → Int32 → Int32 → Int32 → Int32 → OW → Nat → RO
  | 0, _, _, _, _, _, _, _ => none
  | f + 1, l0, l2, l3, l4, l5, ω, n => B_X10_usher_54 Θ (L_X10_usher_54 Θ f) l0 l2 l3 l4 l5 ω n
def B_X10_usher_25 (Θ : GP) (k_25 : Nat → Int32 → Int32 → Int32 → OW → Nat → RO) (l0 : Nat) (l2 : Int32) (l3 : Int32) (l4 : Int32) (ω : OW) (n : Nat) : RO := if 8 < l4 then (L_X10_usher_54 Θ 5000 l0 l2 l3 0 0 ω n) else (rA ω l0 10 13 (fun a11 => lI ω (gI Θ) a11 l4 (fun x12 => k_25 l0 l2 (l3 ||| x12) (l4 + 1) ω n)))
def L_X10_usher_25 (Θ : GP) : Nat → Nat → Int32 → Int32 → Int32 → OW → Nat → RO
  | 0, _, _, _, _, _, _ => none
  | f + 1, l0, l2, l3, l4, ω, n => B_X10_usher_25 Θ (L_X10_usher_25 Θ f) l0 l2 l3 l4 ω n
def F_X10_usher (Θ : GP) (l0 : Nat) (l1 : Int32) (ω : OW) (n : Nat) : RO := cO ω l0 10 (kV (F_X10_needOne Θ l0 l1 ω n) (fun ω n => cO ω l0 10 (kI (F_X10_nailedProps Θ l0 ω n) (fun x14 ω n => cO ω l0 10 (kV (F_X10_hearAllChoices Θ l0 l1 ((x14 <<< ((1 : Int32) &&& 31)) ||| 1) ω n) (fun ω n => L_X10_usher_25 Θ 5000 l0 ((x14 <<< ((1 : Int32) &&& 31)) ||| 1) 0 0 ω n))))))
theorem ok_J_X10_usher_116 (Θ : GP) (k_54 : Nat → Int32 → Int32 → Int32 → Int32 → OW → Nat → RO) (hk_54 : ∀ l0 l2 l3 l4 l5 ω n r, k_54 l0 l2 l3 l4 l5 ω n = some r → GR Θ yX10_usher cX10_usher 6 (some .int) 7 (0, 0) 54 [(0, .ref l0), (2, .int l2), (3, .int l3), (4, .int l4), (5, .int l5)] [] ω n r) (l0 : Nat) (l2 : Int32) (l3 : Int32) (l4 : Int32) (l5 : Int32) (ω : OW) (n : Nat) (r : Out) (h : J_X10_usher_116 Θ k_54 l0 l2 l3 l4 l5 ω n = some r) : GR Θ yX10_usher cX10_usher 6 (some .int) 7 (0, 0) 116 [(0, .ref l0), (2, .int l2), (3, .int l3), (4, .int l4), (5, .int l5)] [] ω n r := by
  unfold J_X10_usher_116 at h
  refine g_iinc (j := 4) (v := l5 + 1) (lv' := [(5, .int (l5 + 1)), (0, .ref l0), (2, .int l2), (3, .int l3), (4, .int l4)]) dX10_usher_116 rfl rfl (by decide) rfl ?_
  refine g_goto (tgt := 54) dX10_usher_119 (by decide) ?_
  refine G.lsub [1, 2, 3, 4, 0] rfl ?_
  exact hk_54 l0 l2 l3 l4 (l5 + 1) _ _ r h
theorem ok_J_X10_usher_93 (Θ : GP) (k_54 : Nat → Int32 → Int32 → Int32 → Int32 → OW → Nat → RO) (hk_54 : ∀ l0 l2 l3 l4 l5 ω n r, k_54 l0 l2 l3 l4 l5 ω n = some r → GR Θ yX10_usher cX10_usher 6 (some .int) 7 (0, 0) 54 [(0, .ref l0), (2, .int l2), (3, .int l3), (4, .int l4), (5, .int l5)] [] ω n r) (l0 : Nat) (l2 : Int32) (l3 : Int32) (l4 : Int32) (l5 : Int32) (ω : OW) (n : Nat) (r : Out) (h : J_X10_usher_93 Θ k_54 l0 l2 l3 l4 l5 ω n = some r) : GR Θ yX10_usher cX10_usher 6 (some .int) 7 (0, 0) 93 [(0, .ref l0), (2, .int l2), (3, .int l3), (4, .int l4), (5, .int l5)] [] ω n r := by
  unfold J_X10_usher_93 at h
  refine g_iload dX10_usher_93 3 rfl ?_
  refine g_iload_n dX10_usher_95 rfl 1 rfl ?_
  refine g_aload_n dX10_usher_96 rfl 0 rfl ?_
  refine g_rA fl_X10_31 dX10_usher_97 h (fun a1 h => ?_)
  refine g_iload dX10_usher_100 4 rfl ?_
  refine g_lIi dX10_usher_102 h (fun x2 h => ?_)
  refine g_iconst (v := (-1)) dX10_usher_103 (by decide) ?_
  refine g_ixor dX10_usher_104 ?_
  refine g_iand dX10_usher_105 ?_
  refine g_iload_n dX10_usher_106 rfl 2 rfl ?_
  refine g_iconst (v := (-1)) dX10_usher_107 (by decide) ?_
  refine g_ixor dX10_usher_108 ?_
  refine g_iand dX10_usher_109 ?_
  refine g_sI (As := [.int ((l2 &&& (x2 ^^^ (-1))) &&& (l3 ^^^ (-1)))]) ms_X10_276 dX10_usher_110 (ok_J6_bitCount_0f7a4 Θ ((l2 &&& (x2 ^^^ (-1))) &&& (l3 ^^^ (-1))) _ _) rfl rfl (Nat.le_of_ble_eq_true rfl) (by decide) (by decide) (by decide) h (fun x3 ω n h => ?_)
  refine G.less (B' := (0, 0)) (by decide) (by decide) ?_
  refine g_iadd dX10_usher_113 ?_
  refine g_istore (lv' := [(4, .int (l4 + x3)), (0, .ref l0), (2, .int l2), (3, .int l3), (5, .int l5)]) dX10_usher_114 (by decide) rfl ?_
  refine G.lsub [1, 2, 3, 0, 4] rfl ?_
  exact ok_J_X10_usher_116 Θ k_54 hk_54 l0 l2 l3 (l4 + x3) l5 _ _ r h
theorem ok_B_X10_usher_54 (Θ : GP) (k_54 : Nat → Int32 → Int32 → Int32 → Int32 → OW → Nat → RO) (hk_54 : ∀ l0 l2 l3 l4 l5 ω n r, k_54 l0 l2 l3 l4 l5 ω n = some r → GR Θ yX10_usher cX10_usher 6 (some .int) 7 (0, 0) 54 [(0, .ref l0), (2, .int l2), (3, .int l3), (4, .int l4), (5, .int l5)] [] ω n r) (l0 : Nat) (l2 : Int32) (l3 : Int32) (l4 : Int32) (l5 : Int32) (ω : OW) (n : Nat) (r : Out) (h : B_X10_usher_54 Θ k_54 l0 l2 l3 l4 l5 ω n = some r) : GR Θ yX10_usher cX10_usher 6 (some .int) 7 (0, 0) 54 [(0, .ref l0), (2, .int l2), (3, .int l3), (4, .int l4), (5, .int l5)] [] ω n r := by
  unfold B_X10_usher_54 at h
  refine g_iload dX10_usher_54 4 rfl ?_
  refine g_bipush (v := 8) dX10_usher_56 (by decide) ?_
  refine g_icmp_gt (tgt := 122) dX10_usher_58 (by decide) (fun c4 => ?_) (fun c4 => ?_)
  · rw [if_pos c4] at h
    refine g_iload dX10_usher_122 3 rfl ?_
    cases h
    exact g_iret rfl dX10_usher_124 rfl
  · rw [if_neg c4] at h
    refine g_iload_n dX10_usher_61 rfl 1 rfl ?_
    refine g_iload dX10_usher_62 4 rfl ?_
    refine g_ishr dX10_usher_64 ?_
    refine g_iconst (v := 1) dX10_usher_65 (by decide) ?_
    refine g_iand dX10_usher_66 ?_
    refine g_if_ne (tgt := 73) dX10_usher_67 (by decide) (fun c5 => ?_) (fun c5 => ?_)
    · rw [if_neg c5] at h
      refine g_aload_n dX10_usher_73 rfl 0 rfl ?_
      refine g_rA fl_X10_31 dX10_usher_74 h (fun a6 h => ?_)
      refine g_iload dX10_usher_77 4 rfl ?_
      refine g_lIi dX10_usher_79 h (fun x7 h => ?_)
      refine g_iload_n dX10_usher_80 rfl 1 rfl ?_
      refine g_icmp_ne (tgt := 93) dX10_usher_81 (by decide) (fun c8 => ?_) (fun c8 => ?_)
      · rw [if_neg c8] at h
        exact ok_J_X10_usher_93 Θ k_54 hk_54 l0 l2 l3 l4 l5 _ _ r h
      · rw [if_pos c8] at h
        refine g_iload dX10_usher_84 3 rfl ?_
        refine g_iload_n dX10_usher_86 rfl 1 rfl ?_
        refine g_sI (As := [.int l2]) ms_X10_276 dX10_usher_87 (ok_J6_bitCount_0f7a4 Θ l2 _ _) rfl rfl (Nat.le_of_ble_eq_true rfl) (by decide) (by decide) (by decide) h (fun x9 ω n h => ?_)
        refine G.less (B' := (0, 0)) (by decide) (by decide) ?_
        refine g_iadd dX10_usher_90 ?_
        refine g_istore (lv' := [(4, .int (l4 + x9)), (0, .ref l0), (2, .int l2), (3, .int l3), (5, .int l5)]) dX10_usher_91 (by decide) rfl ?_
        refine G.lsub [1, 2, 3, 0, 4] rfl ?_
        exact ok_J_X10_usher_93 Θ k_54 hk_54 l0 l2 l3 (l4 + x9) l5 _ _ r h
    · rw [if_pos c5] at h
      refine g_goto (tgt := 116) dX10_usher_70 (by decide) ?_
      exact ok_J_X10_usher_116 Θ k_54 hk_54 l0 l2 l3 l4 l5 _ _ r h
theorem ok_L_X10_usher_54 (Θ : GP) : ∀ (f : Nat) (l0 : Nat) (l2 : Int32) (l3 : Int32) (l4 : Int32) (l5 : Int32) (ω : OW) (n : Nat) (r : Out), L_X10_usher_54 Θ f l0 l2 l3 l4 l5 ω n = some r → GR Θ yX10_usher cX10_usher 6 (some .int) 7 (0, 0) 54 [(0, .ref l0), (2, .int l2), (3, .int l3), (4, .int l4), (5, .int l5)] [] ω n r := by
  intro f
  induction f with
  | zero =>
    intro l0 l2 l3 l4 l5 ω n r h
    unfold L_X10_usher_54 at h
    cases h
  | succ f ih =>
    intro l0 l2 l3 l4 l5 ω n r h
    unfold L_X10_usher_54 at h
    exact ok_B_X10_usher_54 Θ (L_X10_usher_54 Θ f) ih l0 l2 l3 l4 l5 ω n r h
theorem ok_B_X10_usher_25 (Θ : GP) (k_25 : Nat → Int32 → Int32 → Int32 → OW → Nat → RO) (hk_25 : ∀ l0 l2 l3 l4 ω n r, k_25 l0 l2 l3 l4 ω n = some r → GR Θ yX10_usher cX10_usher 6 (some .int) 7 (0, 0) 25 [(0, .ref l0), (2, .int l2), (3, .int l3), (4, .int l4)] [] ω n r) (l0 : Nat) (l2 : Int32) (l3 : Int32) (l4 : Int32) (ω : OW) (n : Nat) (r : Out) (h : B_X10_usher_25 Θ k_25 l0 l2 l3 l4 ω n = some r) : GR Θ yX10_usher cX10_usher 6 (some .int) 7 (0, 0) 25 [(0, .ref l0), (2, .int l2), (3, .int l3), (4, .int l4)] [] ω n r := by
  unfold B_X10_usher_25 at h
  refine g_iload dX10_usher_25 3 rfl ?_
  refine g_bipush (v := 8) dX10_usher_27 (by decide) ?_
  refine g_icmp_gt (tgt := 48) dX10_usher_29 (by decide) (fun c10 => ?_) (fun c10 => ?_)
  · rw [if_pos c10] at h
    refine g_iconst (v := 0) dX10_usher_48 (by decide) ?_
    refine g_istore (lv' := [(4, .int 0), (0, .ref l0), (2, .int l2), (3, .int l3)]) dX10_usher_49 (by decide) rfl ?_
    refine g_iconst (v := 0) dX10_usher_51 (by decide) ?_
    refine g_istore (lv' := [(5, .int 0), (4, .int 0), (0, .ref l0), (2, .int l2), (3, .int l3)]) dX10_usher_52 (by decide) rfl ?_
    refine G.lsub [2, 3, 4, 1, 0] rfl ?_
    exact ok_L_X10_usher_54 Θ 5000 l0 l2 l3 0 0 _ _ r h
  · rw [if_neg c10] at h
    refine g_iload_n dX10_usher_32 rfl 2 rfl ?_
    refine g_aload_n dX10_usher_33 rfl 0 rfl ?_
    refine g_rA fl_X10_31 dX10_usher_34 h (fun a11 h => ?_)
    refine g_iload dX10_usher_37 3 rfl ?_
    refine g_lIi dX10_usher_39 h (fun x12 h => ?_)
    refine g_ior dX10_usher_40 ?_
    refine g_istore_n (lv' := [(3, .int (l3 ||| x12)), (0, .ref l0), (2, .int l2), (4, .int l4)]) dX10_usher_41 rfl (by decide) rfl ?_
    refine g_iinc (j := 3) (v := l4 + 1) (lv' := [(4, .int (l4 + 1)), (3, .int (l3 ||| x12)), (0, .ref l0), (2, .int l2)]) dX10_usher_42 rfl rfl (by decide) rfl ?_
    refine g_goto (tgt := 25) dX10_usher_45 (by decide) ?_
    refine G.lsub [2, 3, 1, 0] rfl ?_
    exact hk_25 l0 l2 (l3 ||| x12) (l4 + 1) _ _ r h
theorem ok_L_X10_usher_25 (Θ : GP) : ∀ (f : Nat) (l0 : Nat) (l2 : Int32) (l3 : Int32) (l4 : Int32) (ω : OW) (n : Nat) (r : Out), L_X10_usher_25 Θ f l0 l2 l3 l4 ω n = some r → GR Θ yX10_usher cX10_usher 6 (some .int) 7 (0, 0) 25 [(0, .ref l0), (2, .int l2), (3, .int l3), (4, .int l4)] [] ω n r := by
  intro f
  induction f with
  | zero =>
    intro l0 l2 l3 l4 ω n r h
    unfold L_X10_usher_25 at h
    cases h
  | succ f ih =>
    intro l0 l2 l3 l4 ω n r h
    unfold L_X10_usher_25 at h
    exact ok_B_X10_usher_25 Θ (L_X10_usher_25 Θ f) ih l0 l2 l3 l4 ω n r h
theorem ok_X10_usher (Θ : GP) (l0 : Nat) (l1 : Int32) (ω : OW) (n : Nat) : Ok Θ 7 1 6 yX10_usher cX10_usher 6 (some .int) [.ref l0, .int l1] ω n (F_X10_usher Θ l0 l1 ω n) := by
  refine Ok.of (by decide +kernel) (Nat.le_of_ble_eq_true rfl) (fun r h => ?_)
  unfold F_X10_usher at h
  show GR Θ yX10_usher cX10_usher 6 (some .int) 7 (1, 6) 0 [(0, .ref l0), (1, .int l1)] [] ω n r
  refine g_aload_n dX10_usher_0 rfl 0 rfl ?_
  refine g_iload_n dX10_usher_1 rfl 1 rfl ?_
  refine g_cV (ci := 10) (As := [.int l1]) mv_X10_181 dX10_usher_2 rfl (ok_X10_needOne Θ l0 l1 _ _) rfl rfl (Nat.le_of_ble_eq_true rfl) (by decide) (by decide) (by decide) h (fun ω n h => ?_)
  refine G.less (B' := (0, 0)) (by decide) (by decide) ?_
  refine g_aload_n dX10_usher_5 rfl 0 rfl ?_
  refine g_cI (ci := 10) (As := []) mv_X10_365 dX10_usher_6 rfl (ok_X10_nailedProps Θ l0 _ _) rfl rfl (Nat.le_of_ble_eq_true rfl) (by decide) (by decide) (by decide) h (fun x14 ω n h => ?_)
  refine G.less (B' := (0, 0)) (by decide) (by decide) ?_
  refine g_iconst (v := 1) dX10_usher_9 (by decide) ?_
  refine g_ishl dX10_usher_10 ?_
  refine g_iconst (v := 1) dX10_usher_11 (by decide) ?_
  refine g_ior dX10_usher_12 ?_
  refine g_istore_n (lv' := [(2, .int ((x14 <<< ((1 : Int32) &&& 31)) ||| 1)), (0, .ref l0), (1, .int l1)]) dX10_usher_13 rfl (by decide) rfl ?_
  refine g_aload_n dX10_usher_14 rfl 1 rfl ?_
  refine g_iload_n dX10_usher_15 rfl 2 rfl ?_
  refine g_iload_n dX10_usher_16 rfl 0 rfl ?_
  refine g_cV (ci := 10) (As := [.int l1, .int ((x14 <<< ((1 : Int32) &&& 31)) ||| 1)]) mv_X10_371 dX10_usher_17 rfl (ok_X10_hearAllChoices Θ l0 l1 ((x14 <<< ((1 : Int32) &&& 31)) ||| 1) _ _) rfl rfl (Nat.le_of_ble_eq_true rfl) (by decide) (by decide) (by decide) h (fun ω n h => ?_)
  refine G.less (B' := (0, 0)) (by decide) (by decide) ?_
  refine g_iconst (v := 0) dX10_usher_20 (by decide) ?_
  refine g_istore_n (lv' := [(3, .int 0), (2, .int ((x14 <<< ((1 : Int32) &&& 31)) ||| 1)), (0, .ref l0), (1, .int l1)]) dX10_usher_21 rfl (by decide) rfl ?_
  refine g_iconst (v := 0) dX10_usher_22 (by decide) ?_
  refine g_istore (lv' := [(4, .int 0), (3, .int 0), (2, .int ((x14 <<< ((1 : Int32) &&& 31)) ||| 1)), (0, .ref l0), (1, .int l1)]) dX10_usher_23 (by decide) rfl ?_
  refine G.lsub [3, 2, 1, 0] rfl ?_
  exact ok_L_X10_usher_25 Θ 5000 l0 ((x14 <<< ((1 : Int32) &&& 31)) ||| 1) 0 0 _ _ r h
def B_X10_lasts_27 (Θ : GP) (k_27 : Nat → Int32 → Int32 → OW → Nat → RO) (l0 : Nat) (l1 : Int32) (l3 : Int32) (ω : OW) (n : Nat) : RO := if 60 < l3 then (some (.inl (some (.int (-1)), ω, n))) else (rA ω l0 10 8 (fun a2 => rA ω a2 6 2 (fun a3 => lI ω (gI Θ) a3 l1 (fun x4 => if x4 < 50 then (rA ω l0 10 8 (fun a6 => cO ω a6 6 (kV (F_X6_straightOn Θ a6 ω n) (fun ω n => rA ω l0 10 8 (fun a8 => cO ω a8 6 (kV (F_X6_wearOn Θ a8 ω n) (fun ω n => k_27 l0 l1 (l3 + 1) ω n))))))) else (some (.inl (some (.int l3), ω, n)))))))
def L_X10_lasts_27 (Θ : GP) : Nat → Nat → Int32 → Int32 → OW → Nat → RO
  | 0, _, _, _, _, _ => none
  | f + 1, l0, l1, l3, ω, n => B_X10_lasts_27 Θ (L_X10_lasts_27 Θ f) l0 l1 l3 ω n
def F_X10_lasts (Θ : GP) (l0 : Nat) (l1 : Int32) (l2 : Int32) (ω : OW) (n : Nat) : RO := cO ω l0 10 (kV (F_X10_needProp Θ l0 l1 ω n) (fun ω n => cO ω l0 10 (kV (F_X10_needOne Θ l0 l2 ω n) (fun ω n => rA ω l0 10 8 (fun a12 => cO ω a12 6 (kV (F_X6_lay Θ a12 ω n) (fun ω n => rA ω l0 10 8 (fun a14 => cO ω a14 6 (kV (F_X6_board Θ a14 l2 ω n) (fun ω n => L_X10_lasts_27 Θ 5000 l0 l1 0 ω n))))))))))
theorem ok_B_X10_lasts_27 (Θ : GP) (k_27 : Nat → Int32 → Int32 → OW → Nat → RO) (hk_27 : ∀ l0 l1 l3 ω n r, k_27 l0 l1 l3 ω n = some r → GR Θ yX10_lasts cX10_lasts 4 (some .int) 7 (0, 0) 27 [(0, .ref l0), (1, .int l1), (3, .int l3)] [] ω n r) (l0 : Nat) (l1 : Int32) (l3 : Int32) (ω : OW) (n : Nat) (r : Out) (h : B_X10_lasts_27 Θ k_27 l0 l1 l3 ω n = some r) : GR Θ yX10_lasts cX10_lasts 4 (some .int) 7 (0, 0) 27 [(0, .ref l0), (1, .int l1), (3, .int l3)] [] ω n r := by
  unfold B_X10_lasts_27 at h
  refine g_iload_n dX10_lasts_27 rfl 2 rfl ?_
  refine g_bipush (v := 60) dX10_lasts_28 (by decide) ?_
  refine g_icmp_gt (tgt := 69) dX10_lasts_30 (by decide) (fun c1 => ?_) (fun c1 => ?_)
  · rw [if_pos c1] at h
    refine g_iconst (v := (-1)) dX10_lasts_69 (by decide) ?_
    cases h
    exact g_iret rfl dX10_lasts_70 rfl
  · rw [if_neg c1] at h
    refine g_aload_n dX10_lasts_33 rfl 0 rfl ?_
    refine g_rA fl_X10_88 dX10_lasts_34 h (fun a2 h => ?_)
    refine g_rA fl_X10_234 dX10_lasts_37 h (fun a3 h => ?_)
    refine g_iload_n dX10_lasts_40 rfl 1 rfl ?_
    refine g_lIi dX10_lasts_41 h (fun x4 h => ?_)
    refine g_bipush (v := 50) dX10_lasts_42 (by decide) ?_
    refine g_icmp_lt (tgt := 49) dX10_lasts_44 (by decide) (fun c5 => ?_) (fun c5 => ?_)
    · rw [if_pos c5] at h
      refine g_aload_n dX10_lasts_49 rfl 0 rfl ?_
      refine g_rA fl_X10_88 dX10_lasts_50 h (fun a6 h => ?_)
      refine g_cV (ci := 6) (As := []) mv_X10_374 dX10_lasts_53 rfl (ok_X6_straightOn Θ a6 _ _) rfl rfl (Nat.le_of_ble_eq_true rfl) (by decide) (by decide) (by decide) h (fun ω n h => ?_)
      refine G.less (B' := (0, 0)) (by decide) (by decide) ?_
      refine g_aload_n dX10_lasts_56 rfl 0 rfl ?_
      refine g_rA fl_X10_88 dX10_lasts_57 h (fun a8 h => ?_)
      refine g_cV (ci := 6) (As := []) mv_X10_231 dX10_lasts_60 rfl (ok_X6_wearOn Θ a8 _ _) rfl rfl (Nat.le_of_ble_eq_true rfl) (by decide) (by decide) (by decide) h (fun ω n h => ?_)
      refine G.less (B' := (0, 0)) (by decide) (by decide) ?_
      refine g_iinc (j := 2) (v := l3 + 1) (lv' := [(3, .int (l3 + 1)), (0, .ref l0), (1, .int l1)]) dX10_lasts_63 rfl rfl (by decide) rfl ?_
      refine g_goto (tgt := 27) dX10_lasts_66 (by decide) ?_
      refine G.lsub [1, 2, 0] rfl ?_
      exact hk_27 l0 l1 (l3 + 1) _ _ r h
    · rw [if_neg c5] at h
      refine g_iload_n dX10_lasts_47 rfl 2 rfl ?_
      cases h
      exact g_iret rfl dX10_lasts_48 rfl
theorem ok_L_X10_lasts_27 (Θ : GP) : ∀ (f : Nat) (l0 : Nat) (l1 : Int32) (l3 : Int32) (ω : OW) (n : Nat) (r : Out), L_X10_lasts_27 Θ f l0 l1 l3 ω n = some r → GR Θ yX10_lasts cX10_lasts 4 (some .int) 7 (0, 0) 27 [(0, .ref l0), (1, .int l1), (3, .int l3)] [] ω n r := by
  intro f
  induction f with
  | zero =>
    intro l0 l1 l3 ω n r h
    unfold L_X10_lasts_27 at h
    cases h
  | succ f ih =>
    intro l0 l1 l3 ω n r h
    unfold L_X10_lasts_27 at h
    exact ok_B_X10_lasts_27 Θ (L_X10_lasts_27 Θ f) ih l0 l1 l3 ω n r h
theorem ok_X10_lasts (Θ : GP) (l0 : Nat) (l1 : Int32) (l2 : Int32) (ω : OW) (n : Nat) : Ok Θ 7 2 12 yX10_lasts cX10_lasts 4 (some .int) [.ref l0, .int l1, .int l2] ω n (F_X10_lasts Θ l0 l1 l2 ω n) := by
  refine Ok.of (by decide +kernel) (Nat.le_of_ble_eq_true rfl) (fun r h => ?_)
  unfold F_X10_lasts at h
  show GR Θ yX10_lasts cX10_lasts 4 (some .int) 7 (2, 12) 0 [(0, .ref l0), (1, .int l1), (2, .int l2)] [] ω n r
  refine g_aload_n dX10_lasts_0 rfl 0 rfl ?_
  refine g_iload_n dX10_lasts_1 rfl 1 rfl ?_
  refine g_cV (ci := 10) (As := [.int l1]) mv_X10_155 dX10_lasts_2 rfl (ok_X10_needProp Θ l0 l1 _ _) rfl rfl (Nat.le_of_ble_eq_true rfl) (by decide) (by decide) (by decide) h (fun ω n h => ?_)
  refine G.less (B' := (1, 6)) (by decide) (by decide) ?_
  refine g_aload_n dX10_lasts_5 rfl 0 rfl ?_
  refine g_iload_n dX10_lasts_6 rfl 2 rfl ?_
  refine g_cV (ci := 10) (As := [.int l2]) mv_X10_181 dX10_lasts_7 rfl (ok_X10_needOne Θ l0 l2 _ _) rfl rfl (Nat.le_of_ble_eq_true rfl) (by decide) (by decide) (by decide) h (fun ω n h => ?_)
  refine G.less (B' := (0, 0)) (by decide) (by decide) ?_
  refine g_aload_n dX10_lasts_10 rfl 0 rfl ?_
  refine g_rA fl_X10_88 dX10_lasts_11 h (fun a12 h => ?_)
  refine g_cV (ci := 6) (As := []) mv_X10_200 dX10_lasts_14 rfl (ok_X6_lay Θ a12 _ _) rfl rfl (Nat.le_of_ble_eq_true rfl) (by decide) (by decide) (by decide) h (fun ω n h => ?_)
  refine G.less (B' := (0, 0)) (by decide) (by decide) ?_
  refine g_aload_n dX10_lasts_17 rfl 0 rfl ?_
  refine g_rA fl_X10_88 dX10_lasts_18 h (fun a14 h => ?_)
  refine g_iload_n dX10_lasts_21 rfl 2 rfl ?_
  refine g_cV (ci := 6) (As := [.int l2]) mv_X10_203 dX10_lasts_22 rfl (ok_X6_board Θ a14 l2 _ _) rfl rfl (Nat.le_of_ble_eq_true rfl) (by decide) (by decide) (by decide) h (fun ω n h => ?_)
  refine G.less (B' := (0, 0)) (by decide) (by decide) ?_
  refine g_iconst (v := 0) dX10_lasts_25 (by decide) ?_
  refine g_istore_n (lv' := [(3, .int 0), (0, .ref l0), (1, .int l1), (2, .int l2)]) dX10_lasts_26 rfl (by decide) rfl ?_
  refine G.lsub [1, 2, 0] rfl ?_
  exact ok_L_X10_lasts_27 Θ 5000 l0 l1 0 _ _ r h
def J_X10_all_80 (Θ : GP) (k_11 : Nat → Int32 → Int32 → Int32 → OW → Nat → RO) (l0 : Nat) (l1 : Int32) (l2 : Int32) (l3 : Int32) (ω : OW) (n : Nat) : RO := k_11 l0 l1 l2 (l3 + 1) ω n
def J_X10_all_67 (Θ : GP) (k_11 : Nat → Int32 → Int32 → Int32 → OW → Nat → RO) (l0 : Nat) (l1 : Int32) (l3 : Int32) (s0 : Int32) (s1 : Int32) (ω : OW) (n : Nat) : RO := if l1 = 0 then (J_X10_all_80 Θ k_11 l0 l1 (s1 ||| s0) l3 ω n) else (rA ω l0 10 8 (fun a2 => cO ω a2 6 (kV (F_X6_wearOn Θ a2 ω n) (fun ω n => J_X10_all_80 Θ k_11 l0 l1 (s1 ||| s0) l3 ω n))))
def B_X10_all_11 (Θ : GP) (k_11 : Nat → Int32 → Int32 → Int32 → OW → Nat → RO) (l0 : Nat) (l1 : Int32) (l2 : Int32) (l3 : Int32) (ω : OW) (n : Nat) : RO := rA ω l0 10 0 (fun a4 => rI ω a4 0 1 (fun x5 => if x5 ≤ l3 then (some (.inl (some (.int l2), ω, n))) else (rA ω l0 10 0 (fun a7 => cO ω a7 0 (kI (F_X0_waits Θ a7 l3 ω n) (fun x8 ω n => if x8 = 0 then (J_X10_all_80 Θ k_11 l0 l1 l2 l3 ω n) else (rA ω l0 10 8 (fun a10 => cO ω a10 6 (kV (F_X6_board Θ a10 l3 ω n) (fun ω n => rA ω l0 10 8 (fun a12 => cO ω a12 6 (kV (F_X6_straightOn Θ a12 ω n) (fun ω n => rA ω l0 10 8 (fun a14 => rI ω a14 6 8 (fun x15 => if x15 = (-1) then (J_X10_all_67 Θ k_11 l0 l1 l3 0 l2 ω n) else (J_X10_all_67 Θ k_11 l0 l1 l3 (1 <<< ((l3 : Int32) &&& 31)) l2 ω n))))))))))))))))
def L_X10_all_11 (Θ : GP) : Nat → Nat → Int32 → Int32 → Int32 → OW → Nat → RO
  | 0, _, _, _, _, _, _ => none
  | f + 1, l0, l1, l2, l3, ω, n => B_X10_all_11 Θ (L_X10_all_11 Θ f) l0 l1 l2 l3 ω n
def F_X10_all (Θ : GP) (l0 : Nat) (l1 : Int32) (ω : OW) (n : Nat) : RO := rA ω l0 10 8 (fun a17 => cO ω a17 6 (kV (F_X6_lay Θ a17 ω n) (fun ω n => L_X10_all_11 Θ 5000 l0 l1 0 0 ω n)))
theorem ok_J_X10_all_80 (Θ : GP) (k_11 : Nat → Int32 → Int32 → Int32 → OW → Nat → RO) (hk_11 : ∀ l0 l1 l2 l3 ω n r, k_11 l0 l1 l2 l3 ω n = some r → GR Θ yX10_all cX10_all 4 (some .int) 6 (0, 0) 11 [(0, .ref l0), (1, .int l1), (2, .int l2), (3, .int l3)] [] ω n r) (l0 : Nat) (l1 : Int32) (l2 : Int32) (l3 : Int32) (ω : OW) (n : Nat) (r : Out) (h : J_X10_all_80 Θ k_11 l0 l1 l2 l3 ω n = some r) : GR Θ yX10_all cX10_all 4 (some .int) 6 (0, 0) 80 [(0, .ref l0), (1, .int l1), (2, .int l2), (3, .int l3)] [] ω n r := by
  unfold J_X10_all_80 at h
  refine g_iinc (j := 3) (v := l3 + 1) (lv' := [(3, .int (l3 + 1)), (0, .ref l0), (1, .int l1), (2, .int l2)]) dX10_all_80 rfl rfl (by decide) rfl ?_
  refine g_goto (tgt := 11) dX10_all_83 (by decide) ?_
  refine G.lsub [1, 2, 3, 0] rfl ?_
  exact hk_11 l0 l1 l2 (l3 + 1) _ _ r h
theorem ok_J_X10_all_67 (Θ : GP) (k_11 : Nat → Int32 → Int32 → Int32 → OW → Nat → RO) (hk_11 : ∀ l0 l1 l2 l3 ω n r, k_11 l0 l1 l2 l3 ω n = some r → GR Θ yX10_all cX10_all 4 (some .int) 6 (0, 0) 11 [(0, .ref l0), (1, .int l1), (2, .int l2), (3, .int l3)] [] ω n r) (l0 : Nat) (l1 : Int32) (l3 : Int32) (s0 : Int32) (s1 : Int32) (ω : OW) (n : Nat) (r : Out) (h : J_X10_all_67 Θ k_11 l0 l1 l3 s0 s1 ω n = some r) : GR Θ yX10_all cX10_all 4 (some .int) 6 (0, 0) 67 [(0, .ref l0), (1, .int l1), (3, .int l3)] [.int s0, .int s1] ω n r := by
  unfold J_X10_all_67 at h
  refine g_ior dX10_all_67 ?_
  refine g_istore_n (lv' := [(2, .int (s1 ||| s0)), (0, .ref l0), (1, .int l1), (3, .int l3)]) dX10_all_68 rfl (by decide) rfl ?_
  refine g_iload_n dX10_all_69 rfl 2 rfl ?_
  refine g_if_eq (tgt := 80) dX10_all_70 (by decide) (fun c1 => ?_) (fun c1 => ?_)
  · rw [if_pos c1] at h
    refine G.lsub [1, 2, 0, 3] rfl ?_
    exact ok_J_X10_all_80 Θ k_11 hk_11 l0 l1 (s1 ||| s0) l3 _ _ r h
  · rw [if_neg c1] at h
    refine g_aload_n dX10_all_73 rfl 1 rfl ?_
    refine g_rA fl_X10_88 dX10_all_74 h (fun a2 h => ?_)
    refine g_cV (ci := 6) (As := []) mv_X10_231 dX10_all_77 rfl (ok_X6_wearOn Θ a2 _ _) rfl rfl (Nat.le_of_ble_eq_true rfl) (by decide) (by decide) (by decide) h (fun ω n h => ?_)
    refine G.less (B' := (0, 0)) (by decide) (by decide) ?_
    refine G.lsub [1, 2, 0, 3] rfl ?_
    exact ok_J_X10_all_80 Θ k_11 hk_11 l0 l1 (s1 ||| s0) l3 _ _ r h
theorem ok_B_X10_all_11 (Θ : GP) (k_11 : Nat → Int32 → Int32 → Int32 → OW → Nat → RO) (hk_11 : ∀ l0 l1 l2 l3 ω n r, k_11 l0 l1 l2 l3 ω n = some r → GR Θ yX10_all cX10_all 4 (some .int) 6 (0, 0) 11 [(0, .ref l0), (1, .int l1), (2, .int l2), (3, .int l3)] [] ω n r) (l0 : Nat) (l1 : Int32) (l2 : Int32) (l3 : Int32) (ω : OW) (n : Nat) (r : Out) (h : B_X10_all_11 Θ k_11 l0 l1 l2 l3 ω n = some r) : GR Θ yX10_all cX10_all 4 (some .int) 6 (0, 0) 11 [(0, .ref l0), (1, .int l1), (2, .int l2), (3, .int l3)] [] ω n r := by
  unfold B_X10_all_11 at h
  refine g_iload_n dX10_all_11 rfl 3 rfl ?_
  refine g_aload_n dX10_all_12 rfl 0 rfl ?_
  refine g_rA fl_X10_48 dX10_all_13 h (fun a4 h => ?_)
  refine g_rI fl_X10_322 dX10_all_16 h (fun x5 h => ?_)
  refine g_icmp_ge (tgt := 86) dX10_all_19 (by decide) (fun c6 => ?_) (fun c6 => ?_)
  · rw [if_pos c6] at h
    refine g_iload_n dX10_all_86 rfl 2 rfl ?_
    cases h
    exact g_iret rfl dX10_all_87 rfl
  · rw [if_neg c6] at h
    refine g_aload_n dX10_all_22 rfl 0 rfl ?_
    refine g_rA fl_X10_48 dX10_all_23 h (fun a7 h => ?_)
    refine g_iload_n dX10_all_26 rfl 3 rfl ?_
    refine g_cI (ci := 0) (As := [.int l3]) mv_X10_325 dX10_all_27 rfl (ok_X0_waits Θ a7 l3 _ _) rfl rfl (Nat.le_of_ble_eq_true rfl) (by decide) (by decide) (by decide) h (fun x8 ω n h => ?_)
    refine G.less (B' := (0, 0)) (by decide) (by decide) ?_
    refine g_if_eq (tgt := 80) dX10_all_30 (by decide) (fun c9 => ?_) (fun c9 => ?_)
    · rw [if_pos c9] at h
      exact ok_J_X10_all_80 Θ k_11 hk_11 l0 l1 l2 l3 _ _ r h
    · rw [if_neg c9] at h
      refine g_aload_n dX10_all_33 rfl 0 rfl ?_
      refine g_rA fl_X10_88 dX10_all_34 h (fun a10 h => ?_)
      refine g_iload_n dX10_all_37 rfl 3 rfl ?_
      refine g_cV (ci := 6) (As := [.int l3]) mv_X10_203 dX10_all_38 rfl (ok_X6_board Θ a10 l3 _ _) rfl rfl (Nat.le_of_ble_eq_true rfl) (by decide) (by decide) (by decide) h (fun ω n h => ?_)
      refine G.less (B' := (0, 0)) (by decide) (by decide) ?_
      refine g_aload_n dX10_all_41 rfl 0 rfl ?_
      refine g_rA fl_X10_88 dX10_all_42 h (fun a12 h => ?_)
      refine g_cV (ci := 6) (As := []) mv_X10_374 dX10_all_45 rfl (ok_X6_straightOn Θ a12 _ _) rfl rfl (Nat.le_of_ble_eq_true rfl) (by decide) (by decide) (by decide) h (fun ω n h => ?_)
      refine G.less (B' := (0, 0)) (by decide) (by decide) ?_
      refine g_iload_n dX10_all_48 rfl 2 rfl ?_
      refine g_aload_n dX10_all_49 rfl 0 rfl ?_
      refine g_rA fl_X10_88 dX10_all_50 h (fun a14 h => ?_)
      refine g_rI fl_X10_243 dX10_all_53 h (fun x15 h => ?_)
      refine g_iconst (v := (-1)) dX10_all_56 (by decide) ?_
      refine g_icmp_eq (tgt := 66) dX10_all_57 (by decide) (fun c16 => ?_) (fun c16 => ?_)
      · rw [if_pos c16] at h
        refine g_iconst (v := 0) dX10_all_66 (by decide) ?_
        refine G.lsub [0, 1, 3] rfl ?_
        exact ok_J_X10_all_67 Θ k_11 hk_11 l0 l1 l3 0 l2 _ _ r h
      · rw [if_neg c16] at h
        refine g_iconst (v := 1) dX10_all_60 (by decide) ?_
        refine g_iload_n dX10_all_61 rfl 3 rfl ?_
        refine g_ishl dX10_all_62 ?_
        refine g_goto (tgt := 67) dX10_all_63 (by decide) ?_
        refine G.lsub [0, 1, 3] rfl ?_
        exact ok_J_X10_all_67 Θ k_11 hk_11 l0 l1 l3 (1 <<< ((l3 : Int32) &&& 31)) l2 _ _ r h
theorem ok_L_X10_all_11 (Θ : GP) : ∀ (f : Nat) (l0 : Nat) (l1 : Int32) (l2 : Int32) (l3 : Int32) (ω : OW) (n : Nat) (r : Out), L_X10_all_11 Θ f l0 l1 l2 l3 ω n = some r → GR Θ yX10_all cX10_all 4 (some .int) 6 (0, 0) 11 [(0, .ref l0), (1, .int l1), (2, .int l2), (3, .int l3)] [] ω n r := by
  intro f
  induction f with
  | zero =>
    intro l0 l1 l2 l3 ω n r h
    unfold L_X10_all_11 at h
    cases h
  | succ f ih =>
    intro l0 l1 l2 l3 ω n r h
    unfold L_X10_all_11 at h
    exact ok_B_X10_all_11 Θ (L_X10_all_11 Θ f) ih l0 l1 l2 l3 ω n r h
theorem ok_X10_all (Θ : GP) (l0 : Nat) (l1 : Int32) (ω : OW) (n : Nat) : Ok Θ 6 0 0 yX10_all cX10_all 4 (some .int) [.ref l0, .int l1] ω n (F_X10_all Θ l0 l1 ω n) := by
  refine Ok.of (by decide +kernel) (Nat.le_of_ble_eq_true rfl) (fun r h => ?_)
  unfold F_X10_all at h
  show GR Θ yX10_all cX10_all 4 (some .int) 6 (0, 0) 0 [(0, .ref l0), (1, .int l1)] [] ω n r
  refine g_aload_n dX10_all_0 rfl 0 rfl ?_
  refine g_rA fl_X10_88 dX10_all_1 h (fun a17 h => ?_)
  refine g_cV (ci := 6) (As := []) mv_X10_200 dX10_all_4 rfl (ok_X6_lay Θ a17 _ _) rfl rfl (Nat.le_of_ble_eq_true rfl) (by decide) (by decide) (by decide) h (fun ω n h => ?_)
  refine G.less (B' := (0, 0)) (by decide) (by decide) ?_
  refine g_iconst (v := 0) dX10_all_7 (by decide) ?_
  refine g_istore_n (lv' := [(2, .int 0), (0, .ref l0), (1, .int l1)]) dX10_all_8 rfl (by decide) rfl ?_
  refine g_iconst (v := 0) dX10_all_9 (by decide) ?_
  refine g_istore_n (lv' := [(3, .int 0), (2, .int 0), (0, .ref l0), (1, .int l1)]) dX10_all_10 rfl (by decide) rfl ?_
  refine G.lsub [2, 3, 1, 0] rfl ?_
  exact ok_L_X10_all_11 Θ 5000 l0 l1 0 0 _ _ r h
def J_X10_share_85 (Θ : GP) (s0 : Int32) (ω : OW) (n : Nat) : RO := some (.inl (some (.int s0), ω, n))
def J_X10_share_66 (Θ : GP) (ω : OW) (n : Nat) : RO := J_X10_share_85 Θ 0 ω n
def B_X10_share_20 (Θ : GP) (k_20 : Nat → Int32 → Int32 → Int32 → OW → Nat → RO) (l0 : Nat) (l1 : Int32) (l3 : Int32) (l4 : Int32) (ω : OW) (n : Nat) : RO := if 10 ≤ l4 then (rA ω l0 10 0 (fun a2 => rA ω a2 0 10 (fun a3 => lI ω (gI Θ) a3 l1 (fun x4 => if x4 < 0 then (J_X10_share_66 Θ ω n) else (if l3 = 0 then (J_X10_share_66 Θ ω n) else (rA ω l0 10 8 (fun a7 => rA ω a7 6 11 (fun a8 => lI ω (gI Θ) a8 x4 (fun x9 => nz l3 (J_X10_share_85 Θ ((x9 * 100) / l3) ω n)))))))))) else (rA ω l0 10 8 (fun a11 => rA ω a11 6 11 (fun a12 => lI ω (gI Θ) a12 l4 (fun x13 => k_20 l0 l1 (l3 + x13) (l4 + 1) ω n))))
def L_X10_share_20 (Θ : GP) : Nat → Nat → Int32 → Int32 → Int32 → OW → Nat → RO
  | 0, _, _, _, _, _, _ => none
  | f + 1, l0, l1, l3, l4, ω, n => B_X10_share_20 Θ (L_X10_share_20 Θ f) l0 l1 l3 l4 ω n
def F_X10_share (Θ : GP) (l0 : Nat) (l1 : Int32) (l2 : Int32) (ω : OW) (n : Nat) : RO := cO ω l0 10 (kV (F_X10_needProp Θ l0 l1 ω n) (fun ω n => cO ω l0 10 (kV (F_X10_needOne Θ l0 l2 ω n) (fun ω n => cO ω l0 10 (kV (F_X10_rideStraight Θ l0 l2 ω n) (fun ω n => L_X10_share_20 Θ 5000 l0 l1 0 0 ω n))))))
theorem ok_J_X10_share_85 (Θ : GP) (s0 : Int32) (ω : OW) (n : Nat) (r : Out) (h : J_X10_share_85 Θ s0 ω n = some r) : GR Θ yX10_share cX10_share 5 (some .int) 7 (0, 0) 85 [] [.int s0] ω n r := by
  unfold J_X10_share_85 at h
  cases h
  exact g_iret rfl dX10_share_85 rfl
theorem ok_J_X10_share_66 (Θ : GP) (ω : OW) (n : Nat) (r : Out) (h : J_X10_share_66 Θ ω n = some r) : GR Θ yX10_share cX10_share 5 (some .int) 7 (0, 0) 66 [] [] ω n r := by
  unfold J_X10_share_66 at h
  refine g_iconst (v := 0) dX10_share_66 (by decide) ?_
  refine g_goto (tgt := 85) dX10_share_67 (by decide) ?_
  exact ok_J_X10_share_85 Θ 0 _ _ r h
theorem ok_B_X10_share_20 (Θ : GP) (k_20 : Nat → Int32 → Int32 → Int32 → OW → Nat → RO) (hk_20 : ∀ l0 l1 l3 l4 ω n r, k_20 l0 l1 l3 l4 ω n = some r → GR Θ yX10_share cX10_share 5 (some .int) 7 (0, 0) 20 [(0, .ref l0), (1, .int l1), (3, .int l3), (4, .int l4)] [] ω n r) (l0 : Nat) (l1 : Int32) (l3 : Int32) (l4 : Int32) (ω : OW) (n : Nat) (r : Out) (h : B_X10_share_20 Θ k_20 l0 l1 l3 l4 ω n = some r) : GR Θ yX10_share cX10_share 5 (some .int) 7 (0, 0) 20 [(0, .ref l0), (1, .int l1), (3, .int l3), (4, .int l4)] [] ω n r := by
  unfold B_X10_share_20 at h
  refine g_iload dX10_share_20 3 rfl ?_
  refine g_bipush (v := 10) dX10_share_22 (by decide) ?_
  refine g_icmp_ge (tgt := 46) dX10_share_24 (by decide) (fun c1 => ?_) (fun c1 => ?_)
  · rw [if_pos c1] at h
    refine g_aload_n dX10_share_46 rfl 0 rfl ?_
    refine g_rA fl_X10_48 dX10_share_47 h (fun a2 h => ?_)
    refine g_rA fl_X10_167 dX10_share_50 h (fun a3 h => ?_)
    refine g_iload_n dX10_share_53 rfl 1 rfl ?_
    refine g_lIi dX10_share_54 h (fun x4 h => ?_)
    refine g_istore (lv' := [(4, .int x4), (0, .ref l0), (1, .int l1), (3, .int l3)]) dX10_share_55 (by decide) rfl ?_
    refine g_iload dX10_share_57 0 rfl ?_
    refine g_if_lt (tgt := 66) dX10_share_59 (by decide) (fun c5 => ?_) (fun c5 => ?_)
    · rw [if_pos c5] at h
      refine G.lsub [] rfl ?_
      exact ok_J_X10_share_66 Θ _ _ r h
    · rw [if_neg c5] at h
      refine g_iload_n dX10_share_62 rfl 3 rfl ?_
      refine g_if_ne (tgt := 70) dX10_share_63 (by decide) (fun c6 => ?_) (fun c6 => ?_)
      · rw [if_neg c6] at h
        refine g_aload_n dX10_share_70 rfl 1 rfl ?_
        refine g_rA fl_X10_88 dX10_share_71 h (fun a7 h => ?_)
        refine g_rA fl_X10_377 dX10_share_74 h (fun a8 h => ?_)
        refine g_iload dX10_share_77 0 rfl ?_
        refine g_lIi dX10_share_79 h (fun x9 h => ?_)
        refine g_bipush (v := 100) dX10_share_80 (by decide) ?_
        refine g_imul dX10_share_82 ?_
        refine g_iload_n dX10_share_83 rfl 3 rfl ?_
        obtain ⟨z10, h⟩ := nz_inv h
        refine g_idiv dX10_share_84 z10 ?_
        refine G.lsub [] rfl ?_
        exact ok_J_X10_share_85 Θ ((x9 * 100) / l3) _ _ r h
      · rw [if_pos c6] at h
        refine G.lsub [] rfl ?_
        exact ok_J_X10_share_66 Θ _ _ r h
  · rw [if_neg c1] at h
    refine g_iload_n dX10_share_27 rfl 2 rfl ?_
    refine g_aload_n dX10_share_28 rfl 0 rfl ?_
    refine g_rA fl_X10_88 dX10_share_29 h (fun a11 h => ?_)
    refine g_rA fl_X10_377 dX10_share_32 h (fun a12 h => ?_)
    refine g_iload dX10_share_35 3 rfl ?_
    refine g_lIi dX10_share_37 h (fun x13 h => ?_)
    refine g_iadd dX10_share_38 ?_
    refine g_istore_n (lv' := [(3, .int (l3 + x13)), (0, .ref l0), (1, .int l1), (4, .int l4)]) dX10_share_39 rfl (by decide) rfl ?_
    refine g_iinc (j := 3) (v := l4 + 1) (lv' := [(4, .int (l4 + 1)), (3, .int (l3 + x13)), (0, .ref l0), (1, .int l1)]) dX10_share_40 rfl rfl (by decide) rfl ?_
    refine g_goto (tgt := 20) dX10_share_43 (by decide) ?_
    refine G.lsub [2, 3, 1, 0] rfl ?_
    exact hk_20 l0 l1 (l3 + x13) (l4 + 1) _ _ r h
theorem ok_L_X10_share_20 (Θ : GP) : ∀ (f : Nat) (l0 : Nat) (l1 : Int32) (l3 : Int32) (l4 : Int32) (ω : OW) (n : Nat) (r : Out), L_X10_share_20 Θ f l0 l1 l3 l4 ω n = some r → GR Θ yX10_share cX10_share 5 (some .int) 7 (0, 0) 20 [(0, .ref l0), (1, .int l1), (3, .int l3), (4, .int l4)] [] ω n r := by
  intro f
  induction f with
  | zero =>
    intro l0 l1 l3 l4 ω n r h
    unfold L_X10_share_20 at h
    cases h
  | succ f ih =>
    intro l0 l1 l3 l4 ω n r h
    unfold L_X10_share_20 at h
    exact ok_B_X10_share_20 Θ (L_X10_share_20 Θ f) ih l0 l1 l3 l4 ω n r h
theorem ok_X10_share (Θ : GP) (l0 : Nat) (l1 : Int32) (l2 : Int32) (ω : OW) (n : Nat) : Ok Θ 7 2 12 yX10_share cX10_share 5 (some .int) [.ref l0, .int l1, .int l2] ω n (F_X10_share Θ l0 l1 l2 ω n) := by
  refine Ok.of (by decide +kernel) (Nat.le_of_ble_eq_true rfl) (fun r h => ?_)
  unfold F_X10_share at h
  show GR Θ yX10_share cX10_share 5 (some .int) 7 (2, 12) 0 [(0, .ref l0), (1, .int l1), (2, .int l2)] [] ω n r
  refine g_aload_n dX10_share_0 rfl 0 rfl ?_
  refine g_iload_n dX10_share_1 rfl 1 rfl ?_
  refine g_cV (ci := 10) (As := [.int l1]) mv_X10_155 dX10_share_2 rfl (ok_X10_needProp Θ l0 l1 _ _) rfl rfl (Nat.le_of_ble_eq_true rfl) (by decide) (by decide) (by decide) h (fun ω n h => ?_)
  refine G.less (B' := (1, 6)) (by decide) (by decide) ?_
  refine g_aload_n dX10_share_5 rfl 0 rfl ?_
  refine g_iload_n dX10_share_6 rfl 2 rfl ?_
  refine g_cV (ci := 10) (As := [.int l2]) mv_X10_181 dX10_share_7 rfl (ok_X10_needOne Θ l0 l2 _ _) rfl rfl (Nat.le_of_ble_eq_true rfl) (by decide) (by decide) (by decide) h (fun ω n h => ?_)
  refine G.less (B' := (0, 0)) (by decide) (by decide) ?_
  refine g_aload_n dX10_share_10 rfl 0 rfl ?_
  refine g_iload_n dX10_share_11 rfl 2 rfl ?_
  refine g_cV (ci := 10) (As := [.int l2]) mv_X10_300 dX10_share_12 rfl (ok_X10_rideStraight Θ l0 l2 _ _) rfl rfl (Nat.le_of_ble_eq_true rfl) (by decide) (by decide) (by decide) h (fun ω n h => ?_)
  refine G.less (B' := (0, 0)) (by decide) (by decide) ?_
  refine g_iconst (v := 0) dX10_share_15 (by decide) ?_
  refine g_istore_n (lv' := [(3, .int 0), (0, .ref l0), (1, .int l1), (2, .int l2)]) dX10_share_16 rfl (by decide) rfl ?_
  refine g_iconst (v := 0) dX10_share_17 (by decide) ?_
  refine g_istore (lv' := [(4, .int 0), (3, .int 0), (0, .ref l0), (1, .int l1), (2, .int l2)]) dX10_share_18 (by decide) rfl ?_
  refine G.lsub [2, 3, 1, 0] rfl ?_
  exact ok_L_X10_share_20 Θ 5000 l0 l1 0 0 _ _ r h
def J_X10_loudest_139 (Θ : GP) (k_91 : Nat → Int32 → Int32 → Int32 → OW → Nat → RO) (l0 : Nat) (l1 : Int32) (l2 : Int32) (l3 : Int32) (ω : OW) (n : Nat) : RO := k_91 l0 l1 l2 (l3 + 1) ω n
def B_X10_loudest_91 (Θ : GP) (k_91 : Nat → Int32 → Int32 → Int32 → OW → Nat → RO) (l0 : Nat) (l1 : Int32) (l2 : Int32) (l3 : Int32) (ω : OW) (n : Nat) : RO := rA ω l0 10 0 (fun a1 => rI ω a1 0 0 (fun x2 => if x2 ≤ l3 then (some (.inl (some (.int l1), ω, n))) else (rA ω l0 10 0 (fun a4 => rA ω a4 0 10 (fun a5 => lI ω (gI Θ) a5 l3 (fun x6 => if x6 < 0 then (J_X10_loudest_139 Θ k_91 l0 l1 l2 l3 ω n) else (rA ω l0 10 12 (fun a8 => lI ω (gI Θ) a8 x6 (fun x9 => if x9 ≤ l2 then (J_X10_loudest_139 Θ k_91 l0 l1 l2 l3 ω n) else (rA ω l0 10 12 (fun a11 => lI ω (gI Θ) a11 x6 (fun x12 => J_X10_loudest_139 Θ k_91 l0 l3 x12 l3 ω n))))))))))))
def L_X10_loudest_91 (Θ : GP) : Nat → Nat → Int32 → Int32 → Int32 → OW → Nat → RO
  | 0, _, _, _, _, _, _ => none
  | f + 1, l0, l1, l2, l3, ω, n => B_X10_loudest_91 Θ (L_X10_loudest_91 Θ f) l0 l1 l2 l3 ω n
def J_X10_loudest_79 (Θ : GP) (k_17 : Nat → Int32 → OW → Nat → RO) (l0 : Nat) (l1 : Int32) (ω : OW) (n : Nat) : RO := k_17 l0 (l1 + 1) ω n
def B_X10_loudest_49 (Θ : GP) (k_17 : Nat → Int32 → OW → Nat → RO) (k_49 : Nat → Int32 → Int32 → OW → Nat → RO) (l0 : Nat) (l1 : Int32) (l2 : Int32) (ω : OW) (n : Nat) : RO := if 10 ≤ l2 then (J_X10_loudest_79 Θ k_17 l0 l1 ω n) else (rA ω l0 10 12 (fun a14 => lI ω (gI Θ) a14 l2 (fun x15 => rA ω l0 10 10 (fun a16 => rA ω a16 9 1 (fun a17 => lI ω (gI Θ) a17 l2 (fun x18 => sI ω (gI Θ) a14 l2 (x15 + x18) (fun ω => k_49 l0 l1 (l2 + 1) ω n)))))))
def L_X10_loudest_49 (Θ : GP) (k_17 : Nat → Int32 → OW → Nat → RO) : Nat → Nat → Int32 → Int32 → OW → Nat → RO
  | 0, _, _, _, _, _ => none
  | f + 1, l0, l1, l2, ω, n => B_X10_loudest_49 Θ k_17 (L_X10_loudest_49 Θ k_17 f) l0 l1 l2 ω n
def B_X10_loudest_17 (Θ : GP) (k_17 : Nat → Int32 → OW → Nat → RO) (l0 : Nat) (l1 : Int32) (ω : OW) (n : Nat) : RO := rA ω l0 10 0 (fun a19 => rI ω a19 0 1 (fun x20 => if x20 ≤ l1 then (L_X10_loudest_91 Θ 5000 l0 (-1) 0 0 ω n) else (rA ω l0 10 0 (fun a22 => cO ω a22 0 (kI (F_X0_waits Θ a22 l1 ω n) (fun x23 ω n => if x23 = 0 then (J_X10_loudest_79 Θ k_17 l0 l1 ω n) else (rA ω l0 10 10 (fun a25 => cO ω a25 9 (kV (F_X9_countOf Θ a25 l1 ω n) (fun ω n => L_X10_loudest_49 Θ k_17 5000 l0 l1 0 ω n))))))))))
def L_X10_loudest_17 (Θ : GP) : Nat → Nat → Int32 → OW → Nat → RO
  | 0, _, _, _, _ => none
  | f + 1, l0, l1, ω, n => B_X10_loudest_17 Θ (L_X10_loudest_17 Θ f) l0 l1 ω n
def F_X10_loudest (Θ : GP) (l0 : Nat) (ω : OW) (n : Nat) : RO := rA ω l0 10 8 (fun a27 => cO ω a27 6 (kV (F_X6_lay Θ a27 ω n) (fun ω n => rA ω l0 10 12 (fun a29 => kV (F_J7_fill_53178 Θ a29 0 ω n) (fun ω n => L_X10_loudest_17 Θ 5000 l0 0 ω n)))))
theorem ok_J_X10_loudest_139 (Θ : GP) (k_91 : Nat → Int32 → Int32 → Int32 → OW → Nat → RO) (hk_91 : ∀ l0 l1 l2 l3 ω n r, k_91 l0 l1 l2 l3 ω n = some r → GR Θ yX10_loudest cX10_loudest 5 (some .int) 5 (0, 0) 91 [(0, .ref l0), (1, .int l1), (2, .int l2), (3, .int l3)] [] ω n r) (l0 : Nat) (l1 : Int32) (l2 : Int32) (l3 : Int32) (ω : OW) (n : Nat) (r : Out) (h : J_X10_loudest_139 Θ k_91 l0 l1 l2 l3 ω n = some r) : GR Θ yX10_loudest cX10_loudest 5 (some .int) 5 (0, 0) 139 [(0, .ref l0), (1, .int l1), (2, .int l2), (3, .int l3)] [] ω n r := by
  unfold J_X10_loudest_139 at h
  refine g_iinc (j := 3) (v := l3 + 1) (lv' := [(3, .int (l3 + 1)), (0, .ref l0), (1, .int l1), (2, .int l2)]) dX10_loudest_139 rfl rfl (by decide) rfl ?_
  refine g_goto (tgt := 91) dX10_loudest_142 (by decide) ?_
  refine G.lsub [1, 2, 3, 0] rfl ?_
  exact hk_91 l0 l1 l2 (l3 + 1) _ _ r h
theorem ok_B_X10_loudest_91 (Θ : GP) (k_91 : Nat → Int32 → Int32 → Int32 → OW → Nat → RO) (hk_91 : ∀ l0 l1 l2 l3 ω n r, k_91 l0 l1 l2 l3 ω n = some r → GR Θ yX10_loudest cX10_loudest 5 (some .int) 5 (0, 0) 91 [(0, .ref l0), (1, .int l1), (2, .int l2), (3, .int l3)] [] ω n r) (l0 : Nat) (l1 : Int32) (l2 : Int32) (l3 : Int32) (ω : OW) (n : Nat) (r : Out) (h : B_X10_loudest_91 Θ k_91 l0 l1 l2 l3 ω n = some r) : GR Θ yX10_loudest cX10_loudest 5 (some .int) 5 (0, 0) 91 [(0, .ref l0), (1, .int l1), (2, .int l2), (3, .int l3)] [] ω n r := by
  unfold B_X10_loudest_91 at h
  refine g_iload_n dX10_loudest_91 rfl 3 rfl ?_
  refine g_aload_n dX10_loudest_92 rfl 0 rfl ?_
  refine g_rA fl_X10_48 dX10_loudest_93 h (fun a1 h => ?_)
  refine g_rI fl_X10_294 dX10_loudest_96 h (fun x2 h => ?_)
  refine g_icmp_ge (tgt := 145) dX10_loudest_99 (by decide) (fun c3 => ?_) (fun c3 => ?_)
  · rw [if_pos c3] at h
    refine g_iload_n dX10_loudest_145 rfl 1 rfl ?_
    cases h
    exact g_iret rfl dX10_loudest_146 rfl
  · rw [if_neg c3] at h
    refine g_aload_n dX10_loudest_102 rfl 0 rfl ?_
    refine g_rA fl_X10_48 dX10_loudest_103 h (fun a4 h => ?_)
    refine g_rA fl_X10_167 dX10_loudest_106 h (fun a5 h => ?_)
    refine g_iload_n dX10_loudest_109 rfl 3 rfl ?_
    refine g_lIi dX10_loudest_110 h (fun x6 h => ?_)
    refine g_istore (lv' := [(4, .int x6), (0, .ref l0), (1, .int l1), (2, .int l2), (3, .int l3)]) dX10_loudest_111 (by decide) rfl ?_
    refine g_iload dX10_loudest_113 0 rfl ?_
    refine g_if_lt (tgt := 139) dX10_loudest_115 (by decide) (fun c7 => ?_) (fun c7 => ?_)
    · rw [if_pos c7] at h
      refine G.lsub [1, 2, 3, 4] rfl ?_
      exact ok_J_X10_loudest_139 Θ k_91 hk_91 l0 l1 l2 l3 _ _ r h
    · rw [if_neg c7] at h
      refine g_aload_n dX10_loudest_118 rfl 1 rfl ?_
      refine g_rA fl_X10_27 dX10_loudest_119 h (fun a8 h => ?_)
      refine g_iload dX10_loudest_122 0 rfl ?_
      refine g_lIi dX10_loudest_124 h (fun x9 h => ?_)
      refine g_iload_n dX10_loudest_125 rfl 3 rfl ?_
      refine g_icmp_le (tgt := 139) dX10_loudest_126 (by decide) (fun c10 => ?_) (fun c10 => ?_)
      · rw [if_pos c10] at h
        refine G.lsub [1, 2, 3, 4] rfl ?_
        exact ok_J_X10_loudest_139 Θ k_91 hk_91 l0 l1 l2 l3 _ _ r h
      · rw [if_neg c10] at h
        refine g_aload_n dX10_loudest_129 rfl 1 rfl ?_
        refine g_rA fl_X10_27 dX10_loudest_130 h (fun a11 h => ?_)
        refine g_iload dX10_loudest_133 0 rfl ?_
        refine g_lIi dX10_loudest_135 h (fun x12 h => ?_)
        refine g_istore_n (lv' := [(2, .int x12), (4, .int x6), (0, .ref l0), (1, .int l1), (3, .int l3)]) dX10_loudest_136 rfl (by decide) rfl ?_
        refine g_iload_n dX10_loudest_137 rfl 4 rfl ?_
        refine g_istore_n (lv' := [(1, .int l3), (2, .int x12), (4, .int x6), (0, .ref l0), (3, .int l3)]) dX10_loudest_138 rfl (by decide) rfl ?_
        refine G.lsub [3, 0, 1, 4] rfl ?_
        exact ok_J_X10_loudest_139 Θ k_91 hk_91 l0 l3 x12 l3 _ _ r h
theorem ok_L_X10_loudest_91 (Θ : GP) : ∀ (f : Nat) (l0 : Nat) (l1 : Int32) (l2 : Int32) (l3 : Int32) (ω : OW) (n : Nat) (r : Out), L_X10_loudest_91 Θ f l0 l1 l2 l3 ω n = some r → GR Θ yX10_loudest cX10_loudest 5 (some .int) 5 (0, 0) 91 [(0, .ref l0), (1, .int l1), (2, .int l2), (3, .int l3)] [] ω n r := by
  intro f
  induction f with
  | zero =>
    intro l0 l1 l2 l3 ω n r h
    unfold L_X10_loudest_91 at h
    cases h
  | succ f ih =>
    intro l0 l1 l2 l3 ω n r h
    unfold L_X10_loudest_91 at h
    exact ok_B_X10_loudest_91 Θ (L_X10_loudest_91 Θ f) ih l0 l1 l2 l3 ω n r h
theorem ok_J_X10_loudest_79 (Θ : GP) (k_17 : Nat → Int32 → OW → Nat → RO) (hk_17 : ∀ l0 l1 ω n r, k_17 l0 l1 ω n = some r → GR Θ yX10_loudest cX10_loudest 5 (some .int) 5 (0, 0) 17 [(0, .ref l0), (1, .int l1)] [] ω n r) (l0 : Nat) (l1 : Int32) (ω : OW) (n : Nat) (r : Out) (h : J_X10_loudest_79 Θ k_17 l0 l1 ω n = some r) : GR Θ yX10_loudest cX10_loudest 5 (some .int) 5 (0, 0) 79 [(0, .ref l0), (1, .int l1)] [] ω n r := by
  unfold J_X10_loudest_79 at h
  refine g_iinc (j := 1) (v := l1 + 1) (lv' := [(1, .int (l1 + 1)), (0, .ref l0)]) dX10_loudest_79 rfl rfl (by decide) rfl ?_
  refine g_goto (tgt := 17) dX10_loudest_82 (by decide) ?_
  refine G.lsub [1, 0] rfl ?_
  exact hk_17 l0 (l1 + 1) _ _ r h
theorem ok_B_X10_loudest_49 (Θ : GP) (k_17 : Nat → Int32 → OW → Nat → RO) (k_49 : Nat → Int32 → Int32 → OW → Nat → RO) (hk_17 : ∀ l0 l1 ω n r, k_17 l0 l1 ω n = some r → GR Θ yX10_loudest cX10_loudest 5 (some .int) 5 (0, 0) 17 [(0, .ref l0), (1, .int l1)] [] ω n r) (hk_49 : ∀ l0 l1 l2 ω n r, k_49 l0 l1 l2 ω n = some r → GR Θ yX10_loudest cX10_loudest 5 (some .int) 5 (0, 0) 49 [(0, .ref l0), (1, .int l1), (2, .int l2)] [] ω n r) (l0 : Nat) (l1 : Int32) (l2 : Int32) (ω : OW) (n : Nat) (r : Out) (h : B_X10_loudest_49 Θ k_17 k_49 l0 l1 l2 ω n = some r) : GR Θ yX10_loudest cX10_loudest 5 (some .int) 5 (0, 0) 49 [(0, .ref l0), (1, .int l1), (2, .int l2)] [] ω n r := by
  unfold B_X10_loudest_49 at h
  refine g_iload_n dX10_loudest_49 rfl 2 rfl ?_
  refine g_bipush (v := 10) dX10_loudest_50 (by decide) ?_
  refine g_icmp_ge (tgt := 79) dX10_loudest_52 (by decide) (fun c13 => ?_) (fun c13 => ?_)
  · rw [if_pos c13] at h
    refine G.lsub [0, 1] rfl ?_
    exact ok_J_X10_loudest_79 Θ k_17 hk_17 l0 l1 _ _ r h
  · rw [if_neg c13] at h
    refine g_aload_n dX10_loudest_55 rfl 0 rfl ?_
    refine g_rA fl_X10_27 dX10_loudest_56 h (fun a14 h => ?_)
    refine g_iload_n dX10_loudest_59 rfl 2 rfl ?_
    refine g_dup2 dX10_loudest_60 rfl rfl ?_
    refine g_lIi dX10_loudest_61 h (fun x15 h => ?_)
    refine g_aload_n dX10_loudest_62 rfl 0 rfl ?_
    refine g_rA fl_X10_100 dX10_loudest_63 h (fun a16 h => ?_)
    refine g_rA fl_X10_312 dX10_loudest_66 h (fun a17 h => ?_)
    refine g_iload_n dX10_loudest_69 rfl 2 rfl ?_
    refine g_lIi dX10_loudest_70 h (fun x18 h => ?_)
    refine g_iadd dX10_loudest_71 ?_
    refine g_sIi dX10_loudest_72 h (fun ω h => ?_)
    refine g_iinc (j := 2) (v := l2 + 1) (lv' := [(2, .int (l2 + 1)), (0, .ref l0), (1, .int l1)]) dX10_loudest_73 rfl rfl (by decide) rfl ?_
    refine g_goto (tgt := 49) dX10_loudest_76 (by decide) ?_
    refine G.lsub [1, 2, 0] rfl ?_
    exact hk_49 l0 l1 (l2 + 1) _ _ r h
theorem ok_L_X10_loudest_49 (Θ : GP) (k_17 : Nat → Int32 → OW → Nat → RO) (hk_17 : ∀ l0 l1 ω n r, k_17 l0 l1 ω n = some r → GR Θ yX10_loudest cX10_loudest 5 (some .int) 5 (0, 0) 17 [(0, .ref l0), (1, .int l1)] [] ω n r) : ∀ (f : Nat) (l0 : Nat) (l1 : Int32) (l2 : Int32) (ω : OW) (n : Nat) (r : Out), L_X10_loudest_49 Θ k_17 f l0 l1 l2 ω n = some r → GR Θ yX10_loudest cX10_loudest 5 (some .int) 5 (0, 0) 49 [(0, .ref l0), (1, .int l1), (2, .int l2)] [] ω n r := by
  intro f
  induction f with
  | zero =>
    intro l0 l1 l2 ω n r h
    unfold L_X10_loudest_49 at h
    cases h
  | succ f ih =>
    intro l0 l1 l2 ω n r h
    unfold L_X10_loudest_49 at h
    exact ok_B_X10_loudest_49 Θ k_17 (L_X10_loudest_49 Θ k_17 f) hk_17 ih l0 l1 l2 ω n r h
theorem ok_B_X10_loudest_17 (Θ : GP) (k_17 : Nat → Int32 → OW → Nat → RO) (hk_17 : ∀ l0 l1 ω n r, k_17 l0 l1 ω n = some r → GR Θ yX10_loudest cX10_loudest 5 (some .int) 5 (0, 0) 17 [(0, .ref l0), (1, .int l1)] [] ω n r) (l0 : Nat) (l1 : Int32) (ω : OW) (n : Nat) (r : Out) (h : B_X10_loudest_17 Θ k_17 l0 l1 ω n = some r) : GR Θ yX10_loudest cX10_loudest 5 (some .int) 5 (0, 0) 17 [(0, .ref l0), (1, .int l1)] [] ω n r := by
  unfold B_X10_loudest_17 at h
  refine g_iload_n dX10_loudest_17 rfl 1 rfl ?_
  refine g_aload_n dX10_loudest_18 rfl 0 rfl ?_
  refine g_rA fl_X10_48 dX10_loudest_19 h (fun a19 h => ?_)
  refine g_rI fl_X10_322 dX10_loudest_22 h (fun x20 h => ?_)
  refine g_icmp_ge (tgt := 85) dX10_loudest_25 (by decide) (fun c21 => ?_) (fun c21 => ?_)
  · rw [if_pos c21] at h
    refine g_iconst (v := (-1)) dX10_loudest_85 (by decide) ?_
    refine g_istore_n (lv' := [(1, .int (-1)), (0, .ref l0)]) dX10_loudest_86 rfl (by decide) rfl ?_
    refine g_iconst (v := 0) dX10_loudest_87 (by decide) ?_
    refine g_istore_n (lv' := [(2, .int 0), (1, .int (-1)), (0, .ref l0)]) dX10_loudest_88 rfl (by decide) rfl ?_
    refine g_iconst (v := 0) dX10_loudest_89 (by decide) ?_
    refine g_istore_n (lv' := [(3, .int 0), (2, .int 0), (1, .int (-1)), (0, .ref l0)]) dX10_loudest_90 rfl (by decide) rfl ?_
    refine G.lsub [3, 2, 1, 0] rfl ?_
    exact ok_L_X10_loudest_91 Θ 5000 l0 (-1) 0 0 _ _ r h
  · rw [if_neg c21] at h
    refine g_aload_n dX10_loudest_28 rfl 0 rfl ?_
    refine g_rA fl_X10_48 dX10_loudest_29 h (fun a22 h => ?_)
    refine g_iload_n dX10_loudest_32 rfl 1 rfl ?_
    refine g_cI (ci := 0) (As := [.int l1]) mv_X10_325 dX10_loudest_33 rfl (ok_X0_waits Θ a22 l1 _ _) rfl rfl (Nat.le_of_ble_eq_true rfl) (by decide) (by decide) (by decide) h (fun x23 ω n h => ?_)
    refine G.less (B' := (0, 0)) (by decide) (by decide) ?_
    refine g_if_eq (tgt := 79) dX10_loudest_36 (by decide) (fun c24 => ?_) (fun c24 => ?_)
    · rw [if_pos c24] at h
      exact ok_J_X10_loudest_79 Θ k_17 hk_17 l0 l1 _ _ r h
    · rw [if_neg c24] at h
      refine g_aload_n dX10_loudest_39 rfl 0 rfl ?_
      refine g_rA fl_X10_100 dX10_loudest_40 h (fun a25 h => ?_)
      refine g_iload_n dX10_loudest_43 rfl 1 rfl ?_
      refine g_cV (ci := 9) (As := [.int l1]) mv_X10_306 dX10_loudest_44 rfl (ok_X9_countOf Θ a25 l1 _ _) rfl rfl (Nat.le_of_ble_eq_true rfl) (by decide) (by decide) (by decide) h (fun ω n h => ?_)
      refine G.less (B' := (0, 0)) (by decide) (by decide) ?_
      refine g_iconst (v := 0) dX10_loudest_47 (by decide) ?_
      refine g_istore_n (lv' := [(2, .int 0), (0, .ref l0), (1, .int l1)]) dX10_loudest_48 rfl (by decide) rfl ?_
      refine G.lsub [1, 2, 0] rfl ?_
      exact ok_L_X10_loudest_49 Θ k_17 hk_17 5000 l0 l1 0 _ _ r h
theorem ok_L_X10_loudest_17 (Θ : GP) : ∀ (f : Nat) (l0 : Nat) (l1 : Int32) (ω : OW) (n : Nat) (r : Out), L_X10_loudest_17 Θ f l0 l1 ω n = some r → GR Θ yX10_loudest cX10_loudest 5 (some .int) 5 (0, 0) 17 [(0, .ref l0), (1, .int l1)] [] ω n r := by
  intro f
  induction f with
  | zero =>
    intro l0 l1 ω n r h
    unfold L_X10_loudest_17 at h
    cases h
  | succ f ih =>
    intro l0 l1 ω n r h
    unfold L_X10_loudest_17 at h
    exact ok_B_X10_loudest_17 Θ (L_X10_loudest_17 Θ f) ih l0 l1 ω n r h
theorem ok_X10_loudest (Θ : GP) (l0 : Nat) (ω : OW) (n : Nat) : Ok Θ 5 0 0 yX10_loudest cX10_loudest 5 (some .int) [.ref l0] ω n (F_X10_loudest Θ l0 ω n) := by
  refine Ok.of (by decide +kernel) (Nat.le_of_ble_eq_true rfl) (fun r h => ?_)
  unfold F_X10_loudest at h
  show GR Θ yX10_loudest cX10_loudest 5 (some .int) 5 (0, 0) 0 [(0, .ref l0)] [] ω n r
  refine g_aload_n dX10_loudest_0 rfl 0 rfl ?_
  refine g_rA fl_X10_88 dX10_loudest_1 h (fun a27 h => ?_)
  refine g_cV (ci := 6) (As := []) mv_X10_200 dX10_loudest_4 rfl (ok_X6_lay Θ a27 _ _) rfl rfl (Nat.le_of_ble_eq_true rfl) (by decide) (by decide) (by decide) h (fun ω n h => ?_)
  refine G.less (B' := (0, 0)) (by decide) (by decide) ?_
  refine g_aload_n dX10_loudest_7 rfl 0 rfl ?_
  refine g_rA fl_X10_27 dX10_loudest_8 h (fun a29 h => ?_)
  refine g_iconst (v := 0) dX10_loudest_11 (by decide) ?_
  refine g_sV (As := [.ref a29, .int 0]) ms_X10_380 dX10_loudest_12 (ok_J7_fill_53178 Θ a29 0 _ _) rfl rfl (Nat.le_of_ble_eq_true rfl) (by decide) (by decide) (by decide) h (fun ω n h => ?_)
  refine G.less (B' := (0, 0)) (by decide) (by decide) ?_
  refine g_iconst (v := 0) dX10_loudest_15 (by decide) ?_
  refine g_istore_n (lv' := [(1, .int 0), (0, .ref l0)]) dX10_loudest_16 rfl (by decide) rfl ?_
  refine G.lsub [1, 0] rfl ?_
  exact ok_L_X10_loudest_17 Θ 5000 l0 0 _ _ r h
def J_X10_needTrials_10 (Θ : GP) (ω : OW) (n : Nat) : RO := some (.inr ("java/lang/IllegalArgumentException", ω))
def F_X10_needTrials (Θ : GP) (l0 : Nat) (l1 : Int32) (ω : OW) (n : Nat) : RO := if l1 < 0 then (J_X10_needTrials_10 Θ ω n) else (if l1 ≤ 20 then (some (.inl (none, ω, n))) else (J_X10_needTrials_10 Θ ω n))
theorem ok_J_X10_needTrials_10 (Θ : GP) (ω : OW) (n : Nat) (r : Out) (h : J_X10_needTrials_10 Θ ω n = some r) : GR Θ yX10_needTrials cX10_needTrials 2 (none : Option Jvm.ClassFile.FieldType) 6 (1, 6) 10 [] [] ω n r := by
  unfold J_X10_needTrials_10 at h
  cases h
  exact g_throwW (q := 38) th_X10_125_129 rfl dX10_needTrials_10 dX10_needTrials_13 dX10_needTrials_14 dX10_needTrials_17 dX10_needTrials_20 rfl (by decide) (by decide) (by decide) (Nat.le_of_ble_eq_true rfl) (fun _ _ => rfl)
theorem ok_X10_needTrials (Θ : GP) (l0 : Nat) (l1 : Int32) (ω : OW) (n : Nat) : Ok Θ 6 1 6 yX10_needTrials cX10_needTrials 2 (none : Option Jvm.ClassFile.FieldType) [.ref l0, .int l1] ω n (F_X10_needTrials Θ l0 l1 ω n) := by
  refine Ok.of (by decide +kernel) (Nat.le_of_ble_eq_true rfl) (fun r h => ?_)
  unfold F_X10_needTrials at h
  show GR Θ yX10_needTrials cX10_needTrials 2 (none : Option Jvm.ClassFile.FieldType) 6 (1, 6) 0 [(0, .ref l0), (1, .int l1)] [] ω n r
  refine g_iload_n dX10_needTrials_0 rfl 1 rfl ?_
  refine g_if_lt (tgt := 10) dX10_needTrials_1 (by decide) (fun c1 => ?_) (fun c1 => ?_)
  · rw [if_pos c1] at h
    refine G.lsub [] rfl ?_
    exact ok_J_X10_needTrials_10 Θ _ _ r h
  · rw [if_neg c1] at h
    refine g_iload_n dX10_needTrials_4 rfl 1 rfl ?_
    refine g_bipush (v := 20) dX10_needTrials_5 (by decide) ?_
    refine g_icmp_le (tgt := 21) dX10_needTrials_7 (by decide) (fun c2 => ?_) (fun c2 => ?_)
    · rw [if_pos c2] at h
      cases h
      exact g_vret rfl dX10_needTrials_21 rfl
    · rw [if_neg c2] at h
      refine G.lsub [] rfl ?_
      exact ok_J_X10_needTrials_10 Θ _ _ r h
def J_X10_screamsOfTrials_88 (Θ : GP) (k_20 : Nat → Int32 → Int32 → Int32 → OW → Nat → RO) (k_29 : Nat → Int32 → Int32 → Int32 → Int32 → OW → Nat → RO) (l0 : Nat) (l1 : Int32) (l3 : Int32) (l4 : Int32) (l5 : Int32) (ω : OW) (n : Nat) : RO := k_29 l0 l1 l3 l4 (l5 + 1) ω n
def J_X10_screamsOfTrials_86 (Θ : GP) (k_20 : Nat → Int32 → Int32 → Int32 → OW → Nat → RO) (k_29 : Nat → Int32 → Int32 → Int32 → Int32 → OW → Nat → RO) (l0 : Nat) (l1 : Int32) (l4 : Int32) (l5 : Int32) (s0 : Int32) (s1 : Int32) (ω : OW) (n : Nat) : RO := J_X10_screamsOfTrials_88 Θ k_20 k_29 l0 l1 (s1 + s0) l4 l5 ω n
def B_X10_screamsOfTrials_29 (Θ : GP) (k_20 : Nat → Int32 → Int32 → Int32 → OW → Nat → RO) (k_29 : Nat → Int32 → Int32 → Int32 → Int32 → OW → Nat → RO) (l0 : Nat) (l1 : Int32) (l3 : Int32) (l4 : Int32) (l5 : Int32) (ω : OW) (n : Nat) : RO := rA ω l0 10 0 (fun a1 => rI ω a1 0 1 (fun x2 => if x2 ≤ l5 then (k_20 l0 l1 l3 (l4 + 1) ω n) else (rA ω l0 10 0 (fun a4 => cO ω a4 0 (kI (F_X0_waits Θ a4 l5 ω n) (fun x5 ω n => if x5 = 0 then (J_X10_screamsOfTrials_88 Θ k_20 k_29 l0 l1 l3 l4 l5 ω n) else (rA ω l0 10 8 (fun a7 => cO ω a7 6 (kV (F_X6_board Θ a7 l5 ω n) (fun ω n => rA ω l0 10 8 (fun a9 => cO ω a9 6 (kV (F_X6_byDraws Θ a9 ω n) (fun ω n => rA ω l0 10 8 (fun a11 => rI ω a11 6 8 (fun x12 => if x12 = (-1) then (J_X10_screamsOfTrials_86 Θ k_20 k_29 l0 l1 l4 l5 0 l3 ω n) else (J_X10_screamsOfTrials_86 Θ k_20 k_29 l0 l1 l4 l5 1 l3 ω n))))))))))))))))
def L_X10_screamsOfTrials_29 (Θ : GP) (k_20 : Nat → Int32 → Int32 → Int32 → OW → Nat → RO) : Nat → Nat → Int32 → Int32 → Int32 → Int32 → OW → Nat → RO
  | 0, _, _, _, _, _, _, _ => none
  | f + 1, l0, l1, l3, l4, l5, ω, n => B_X10_screamsOfTrials_29 Θ k_20 (L_X10_screamsOfTrials_29 Θ k_20 f) l0 l1 l3 l4 l5 ω n
def B_X10_screamsOfTrials_20 (Θ : GP) (k_20 : Nat → Int32 → Int32 → Int32 → OW → Nat → RO) (l0 : Nat) (l1 : Int32) (l3 : Int32) (l4 : Int32) (ω : OW) (n : Nat) : RO := if l1 ≤ l4 then (some (.inl (some (.int l3), ω, n))) else (L_X10_screamsOfTrials_29 Θ k_20 5000 l0 l1 l3 l4 0 ω n)
def L_X10_screamsOfTrials_20 (Θ : GP) : Nat → Nat → Int32 → Int32 → Int32 → OW → Nat → RO
  | 0, _, _, _, _, _, _ => none
  | f + 1, l0, l1, l3, l4, ω, n => B_X10_screamsOfTrials_20 Θ (L_X10_screamsOfTrials_20 Θ f) l0 l1 l3 l4 ω n
def F_X10_screamsOfTrials (Θ : GP) (l0 : Nat) (l1 : Int32) (l2 : Int32) (ω : OW) (n : Nat) : RO := rA ω l0 10 8 (fun a15 => cO ω a15 6 (kV (F_X6_lay Θ a15 ω n) (fun ω n => rA ω l0 10 8 (fun a17 => wF ω a17 6 7 (.int l2) (fun ω => L_X10_screamsOfTrials_20 Θ 5000 l0 l1 0 0 ω n)))))
theorem ok_J_X10_screamsOfTrials_88 (Θ : GP) (k_20 : Nat → Int32 → Int32 → Int32 → OW → Nat → RO) (k_29 : Nat → Int32 → Int32 → Int32 → Int32 → OW → Nat → RO) (hk_20 : ∀ l0 l1 l3 l4 ω n r, k_20 l0 l1 l3 l4 ω n = some r → GR Θ yX10_screamsOfTrials cX10_screamsOfTrials 6 (some .int) 6 (0, 0) 20 [(0, .ref l0), (1, .int l1), (3, .int l3), (4, .int l4)] [] ω n r) (hk_29 : ∀ l0 l1 l3 l4 l5 ω n r, k_29 l0 l1 l3 l4 l5 ω n = some r → GR Θ yX10_screamsOfTrials cX10_screamsOfTrials 6 (some .int) 6 (0, 0) 29 [(0, .ref l0), (1, .int l1), (3, .int l3), (4, .int l4), (5, .int l5)] [] ω n r) (l0 : Nat) (l1 : Int32) (l3 : Int32) (l4 : Int32) (l5 : Int32) (ω : OW) (n : Nat) (r : Out) (h : J_X10_screamsOfTrials_88 Θ k_20 k_29 l0 l1 l3 l4 l5 ω n = some r) : GR Θ yX10_screamsOfTrials cX10_screamsOfTrials 6 (some .int) 6 (0, 0) 88 [(0, .ref l0), (1, .int l1), (3, .int l3), (4, .int l4), (5, .int l5)] [] ω n r := by
  unfold J_X10_screamsOfTrials_88 at h
  refine g_iinc (j := 4) (v := l5 + 1) (lv' := [(5, .int (l5 + 1)), (0, .ref l0), (1, .int l1), (3, .int l3), (4, .int l4)]) dX10_screamsOfTrials_88 rfl rfl (by decide) rfl ?_
  refine g_goto (tgt := 29) dX10_screamsOfTrials_91 (by decide) ?_
  refine G.lsub [1, 2, 3, 4, 0] rfl ?_
  exact hk_29 l0 l1 l3 l4 (l5 + 1) _ _ r h
theorem ok_J_X10_screamsOfTrials_86 (Θ : GP) (k_20 : Nat → Int32 → Int32 → Int32 → OW → Nat → RO) (k_29 : Nat → Int32 → Int32 → Int32 → Int32 → OW → Nat → RO) (hk_20 : ∀ l0 l1 l3 l4 ω n r, k_20 l0 l1 l3 l4 ω n = some r → GR Θ yX10_screamsOfTrials cX10_screamsOfTrials 6 (some .int) 6 (0, 0) 20 [(0, .ref l0), (1, .int l1), (3, .int l3), (4, .int l4)] [] ω n r) (hk_29 : ∀ l0 l1 l3 l4 l5 ω n r, k_29 l0 l1 l3 l4 l5 ω n = some r → GR Θ yX10_screamsOfTrials cX10_screamsOfTrials 6 (some .int) 6 (0, 0) 29 [(0, .ref l0), (1, .int l1), (3, .int l3), (4, .int l4), (5, .int l5)] [] ω n r) (l0 : Nat) (l1 : Int32) (l4 : Int32) (l5 : Int32) (s0 : Int32) (s1 : Int32) (ω : OW) (n : Nat) (r : Out) (h : J_X10_screamsOfTrials_86 Θ k_20 k_29 l0 l1 l4 l5 s0 s1 ω n = some r) : GR Θ yX10_screamsOfTrials cX10_screamsOfTrials 6 (some .int) 6 (0, 0) 86 [(0, .ref l0), (1, .int l1), (4, .int l4), (5, .int l5)] [.int s0, .int s1] ω n r := by
  unfold J_X10_screamsOfTrials_86 at h
  refine g_iadd dX10_screamsOfTrials_86 ?_
  refine g_istore_n (lv' := [(3, .int (s1 + s0)), (0, .ref l0), (1, .int l1), (4, .int l4), (5, .int l5)]) dX10_screamsOfTrials_87 rfl (by decide) rfl ?_
  refine G.lsub [1, 2, 0, 3, 4] rfl ?_
  exact ok_J_X10_screamsOfTrials_88 Θ k_20 k_29 hk_20 hk_29 l0 l1 (s1 + s0) l4 l5 _ _ r h
theorem ok_B_X10_screamsOfTrials_29 (Θ : GP) (k_20 : Nat → Int32 → Int32 → Int32 → OW → Nat → RO) (k_29 : Nat → Int32 → Int32 → Int32 → Int32 → OW → Nat → RO) (hk_20 : ∀ l0 l1 l3 l4 ω n r, k_20 l0 l1 l3 l4 ω n = some r → GR Θ yX10_screamsOfTrials cX10_screamsOfTrials 6 (some .int) 6 (0, 0) 20 [(0, .ref l0), (1, .int l1), (3, .int l3), (4, .int l4)] [] ω n r) (hk_29 : ∀ l0 l1 l3 l4 l5 ω n r, k_29 l0 l1 l3 l4 l5 ω n = some r → GR Θ yX10_screamsOfTrials cX10_screamsOfTrials 6 (some .int) 6 (0, 0) 29 [(0, .ref l0), (1, .int l1), (3, .int l3), (4, .int l4), (5, .int l5)] [] ω n r) (l0 : Nat) (l1 : Int32) (l3 : Int32) (l4 : Int32) (l5 : Int32) (ω : OW) (n : Nat) (r : Out) (h : B_X10_screamsOfTrials_29 Θ k_20 k_29 l0 l1 l3 l4 l5 ω n = some r) : GR Θ yX10_screamsOfTrials cX10_screamsOfTrials 6 (some .int) 6 (0, 0) 29 [(0, .ref l0), (1, .int l1), (3, .int l3), (4, .int l4), (5, .int l5)] [] ω n r := by
  unfold B_X10_screamsOfTrials_29 at h
  refine g_iload dX10_screamsOfTrials_29 4 rfl ?_
  refine g_aload_n dX10_screamsOfTrials_31 rfl 0 rfl ?_
  refine g_rA fl_X10_48 dX10_screamsOfTrials_32 h (fun a1 h => ?_)
  refine g_rI fl_X10_322 dX10_screamsOfTrials_35 h (fun x2 h => ?_)
  refine g_icmp_ge (tgt := 94) dX10_screamsOfTrials_38 (by decide) (fun c3 => ?_) (fun c3 => ?_)
  · rw [if_pos c3] at h
    refine g_iinc (j := 3) (v := l4 + 1) (lv' := [(4, .int (l4 + 1)), (0, .ref l0), (1, .int l1), (3, .int l3), (5, .int l5)]) dX10_screamsOfTrials_94 rfl rfl (by decide) rfl ?_
    refine g_goto (tgt := 20) dX10_screamsOfTrials_97 (by decide) ?_
    refine G.lsub [1, 2, 3, 0] rfl ?_
    exact hk_20 l0 l1 l3 (l4 + 1) _ _ r h
  · rw [if_neg c3] at h
    refine g_aload_n dX10_screamsOfTrials_41 rfl 0 rfl ?_
    refine g_rA fl_X10_48 dX10_screamsOfTrials_42 h (fun a4 h => ?_)
    refine g_iload dX10_screamsOfTrials_45 4 rfl ?_
    refine g_cI (ci := 0) (As := [.int l5]) mv_X10_325 dX10_screamsOfTrials_47 rfl (ok_X0_waits Θ a4 l5 _ _) rfl rfl (Nat.le_of_ble_eq_true rfl) (by decide) (by decide) (by decide) h (fun x5 ω n h => ?_)
    refine G.less (B' := (0, 0)) (by decide) (by decide) ?_
    refine g_if_eq (tgt := 88) dX10_screamsOfTrials_50 (by decide) (fun c6 => ?_) (fun c6 => ?_)
    · rw [if_pos c6] at h
      exact ok_J_X10_screamsOfTrials_88 Θ k_20 k_29 hk_20 hk_29 l0 l1 l3 l4 l5 _ _ r h
    · rw [if_neg c6] at h
      refine g_aload_n dX10_screamsOfTrials_53 rfl 0 rfl ?_
      refine g_rA fl_X10_88 dX10_screamsOfTrials_54 h (fun a7 h => ?_)
      refine g_iload dX10_screamsOfTrials_57 4 rfl ?_
      refine g_cV (ci := 6) (As := [.int l5]) mv_X10_203 dX10_screamsOfTrials_59 rfl (ok_X6_board Θ a7 l5 _ _) rfl rfl (Nat.le_of_ble_eq_true rfl) (by decide) (by decide) (by decide) h (fun ω n h => ?_)
      refine G.less (B' := (0, 0)) (by decide) (by decide) ?_
      refine g_aload_n dX10_screamsOfTrials_62 rfl 0 rfl ?_
      refine g_rA fl_X10_88 dX10_screamsOfTrials_63 h (fun a9 h => ?_)
      refine g_cV (ci := 6) (As := []) mv_X10_228 dX10_screamsOfTrials_66 rfl (ok_X6_byDraws Θ a9 _ _) rfl rfl (Nat.le_of_ble_eq_true rfl) (by decide) (by decide) (by decide) h (fun ω n h => ?_)
      refine G.less (B' := (0, 0)) (by decide) (by decide) ?_
      refine g_iload_n dX10_screamsOfTrials_69 rfl 2 rfl ?_
      refine g_aload_n dX10_screamsOfTrials_70 rfl 0 rfl ?_
      refine g_rA fl_X10_88 dX10_screamsOfTrials_71 h (fun a11 h => ?_)
      refine g_rI fl_X10_243 dX10_screamsOfTrials_74 h (fun x12 h => ?_)
      refine g_iconst (v := (-1)) dX10_screamsOfTrials_77 (by decide) ?_
      refine g_icmp_eq (tgt := 85) dX10_screamsOfTrials_78 (by decide) (fun c13 => ?_) (fun c13 => ?_)
      · rw [if_pos c13] at h
        refine g_iconst (v := 0) dX10_screamsOfTrials_85 (by decide) ?_
        refine G.lsub [0, 1, 3, 4] rfl ?_
        exact ok_J_X10_screamsOfTrials_86 Θ k_20 k_29 hk_20 hk_29 l0 l1 l4 l5 0 l3 _ _ r h
      · rw [if_neg c13] at h
        refine g_iconst (v := 1) dX10_screamsOfTrials_81 (by decide) ?_
        refine g_goto (tgt := 86) dX10_screamsOfTrials_82 (by decide) ?_
        refine G.lsub [0, 1, 3, 4] rfl ?_
        exact ok_J_X10_screamsOfTrials_86 Θ k_20 k_29 hk_20 hk_29 l0 l1 l4 l5 1 l3 _ _ r h
theorem ok_L_X10_screamsOfTrials_29 (Θ : GP) (k_20 : Nat → Int32 → Int32 → Int32 → OW → Nat → RO) (hk_20 : ∀ l0 l1 l3 l4 ω n r, k_20 l0 l1 l3 l4 ω n = some r → GR Θ yX10_screamsOfTrials cX10_screamsOfTrials 6 (some .int) 6 (0, 0) 20 [(0, .ref l0), (1, .int l1), (3, .int l3), (4, .int l4)] [] ω n r) : ∀ (f : Nat) (l0 : Nat) (l1 : Int32) (l3 : Int32) (l4 : Int32) (l5 : Int32) (ω : OW) (n : Nat) (r : Out), L_X10_screamsOfTrials_29 Θ k_20 f l0 l1 l3 l4 l5 ω n = some r → GR Θ yX10_screamsOfTrials cX10_screamsOfTrials 6 (some .int) 6 (0, 0) 29 [(0, .ref l0), (1, .int l1), (3, .int l3), (4, .int l4), (5, .int l5)] [] ω n r := by
  intro f
  induction f with
  | zero =>
    intro l0 l1 l3 l4 l5 ω n r h
    unfold L_X10_screamsOfTrials_29 at h
    cases h
  | succ f ih =>
    intro l0 l1 l3 l4 l5 ω n r h
    unfold L_X10_screamsOfTrials_29 at h
    exact ok_B_X10_screamsOfTrials_29 Θ k_20 (L_X10_screamsOfTrials_29 Θ k_20 f) hk_20 ih l0 l1 l3 l4 l5 ω n r h
theorem ok_B_X10_screamsOfTrials_20 (Θ : GP) (k_20 : Nat → Int32 → Int32 → Int32 → OW → Nat → RO) (hk_20 : ∀ l0 l1 l3 l4 ω n r, k_20 l0 l1 l3 l4 ω n = some r → GR Θ yX10_screamsOfTrials cX10_screamsOfTrials 6 (some .int) 6 (0, 0) 20 [(0, .ref l0), (1, .int l1), (3, .int l3), (4, .int l4)] [] ω n r) (l0 : Nat) (l1 : Int32) (l3 : Int32) (l4 : Int32) (ω : OW) (n : Nat) (r : Out) (h : B_X10_screamsOfTrials_20 Θ k_20 l0 l1 l3 l4 ω n = some r) : GR Θ yX10_screamsOfTrials cX10_screamsOfTrials 6 (some .int) 6 (0, 0) 20 [(0, .ref l0), (1, .int l1), (3, .int l3), (4, .int l4)] [] ω n r := by
  unfold B_X10_screamsOfTrials_20 at h
  refine g_iload dX10_screamsOfTrials_20 3 rfl ?_
  refine g_iload_n dX10_screamsOfTrials_22 rfl 1 rfl ?_
  refine g_icmp_ge (tgt := 100) dX10_screamsOfTrials_23 (by decide) (fun c14 => ?_) (fun c14 => ?_)
  · rw [if_pos c14] at h
    refine g_iload_n dX10_screamsOfTrials_100 rfl 2 rfl ?_
    cases h
    exact g_iret rfl dX10_screamsOfTrials_101 rfl
  · rw [if_neg c14] at h
    refine g_iconst (v := 0) dX10_screamsOfTrials_26 (by decide) ?_
    refine g_istore (lv' := [(5, .int 0), (0, .ref l0), (1, .int l1), (3, .int l3), (4, .int l4)]) dX10_screamsOfTrials_27 (by decide) rfl ?_
    refine G.lsub [1, 2, 3, 4, 0] rfl ?_
    exact ok_L_X10_screamsOfTrials_29 Θ k_20 hk_20 5000 l0 l1 l3 l4 0 _ _ r h
theorem ok_L_X10_screamsOfTrials_20 (Θ : GP) : ∀ (f : Nat) (l0 : Nat) (l1 : Int32) (l3 : Int32) (l4 : Int32) (ω : OW) (n : Nat) (r : Out), L_X10_screamsOfTrials_20 Θ f l0 l1 l3 l4 ω n = some r → GR Θ yX10_screamsOfTrials cX10_screamsOfTrials 6 (some .int) 6 (0, 0) 20 [(0, .ref l0), (1, .int l1), (3, .int l3), (4, .int l4)] [] ω n r := by
  intro f
  induction f with
  | zero =>
    intro l0 l1 l3 l4 ω n r h
    unfold L_X10_screamsOfTrials_20 at h
    cases h
  | succ f ih =>
    intro l0 l1 l3 l4 ω n r h
    unfold L_X10_screamsOfTrials_20 at h
    exact ok_B_X10_screamsOfTrials_20 Θ (L_X10_screamsOfTrials_20 Θ f) ih l0 l1 l3 l4 ω n r h
theorem ok_X10_screamsOfTrials (Θ : GP) (l0 : Nat) (l1 : Int32) (l2 : Int32) (ω : OW) (n : Nat) : Ok Θ 6 0 0 yX10_screamsOfTrials cX10_screamsOfTrials 6 (some .int) [.ref l0, .int l1, .int l2] ω n (F_X10_screamsOfTrials Θ l0 l1 l2 ω n) := by
  refine Ok.of (by decide +kernel) (Nat.le_of_ble_eq_true rfl) (fun r h => ?_)
  unfold F_X10_screamsOfTrials at h
  show GR Θ yX10_screamsOfTrials cX10_screamsOfTrials 6 (some .int) 6 (0, 0) 0 [(0, .ref l0), (1, .int l1), (2, .int l2)] [] ω n r
  refine g_aload_n dX10_screamsOfTrials_0 rfl 0 rfl ?_
  refine g_rA fl_X10_88 dX10_screamsOfTrials_1 h (fun a15 h => ?_)
  refine g_cV (ci := 6) (As := []) mv_X10_200 dX10_screamsOfTrials_4 rfl (ok_X6_lay Θ a15 _ _) rfl rfl (Nat.le_of_ble_eq_true rfl) (by decide) (by decide) (by decide) h (fun ω n h => ?_)
  refine G.less (B' := (0, 0)) (by decide) (by decide) ?_
  refine g_aload_n dX10_screamsOfTrials_7 rfl 0 rfl ?_
  refine g_rA fl_X10_88 dX10_screamsOfTrials_8 h (fun a17 h => ?_)
  refine g_iload_n dX10_screamsOfTrials_11 rfl 2 rfl ?_
  refine g_wF fl_X10_227 dX10_screamsOfTrials_12 (rfl) rfl h (fun ω h => ?_)
  refine g_iconst (v := 0) dX10_screamsOfTrials_15 (by decide) ?_
  refine g_istore_n (lv' := [(3, .int 0), (0, .ref l0), (1, .int l1), (2, .int l2)]) dX10_screamsOfTrials_16 rfl (by decide) rfl ?_
  refine g_iconst (v := 0) dX10_screamsOfTrials_17 (by decide) ?_
  refine g_istore (lv' := [(4, .int 0), (3, .int 0), (0, .ref l0), (1, .int l1), (2, .int l2)]) dX10_screamsOfTrials_18 (by decide) rfl ?_
  refine G.lsub [2, 3, 1, 0] rfl ?_
  exact ok_L_X10_screamsOfTrials_20 Θ 5000 l0 l1 0 0 _ _ r h
def F_X10_trial (Θ : GP) (l0 : Nat) (l1 : Int32) (ω : OW) (n : Nat) : RO := cO ω l0 10 (kV (F_X10_needTrials Θ l0 l1 ω n) (fun ω n => rA ω l0 10 0 (fun a2 => rI ω a2 0 6 (fun x3 => cO ω l0 10 (kI (F_X10_screamsOfTrials Θ l0 l1 x3 ω n) (fun x4 ω n => some (.inl (some (.int x4), ω, n))))))))
theorem ok_X10_trial (Θ : GP) (l0 : Nat) (l1 : Int32) (ω : OW) (n : Nat) : Ok Θ 7 1 6 yX10_trial cX10_trial 2 (some .int) [.ref l0, .int l1] ω n (F_X10_trial Θ l0 l1 ω n) := by
  refine Ok.of (by decide +kernel) (Nat.le_of_ble_eq_true rfl) (fun r h => ?_)
  unfold F_X10_trial at h
  show GR Θ yX10_trial cX10_trial 2 (some .int) 7 (1, 6) 0 [(0, .ref l0), (1, .int l1)] [] ω n r
  refine g_aload_n dX10_trial_0 rfl 0 rfl ?_
  refine g_iload_n dX10_trial_1 rfl 1 rfl ?_
  refine g_cV (ci := 10) (As := [.int l1]) mv_X10_386 dX10_trial_2 rfl (ok_X10_needTrials Θ l0 l1 _ _) rfl rfl (Nat.le_of_ble_eq_true rfl) (by decide) (by decide) (by decide) h (fun ω n h => ?_)
  refine G.less (B' := (0, 0)) (by decide) (by decide) ?_
  refine g_aload_n dX10_trial_5 rfl 0 rfl ?_
  refine g_iload_n dX10_trial_6 rfl 1 rfl ?_
  refine g_aload_n dX10_trial_7 rfl 0 rfl ?_
  refine g_rA fl_X10_48 dX10_trial_8 h (fun a2 h => ?_)
  refine g_rI fl_X10_224 dX10_trial_11 h (fun x3 h => ?_)
  refine g_cI (ci := 10) (As := [.int l1, .int x3]) mv_X10_389 dX10_trial_14 rfl (ok_X10_screamsOfTrials Θ l0 l1 x3 _ _) rfl rfl (Nat.le_of_ble_eq_true rfl) (by decide) (by decide) (by decide) h (fun x4 ω n h => ?_)
  refine G.less (B' := (0, 0)) (by decide) (by decide) ?_
  cases h
  exact g_iret rfl dX10_trial_17 rfl
def J_X10_span_50 (Θ : GP) (k_15 : Nat → Int32 → Int32 → Int32 → Int32 → OW → Nat → RO) (l0 : Nat) (l1 : Int32) (l2 : Int32) (l4 : Int32) (s0 : Int32) (ω : OW) (n : Nat) : RO := k_15 l0 l1 l2 s0 (l4 + 1) ω n
def B_X10_span_15 (Θ : GP) (k_15 : Nat → Int32 → Int32 → Int32 → Int32 → OW → Nat → RO) (l0 : Nat) (l1 : Int32) (l2 : Int32) (l3 : Int32) (l4 : Int32) (ω : OW) (n : Nat) : RO := if 6 < l4 then (some (.inl (some (.int l3), ω, n))) else (cO ω l0 10 (kI (F_X10_screamsOfTrials Θ l0 l1 l4 ω n) (fun x2 ω n => if l2 = 0 then (J_X10_span_50 Θ k_15 l0 l1 l2 l4 (if x2 < l3 then x2 else l3) ω n) else (J_X10_span_50 Θ k_15 l0 l1 l2 l4 (if l3 < x2 then x2 else l3) ω n))))
def L_X10_span_15 (Θ : GP) : Nat → Nat → Int32 → Int32 → Int32 → Int32 → OW → Nat → RO
  | 0, _, _, _, _, _, _, _ => none
  | f + 1, l0, l1, l2, l3, l4, ω, n => B_X10_span_15 Θ (L_X10_span_15 Θ f) l0 l1 l2 l3 l4 ω n
def F_X10_span (Θ : GP) (l0 : Nat) (l1 : Int32) (l2 : Int32) (ω : OW) (n : Nat) : RO := cO ω l0 10 (kV (F_X10_needTrials Θ l0 l1 ω n) (fun ω n => cO ω l0 10 (kI (F_X10_screamsOfTrials Θ l0 l1 1 ω n) (fun x5 ω n => L_X10_span_15 Θ 5000 l0 l1 l2 x5 2 ω n))))
theorem ok_J_X10_span_50 (Θ : GP) (k_15 : Nat → Int32 → Int32 → Int32 → Int32 → OW → Nat → RO) (hk_15 : ∀ l0 l1 l2 l3 l4 ω n r, k_15 l0 l1 l2 l3 l4 ω n = some r → GR Θ yX10_span cX10_span 6 (some .int) 7 (0, 0) 15 [(0, .ref l0), (1, .int l1), (2, .int l2), (3, .int l3), (4, .int l4)] [] ω n r) (l0 : Nat) (l1 : Int32) (l2 : Int32) (l4 : Int32) (s0 : Int32) (ω : OW) (n : Nat) (r : Out) (h : J_X10_span_50 Θ k_15 l0 l1 l2 l4 s0 ω n = some r) : GR Θ yX10_span cX10_span 6 (some .int) 7 (0, 0) 50 [(0, .ref l0), (1, .int l1), (2, .int l2), (4, .int l4)] [.int s0] ω n r := by
  unfold J_X10_span_50 at h
  refine g_istore_n (lv' := [(3, .int s0), (0, .ref l0), (1, .int l1), (2, .int l2), (4, .int l4)]) dX10_span_50 rfl (by decide) rfl ?_
  refine g_iinc (j := 4) (v := l4 + 1) (lv' := [(4, .int (l4 + 1)), (3, .int s0), (0, .ref l0), (1, .int l1), (2, .int l2)]) dX10_span_51 rfl rfl (by decide) rfl ?_
  refine g_goto (tgt := 15) dX10_span_54 (by decide) ?_
  refine G.lsub [2, 3, 4, 1, 0] rfl ?_
  exact hk_15 l0 l1 l2 s0 (l4 + 1) _ _ r h
theorem ok_B_X10_span_15 (Θ : GP) (k_15 : Nat → Int32 → Int32 → Int32 → Int32 → OW → Nat → RO) (hk_15 : ∀ l0 l1 l2 l3 l4 ω n r, k_15 l0 l1 l2 l3 l4 ω n = some r → GR Θ yX10_span cX10_span 6 (some .int) 7 (0, 0) 15 [(0, .ref l0), (1, .int l1), (2, .int l2), (3, .int l3), (4, .int l4)] [] ω n r) (l0 : Nat) (l1 : Int32) (l2 : Int32) (l3 : Int32) (l4 : Int32) (ω : OW) (n : Nat) (r : Out) (h : B_X10_span_15 Θ k_15 l0 l1 l2 l3 l4 ω n = some r) : GR Θ yX10_span cX10_span 6 (some .int) 7 (0, 0) 15 [(0, .ref l0), (1, .int l1), (2, .int l2), (3, .int l3), (4, .int l4)] [] ω n r := by
  unfold B_X10_span_15 at h
  refine g_iload dX10_span_15 4 rfl ?_
  refine g_bipush (v := 6) dX10_span_17 (by decide) ?_
  refine g_icmp_gt (tgt := 57) dX10_span_19 (by decide) (fun c1 => ?_) (fun c1 => ?_)
  · rw [if_pos c1] at h
    refine g_iload_n dX10_span_57 rfl 3 rfl ?_
    cases h
    exact g_iret rfl dX10_span_58 rfl
  · rw [if_neg c1] at h
    refine g_aload_n dX10_span_22 rfl 0 rfl ?_
    refine g_iload_n dX10_span_23 rfl 1 rfl ?_
    refine g_iload dX10_span_24 4 rfl ?_
    refine g_cI (ci := 10) (As := [.int l1, .int l4]) mv_X10_389 dX10_span_26 rfl (ok_X10_screamsOfTrials Θ l0 l1 l4 _ _) rfl rfl (Nat.le_of_ble_eq_true rfl) (by decide) (by decide) (by decide) h (fun x2 ω n h => ?_)
    refine G.less (B' := (0, 0)) (by decide) (by decide) ?_
    refine g_istore (lv' := [(5, .int x2), (0, .ref l0), (1, .int l1), (2, .int l2), (3, .int l3), (4, .int l4)]) dX10_span_29 (by decide) rfl ?_
    refine g_iload_n dX10_span_31 rfl 3 rfl ?_
    refine g_if_eq (tgt := 44) dX10_span_32 (by decide) (fun c3 => ?_) (fun c3 => ?_)
    · rw [if_pos c3] at h
      refine g_iload_n dX10_span_44 rfl 4 rfl ?_
      refine g_iload dX10_span_45 0 rfl ?_
      refine g_min wd_1218 wd_617 wd_135 wd_618 dX10_span_47 (by decide) (Nat.le_of_ble_eq_true rfl) ?_
      refine G.lsub [1, 2, 3, 5] rfl ?_
      exact ok_J_X10_span_50 Θ k_15 hk_15 l0 l1 l2 l4 (if x2 < l3 then x2 else l3) _ _ r h
    · rw [if_neg c3] at h
      refine g_iload_n dX10_span_35 rfl 4 rfl ?_
      refine g_iload dX10_span_36 0 rfl ?_
      refine g_max wd_1219 wd_610 wd_135 wd_611 dX10_span_38 (by decide) (Nat.le_of_ble_eq_true rfl) ?_
      refine g_goto (tgt := 50) dX10_span_41 (by decide) ?_
      refine G.lsub [1, 2, 3, 5] rfl ?_
      exact ok_J_X10_span_50 Θ k_15 hk_15 l0 l1 l2 l4 (if l3 < x2 then x2 else l3) _ _ r h
theorem ok_L_X10_span_15 (Θ : GP) : ∀ (f : Nat) (l0 : Nat) (l1 : Int32) (l2 : Int32) (l3 : Int32) (l4 : Int32) (ω : OW) (n : Nat) (r : Out), L_X10_span_15 Θ f l0 l1 l2 l3 l4 ω n = some r → GR Θ yX10_span cX10_span 6 (some .int) 7 (0, 0) 15 [(0, .ref l0), (1, .int l1), (2, .int l2), (3, .int l3), (4, .int l4)] [] ω n r := by
  intro f
  induction f with
  | zero =>
    intro l0 l1 l2 l3 l4 ω n r h
    unfold L_X10_span_15 at h
    cases h
  | succ f ih =>
    intro l0 l1 l2 l3 l4 ω n r h
    unfold L_X10_span_15 at h
    exact ok_B_X10_span_15 Θ (L_X10_span_15 Θ f) ih l0 l1 l2 l3 l4 ω n r h
theorem ok_X10_span (Θ : GP) (l0 : Nat) (l1 : Int32) (l2 : Int32) (ω : OW) (n : Nat) : Ok Θ 7 1 6 yX10_span cX10_span 6 (some .int) [.ref l0, .int l1, .int l2] ω n (F_X10_span Θ l0 l1 l2 ω n) := by
  refine Ok.of (by decide +kernel) (Nat.le_of_ble_eq_true rfl) (fun r h => ?_)
  unfold F_X10_span at h
  show GR Θ yX10_span cX10_span 6 (some .int) 7 (1, 6) 0 [(0, .ref l0), (1, .int l1), (2, .int l2)] [] ω n r
  refine g_aload_n dX10_span_0 rfl 0 rfl ?_
  refine g_iload_n dX10_span_1 rfl 1 rfl ?_
  refine g_cV (ci := 10) (As := [.int l1]) mv_X10_386 dX10_span_2 rfl (ok_X10_needTrials Θ l0 l1 _ _) rfl rfl (Nat.le_of_ble_eq_true rfl) (by decide) (by decide) (by decide) h (fun ω n h => ?_)
  refine G.less (B' := (0, 0)) (by decide) (by decide) ?_
  refine g_aload_n dX10_span_5 rfl 0 rfl ?_
  refine g_iload_n dX10_span_6 rfl 1 rfl ?_
  refine g_iconst (v := 1) dX10_span_7 (by decide) ?_
  refine g_cI (ci := 10) (As := [.int l1, .int 1]) mv_X10_389 dX10_span_8 rfl (ok_X10_screamsOfTrials Θ l0 l1 1 _ _) rfl rfl (Nat.le_of_ble_eq_true rfl) (by decide) (by decide) (by decide) h (fun x5 ω n h => ?_)
  refine G.less (B' := (0, 0)) (by decide) (by decide) ?_
  refine g_istore_n (lv' := [(3, .int x5), (0, .ref l0), (1, .int l1), (2, .int l2)]) dX10_span_11 rfl (by decide) rfl ?_
  refine g_iconst (v := 2) dX10_span_12 (by decide) ?_
  refine g_istore (lv' := [(4, .int 2), (3, .int x5), (0, .ref l0), (1, .int l1), (2, .int l2)]) dX10_span_13 (by decide) rfl ?_
  refine G.lsub [2, 3, 4, 1, 0] rfl ?_
  exact ok_L_X10_span_15 Θ 5000 l0 l1 l2 x5 2 _ _ r h
def J_X10_led_82 (Θ : GP) (k_10 : Nat → Int32 → Int32 → Int32 → Int32 → OW → Nat → RO) (l0 : Nat) (l1 : Int32) (l2 : Int32) (l4 : Int32) (s0 : Int32) (s1 : Int32) (ω : OW) (n : Nat) : RO := k_10 l0 l1 l2 (s1 + s0) (l4 + 1) ω n
def J_X10_led_81 (Θ : GP) (k_10 : Nat → Int32 → Int32 → Int32 → Int32 → OW → Nat → RO) (l0 : Nat) (l1 : Int32) (l2 : Int32) (l4 : Int32) (s0 : Int32) (ω : OW) (n : Nat) : RO := J_X10_led_82 Θ k_10 l0 l1 l2 l4 0 s0 ω n
def J_X10_led_52 (Θ : GP) (k_10 : Nat → Int32 → Int32 → Int32 → Int32 → OW → Nat → RO) (l0 : Nat) (l1 : Int32) (l2 : Int32) (l3 : Int32) (l4 : Int32) (s0 : Int32) (ω : OW) (n : Nat) : RO := if s0 = 0 then (J_X10_led_81 Θ k_10 l0 l1 l2 l4 l3 ω n) else (rA ω l0 10 0 (fun a2 => rA ω a2 0 16 (fun a3 => cO ω a3 4 (kI (F_X4_cell Θ a3 l4 1 ω n) (fun x4 ω n => if x4 = l1 then (J_X10_led_82 Θ k_10 l0 l1 l2 l4 1 l3 ω n) else (J_X10_led_81 Θ k_10 l0 l1 l2 l4 l3 ω n))))))
def J_X10_led_47 (Θ : GP) (k_10 : Nat → Int32 → Int32 → Int32 → Int32 → OW → Nat → RO) (l0 : Nat) (l1 : Int32) (l2 : Int32) (l3 : Int32) (l4 : Int32) (ω : OW) (n : Nat) : RO := J_X10_led_52 Θ k_10 l0 l1 l2 l3 l4 1 ω n
def B_X10_led_10 (Θ : GP) (k_10 : Nat → Int32 → Int32 → Int32 → Int32 → OW → Nat → RO) (l0 : Nat) (l1 : Int32) (l2 : Int32) (l3 : Int32) (l4 : Int32) (ω : OW) (n : Nat) : RO := rA ω l0 10 0 (fun a6 => rA ω a6 0 16 (fun a7 => rI ω a7 4 0 (fun x8 => if x8 ≤ l4 then (some (.inl (some (.int l3), ω, n))) else (if l2 = 0 then (J_X10_led_47 Θ k_10 l0 l1 l2 l3 l4 ω n) else (rA ω l0 10 0 (fun a11 => rA ω a11 0 16 (fun a12 => cO ω a12 4 (kI (F_X4_cell Θ a12 l4 2 ω n) (fun x13 ω n => if 10 ≤ x13 then (J_X10_led_52 Θ k_10 l0 l1 l2 l3 l4 0 ω n) else (J_X10_led_47 Θ k_10 l0 l1 l2 l3 l4 ω n))))))))))
def L_X10_led_10 (Θ : GP) : Nat → Nat → Int32 → Int32 → Int32 → Int32 → OW → Nat → RO
  | 0, _, _, _, _, _, _, _ => none
  | f + 1, l0, l1, l2, l3, l4, ω, n => B_X10_led_10 Θ (L_X10_led_10 Θ f) l0 l1 l2 l3 l4 ω n
def F_X10_led (Θ : GP) (l0 : Nat) (l1 : Int32) (l2 : Int32) (ω : OW) (n : Nat) : RO := cO ω l0 10 (kV (F_X10_needOne Θ l0 l1 ω n) (fun ω n => L_X10_led_10 Θ 5000 l0 l1 l2 0 0 ω n))
theorem ok_J_X10_led_82 (Θ : GP) (k_10 : Nat → Int32 → Int32 → Int32 → Int32 → OW → Nat → RO) (hk_10 : ∀ l0 l1 l2 l3 l4 ω n r, k_10 l0 l1 l2 l3 l4 ω n = some r → GR Θ yX10_led cX10_led 6 (some .int) 7 (0, 0) 10 [(0, .ref l0), (1, .int l1), (2, .int l2), (3, .int l3), (4, .int l4)] [] ω n r) (l0 : Nat) (l1 : Int32) (l2 : Int32) (l4 : Int32) (s0 : Int32) (s1 : Int32) (ω : OW) (n : Nat) (r : Out) (h : J_X10_led_82 Θ k_10 l0 l1 l2 l4 s0 s1 ω n = some r) : GR Θ yX10_led cX10_led 6 (some .int) 7 (0, 0) 82 [(0, .ref l0), (1, .int l1), (2, .int l2), (4, .int l4)] [.int s0, .int s1] ω n r := by
  unfold J_X10_led_82 at h
  refine g_iadd dX10_led_82 ?_
  refine g_istore_n (lv' := [(3, .int (s1 + s0)), (0, .ref l0), (1, .int l1), (2, .int l2), (4, .int l4)]) dX10_led_83 rfl (by decide) rfl ?_
  refine g_iinc (j := 4) (v := l4 + 1) (lv' := [(4, .int (l4 + 1)), (3, .int (s1 + s0)), (0, .ref l0), (1, .int l1), (2, .int l2)]) dX10_led_84 rfl rfl (by decide) rfl ?_
  refine g_goto (tgt := 10) dX10_led_87 (by decide) ?_
  refine G.lsub [2, 3, 4, 1, 0] rfl ?_
  exact hk_10 l0 l1 l2 (s1 + s0) (l4 + 1) _ _ r h
theorem ok_J_X10_led_81 (Θ : GP) (k_10 : Nat → Int32 → Int32 → Int32 → Int32 → OW → Nat → RO) (hk_10 : ∀ l0 l1 l2 l3 l4 ω n r, k_10 l0 l1 l2 l3 l4 ω n = some r → GR Θ yX10_led cX10_led 6 (some .int) 7 (0, 0) 10 [(0, .ref l0), (1, .int l1), (2, .int l2), (3, .int l3), (4, .int l4)] [] ω n r) (l0 : Nat) (l1 : Int32) (l2 : Int32) (l4 : Int32) (s0 : Int32) (ω : OW) (n : Nat) (r : Out) (h : J_X10_led_81 Θ k_10 l0 l1 l2 l4 s0 ω n = some r) : GR Θ yX10_led cX10_led 6 (some .int) 7 (0, 0) 81 [(0, .ref l0), (1, .int l1), (2, .int l2), (4, .int l4)] [.int s0] ω n r := by
  unfold J_X10_led_81 at h
  refine g_iconst (v := 0) dX10_led_81 (by decide) ?_
  exact ok_J_X10_led_82 Θ k_10 hk_10 l0 l1 l2 l4 0 s0 _ _ r h
theorem ok_J_X10_led_52 (Θ : GP) (k_10 : Nat → Int32 → Int32 → Int32 → Int32 → OW → Nat → RO) (hk_10 : ∀ l0 l1 l2 l3 l4 ω n r, k_10 l0 l1 l2 l3 l4 ω n = some r → GR Θ yX10_led cX10_led 6 (some .int) 7 (0, 0) 10 [(0, .ref l0), (1, .int l1), (2, .int l2), (3, .int l3), (4, .int l4)] [] ω n r) (l0 : Nat) (l1 : Int32) (l2 : Int32) (l3 : Int32) (l4 : Int32) (s0 : Int32) (ω : OW) (n : Nat) (r : Out) (h : J_X10_led_52 Θ k_10 l0 l1 l2 l3 l4 s0 ω n = some r) : GR Θ yX10_led cX10_led 6 (some .int) 7 (0, 0) 52 [(0, .ref l0), (1, .int l1), (2, .int l2), (3, .int l3), (4, .int l4)] [.int s0] ω n r := by
  unfold J_X10_led_52 at h
  refine g_istore (lv' := [(5, .int s0), (0, .ref l0), (1, .int l1), (2, .int l2), (3, .int l3), (4, .int l4)]) dX10_led_52 (by decide) rfl ?_
  refine g_iload_n dX10_led_54 rfl 4 rfl ?_
  refine g_iload dX10_led_55 0 rfl ?_
  refine g_if_eq (tgt := 81) dX10_led_57 (by decide) (fun c1 => ?_) (fun c1 => ?_)
  · rw [if_pos c1] at h
    refine G.lsub [1, 2, 3, 5] rfl ?_
    exact ok_J_X10_led_81 Θ k_10 hk_10 l0 l1 l2 l4 l3 _ _ r h
  · rw [if_neg c1] at h
    refine g_aload_n dX10_led_60 rfl 1 rfl ?_
    refine g_rA fl_X10_48 dX10_led_61 h (fun a2 h => ?_)
    refine g_rA fl_X10_246 dX10_led_64 h (fun a3 h => ?_)
    refine g_iload dX10_led_67 5 rfl ?_
    refine g_iconst (v := 1) dX10_led_69 (by decide) ?_
    refine g_cI (ci := 4) (As := [.int l4, .int 1]) mv_X10_395 dX10_led_70 rfl (ok_X4_cell Θ a3 l4 1 _ _) rfl rfl (Nat.le_of_ble_eq_true rfl) (by decide) (by decide) (by decide) h (fun x4 ω n h => ?_)
    refine G.less (B' := (0, 0)) (by decide) (by decide) ?_
    refine g_iload_n dX10_led_73 rfl 2 rfl ?_
    refine g_icmp_ne (tgt := 81) dX10_led_74 (by decide) (fun c5 => ?_) (fun c5 => ?_)
    · rw [if_neg c5] at h
      refine G.lsub [1, 2, 3, 5] rfl ?_
      exact ok_J_X10_led_81 Θ k_10 hk_10 l0 l1 l2 l4 l3 _ _ r h
    · rw [if_pos c5] at h
      refine g_iconst (v := 1) dX10_led_77 (by decide) ?_
      refine g_goto (tgt := 82) dX10_led_78 (by decide) ?_
      refine G.lsub [1, 2, 3, 5] rfl ?_
      exact ok_J_X10_led_82 Θ k_10 hk_10 l0 l1 l2 l4 1 l3 _ _ r h
theorem ok_J_X10_led_47 (Θ : GP) (k_10 : Nat → Int32 → Int32 → Int32 → Int32 → OW → Nat → RO) (hk_10 : ∀ l0 l1 l2 l3 l4 ω n r, k_10 l0 l1 l2 l3 l4 ω n = some r → GR Θ yX10_led cX10_led 6 (some .int) 7 (0, 0) 10 [(0, .ref l0), (1, .int l1), (2, .int l2), (3, .int l3), (4, .int l4)] [] ω n r) (l0 : Nat) (l1 : Int32) (l2 : Int32) (l3 : Int32) (l4 : Int32) (ω : OW) (n : Nat) (r : Out) (h : J_X10_led_47 Θ k_10 l0 l1 l2 l3 l4 ω n = some r) : GR Θ yX10_led cX10_led 6 (some .int) 7 (0, 0) 47 [(0, .ref l0), (1, .int l1), (2, .int l2), (3, .int l3), (4, .int l4)] [] ω n r := by
  unfold J_X10_led_47 at h
  refine g_iconst (v := 1) dX10_led_47 (by decide) ?_
  refine g_goto (tgt := 52) dX10_led_48 (by decide) ?_
  exact ok_J_X10_led_52 Θ k_10 hk_10 l0 l1 l2 l3 l4 1 _ _ r h
theorem ok_B_X10_led_10 (Θ : GP) (k_10 : Nat → Int32 → Int32 → Int32 → Int32 → OW → Nat → RO) (hk_10 : ∀ l0 l1 l2 l3 l4 ω n r, k_10 l0 l1 l2 l3 l4 ω n = some r → GR Θ yX10_led cX10_led 6 (some .int) 7 (0, 0) 10 [(0, .ref l0), (1, .int l1), (2, .int l2), (3, .int l3), (4, .int l4)] [] ω n r) (l0 : Nat) (l1 : Int32) (l2 : Int32) (l3 : Int32) (l4 : Int32) (ω : OW) (n : Nat) (r : Out) (h : B_X10_led_10 Θ k_10 l0 l1 l2 l3 l4 ω n = some r) : GR Θ yX10_led cX10_led 6 (some .int) 7 (0, 0) 10 [(0, .ref l0), (1, .int l1), (2, .int l2), (3, .int l3), (4, .int l4)] [] ω n r := by
  unfold B_X10_led_10 at h
  refine g_iload dX10_led_10 4 rfl ?_
  refine g_aload_n dX10_led_12 rfl 0 rfl ?_
  refine g_rA fl_X10_48 dX10_led_13 h (fun a6 h => ?_)
  refine g_rA fl_X10_246 dX10_led_16 h (fun a7 h => ?_)
  refine g_rI fl_X10_392 dX10_led_19 h (fun x8 h => ?_)
  refine g_icmp_ge (tgt := 90) dX10_led_22 (by decide) (fun c9 => ?_) (fun c9 => ?_)
  · rw [if_pos c9] at h
    refine g_iload_n dX10_led_90 rfl 3 rfl ?_
    cases h
    exact g_iret rfl dX10_led_91 rfl
  · rw [if_neg c9] at h
    refine g_iload_n dX10_led_25 rfl 2 rfl ?_
    refine g_if_eq (tgt := 47) dX10_led_26 (by decide) (fun c10 => ?_) (fun c10 => ?_)
    · rw [if_pos c10] at h
      exact ok_J_X10_led_47 Θ k_10 hk_10 l0 l1 l2 l3 l4 _ _ r h
    · rw [if_neg c10] at h
      refine g_aload_n dX10_led_29 rfl 0 rfl ?_
      refine g_rA fl_X10_48 dX10_led_30 h (fun a11 h => ?_)
      refine g_rA fl_X10_246 dX10_led_33 h (fun a12 h => ?_)
      refine g_iload dX10_led_36 4 rfl ?_
      refine g_iconst (v := 2) dX10_led_38 (by decide) ?_
      refine g_cI (ci := 4) (As := [.int l4, .int 2]) mv_X10_395 dX10_led_39 rfl (ok_X4_cell Θ a12 l4 2 _ _) rfl rfl (Nat.le_of_ble_eq_true rfl) (by decide) (by decide) (by decide) h (fun x13 ω n h => ?_)
      refine G.less (B' := (0, 0)) (by decide) (by decide) ?_
      refine g_bipush (v := 10) dX10_led_42 (by decide) ?_
      refine g_icmp_ge (tgt := 51) dX10_led_44 (by decide) (fun c14 => ?_) (fun c14 => ?_)
      · rw [if_pos c14] at h
        refine g_iconst (v := 0) dX10_led_51 (by decide) ?_
        exact ok_J_X10_led_52 Θ k_10 hk_10 l0 l1 l2 l3 l4 0 _ _ r h
      · rw [if_neg c14] at h
        exact ok_J_X10_led_47 Θ k_10 hk_10 l0 l1 l2 l3 l4 _ _ r h
theorem ok_L_X10_led_10 (Θ : GP) : ∀ (f : Nat) (l0 : Nat) (l1 : Int32) (l2 : Int32) (l3 : Int32) (l4 : Int32) (ω : OW) (n : Nat) (r : Out), L_X10_led_10 Θ f l0 l1 l2 l3 l4 ω n = some r → GR Θ yX10_led cX10_led 6 (some .int) 7 (0, 0) 10 [(0, .ref l0), (1, .int l1), (2, .int l2), (3, .int l3), (4, .int l4)] [] ω n r := by
  intro f
  induction f with
  | zero =>
    intro l0 l1 l2 l3 l4 ω n r h
    unfold L_X10_led_10 at h
    cases h
  | succ f ih =>
    intro l0 l1 l2 l3 l4 ω n r h
    unfold L_X10_led_10 at h
    exact ok_B_X10_led_10 Θ (L_X10_led_10 Θ f) ih l0 l1 l2 l3 l4 ω n r h
theorem ok_X10_led (Θ : GP) (l0 : Nat) (l1 : Int32) (l2 : Int32) (ω : OW) (n : Nat) : Ok Θ 7 1 6 yX10_led cX10_led 6 (some .int) [.ref l0, .int l1, .int l2] ω n (F_X10_led Θ l0 l1 l2 ω n) := by
  refine Ok.of (by decide +kernel) (Nat.le_of_ble_eq_true rfl) (fun r h => ?_)
  unfold F_X10_led at h
  show GR Θ yX10_led cX10_led 6 (some .int) 7 (1, 6) 0 [(0, .ref l0), (1, .int l1), (2, .int l2)] [] ω n r
  refine g_aload_n dX10_led_0 rfl 0 rfl ?_
  refine g_iload_n dX10_led_1 rfl 1 rfl ?_
  refine g_cV (ci := 10) (As := [.int l1]) mv_X10_181 dX10_led_2 rfl (ok_X10_needOne Θ l0 l1 _ _) rfl rfl (Nat.le_of_ble_eq_true rfl) (by decide) (by decide) (by decide) h (fun ω n h => ?_)
  refine G.less (B' := (0, 0)) (by decide) (by decide) ?_
  refine g_iconst (v := 0) dX10_led_5 (by decide) ?_
  refine g_istore_n (lv' := [(3, .int 0), (0, .ref l0), (1, .int l1), (2, .int l2)]) dX10_led_6 rfl (by decide) rfl ?_
  refine g_iconst (v := 0) dX10_led_7 (by decide) ?_
  refine g_istore (lv' := [(4, .int 0), (3, .int 0), (0, .ref l0), (1, .int l1), (2, .int l2)]) dX10_led_8 (by decide) rfl ?_
  refine G.lsub [2, 3, 4, 1, 0] rfl ?_
  exact ok_L_X10_led_10 Θ 5000 l0 l1 l2 0 0 _ _ r h
def J_X10_log_9 (Θ : GP) (ω : OW) (n : Nat) : RO := some (.inr (nsN, ω))
def F_X10_log (Θ : GP) (l0 : Nat) (l1 : Int32) (l2 : Int32) (ω : OW) (n : Nat) : RO := if l2 < 0 then (J_X10_log_9 Θ ω n) else (if l2 < 4 then (rA ω l0 10 0 (fun a3 => rA ω a3 0 16 (fun a4 => cO ω a4 4 (kI (F_X4_cell Θ a4 l1 l2 ω n) (fun x5 ω n => some (.inl (some (.int x5), ω, n))))))) else (J_X10_log_9 Θ ω n))
theorem ok_J_X10_log_9 (Θ : GP) (ω : OW) (n : Nat) (r : Out) (h : J_X10_log_9 Θ ω n = some r) : GR Θ yX10_log cX10_log 3 (some .int) 6 (1, 6) 9 [] [] ω n r := by
  unfold J_X10_log_9 at h
  cases h
  exact g_throwNS (q := 33) rfl rfl 3 dX10_log_9 dX10_log_12 (Or.inr ⟨dX10_log_13, rfl⟩) dX10_log_16 dX10_log_19 rfl (by decide) (by decide) (by decide) (Nat.le_of_ble_eq_true rfl) (fun _ _ => rfl)
theorem ok_X10_log (Θ : GP) (l0 : Nat) (l1 : Int32) (l2 : Int32) (ω : OW) (n : Nat) : Ok Θ 6 1 6 yX10_log cX10_log 3 (some .int) [.ref l0, .int l1, .int l2] ω n (F_X10_log Θ l0 l1 l2 ω n) := by
  refine Ok.of (by decide +kernel) (Nat.le_of_ble_eq_true rfl) (fun r h => ?_)
  unfold F_X10_log at h
  show GR Θ yX10_log cX10_log 3 (some .int) 6 (1, 6) 0 [(0, .ref l0), (1, .int l1), (2, .int l2)] [] ω n r
  refine g_iload_n dX10_log_0 rfl 2 rfl ?_
  refine g_if_lt (tgt := 9) dX10_log_1 (by decide) (fun c1 => ?_) (fun c1 => ?_)
  · rw [if_pos c1] at h
    refine G.lsub [] rfl ?_
    exact ok_J_X10_log_9 Θ _ _ r h
  · rw [if_neg c1] at h
    refine g_iload_n dX10_log_4 rfl 2 rfl ?_
    refine g_iconst (v := 4) dX10_log_5 (by decide) ?_
    refine g_icmp_lt (tgt := 20) dX10_log_6 (by decide) (fun c2 => ?_) (fun c2 => ?_)
    · rw [if_pos c2] at h
      refine g_aload_n dX10_log_20 rfl 0 rfl ?_
      refine g_rA fl_X10_48 dX10_log_21 h (fun a3 h => ?_)
      refine g_rA fl_X10_246 dX10_log_24 h (fun a4 h => ?_)
      refine g_iload_n dX10_log_27 rfl 1 rfl ?_
      refine g_iload_n dX10_log_28 rfl 2 rfl ?_
      refine g_cI (ci := 4) (As := [.int l1, .int l2]) mv_X10_395 dX10_log_29 rfl (ok_X4_cell Θ a4 l1 l2 _ _) rfl rfl (Nat.le_of_ble_eq_true rfl) (by decide) (by decide) (by decide) h (fun x5 ω n h => ?_)
      refine G.less (B' := (1, 6)) (by decide) (by decide) ?_
      cases h
      exact g_iret rfl dX10_log_32 rfl
    · rw [if_neg c2] at h
      refine G.lsub [] rfl ?_
      exact ok_J_X10_log_9 Θ _ _ r h
def F_X10_seed (Θ : GP) (l0 : Nat) (l1 : Int32) (ω : OW) (n : Nat) : RO := rA ω l0 10 0 (fun a1 => rI ω a1 0 6 (fun x2 => rA ω l0 10 0 (fun a3 => wF ω a3 0 6 (.int l1) (fun ω => some (.inl (some (.int x2), ω, n))))))
theorem ok_X10_seed (Θ : GP) (l0 : Nat) (l1 : Int32) (ω : OW) (n : Nat) : Ok Θ 1 0 0 yX10_seed cX10_seed 3 (some .int) [.ref l0, .int l1] ω n (F_X10_seed Θ l0 l1 ω n) := by
  refine Ok.of (by decide +kernel) (Nat.le_of_ble_eq_true rfl) (fun r h => ?_)
  unfold F_X10_seed at h
  show GR Θ yX10_seed cX10_seed 3 (some .int) 1 (0, 0) 0 [(0, .ref l0), (1, .int l1)] [] ω n r
  refine g_aload_n dX10_seed_0 rfl 0 rfl ?_
  refine g_rA fl_X10_48 dX10_seed_1 h (fun a1 h => ?_)
  refine g_rI fl_X10_224 dX10_seed_4 h (fun x2 h => ?_)
  refine g_istore_n (lv' := [(2, .int x2), (0, .ref l0), (1, .int l1)]) dX10_seed_7 rfl (by decide) rfl ?_
  refine g_aload_n dX10_seed_8 rfl 1 rfl ?_
  refine g_rA fl_X10_48 dX10_seed_9 h (fun a3 h => ?_)
  refine g_iload_n dX10_seed_12 rfl 2 rfl ?_
  refine g_wF fl_X10_224 dX10_seed_13 (rfl) rfl h (fun ω h => ?_)
  refine g_iload_n dX10_seed_16 rfl 0 rfl ?_
  cases h
  exact g_iret rfl dX10_seed_17 rfl
def F_X10_undo (Θ : GP) (l0 : Nat) (ω : OW) (n : Nat) : RO := rA ω l0 10 4 (fun a1 => rA ω l0 10 0 (fun a2 => cO ω a1 5 (kI (F_X5_takeBack Θ a1 a2 ω n) (fun x3 ω n => bz x3 (some (.inl (some (.int x3), ω, n)))))))
theorem ok_X10_undo (Θ : GP) (l0 : Nat) (ω : OW) (n : Nat) : Ok Θ 4 0 0 yX10_undo cX10_undo 1 (some .boolean) [.ref l0] ω n (F_X10_undo Θ l0 ω n) := by
  refine Ok.of (by decide +kernel) (Nat.le_of_ble_eq_true rfl) (fun r h => ?_)
  unfold F_X10_undo at h
  show GR Θ yX10_undo cX10_undo 1 (some .boolean) 4 (0, 0) 0 [(0, .ref l0)] [] ω n r
  refine g_aload_n dX10_undo_0 rfl 0 rfl ?_
  refine g_rA fl_X10_61 dX10_undo_1 h (fun a1 h => ?_)
  refine g_aload_n dX10_undo_4 rfl 0 rfl ?_
  refine g_rA fl_X10_48 dX10_undo_5 h (fun a2 h => ?_)
  refine g_cI (ci := 5) (As := [.ref a2]) mv_X10_400 dX10_undo_8 rfl (ok_X5_takeBack Θ a1 a2 _ _) rfl rfl (Nat.le_of_ble_eq_true rfl) (by decide) (by decide) (by decide) h (fun x3 ω n h => ?_)
  refine G.less (B' := (0, 0)) (by decide) (by decide) ?_
  obtain ⟨z4, h⟩ := bz_inv h
  cases h
  exact g_zret rfl z4 dX10_undo_11 rfl
def F_X10_image (Θ : GP) (l0 : Nat) (ω : OW) (n : Nat) : RO := rA ω l0 10 2 (fun a1 => rA ω l0 10 0 (fun a2 => cO ω a1 0 (kV (F_X0_become Θ a1 a2 ω n) (fun ω n => wF ω l0 10 3 (.int 1) (fun ω => some (.inl (none, ω, n)))))))
theorem ok_X10_image (Θ : GP) (l0 : Nat) (ω : OW) (n : Nat) : Ok Θ 3 0 0 yX10_image cX10_image 1 (none : Option Jvm.ClassFile.FieldType) [.ref l0] ω n (F_X10_image Θ l0 ω n) := by
  refine Ok.of (by decide +kernel) (Nat.le_of_ble_eq_true rfl) (fun r h => ?_)
  unfold F_X10_image at h
  show GR Θ yX10_image cX10_image 1 (none : Option Jvm.ClassFile.FieldType) 3 (0, 0) 0 [(0, .ref l0)] [] ω n r
  refine g_aload_n dX10_image_0 rfl 0 rfl ?_
  refine g_rA fl_X10_55 dX10_image_1 h (fun a1 h => ?_)
  refine g_aload_n dX10_image_4 rfl 0 rfl ?_
  refine g_rA fl_X10_48 dX10_image_5 h (fun a2 h => ?_)
  refine g_cV (ci := 0) (As := [.ref a2]) mv_X10_115 dX10_image_8 rfl (ok_X0_become Θ a1 a2 _ _) rfl rfl (Nat.le_of_ble_eq_true rfl) (by decide) (by decide) (by decide) h (fun ω n h => ?_)
  refine G.less (B' := (0, 0)) (by decide) (by decide) ?_
  refine g_aload_n dX10_image_11 rfl 0 rfl ?_
  refine g_iconst (v := 1) dX10_image_12 (by decide) ?_
  refine g_wF fl_X10_7 dX10_image_13 (rfl) rfl h (fun ω h => ?_)
  cases h
  exact g_vret rfl dX10_image_16 rfl
def F_X10_back (Θ : GP) (l0 : Nat) (ω : OW) (n : Nat) : RO := rI ω l0 10 3 (fun x1 => if x1 = 0 then (some (.inl (some (.int 0), ω, n))) else (rA ω l0 10 0 (fun a3 => rA ω l0 10 2 (fun a4 => cO ω a3 0 (kV (F_X0_become Θ a3 a4 ω n) (fun ω n => rA ω l0 10 4 (fun a6 => cO ω a6 5 (kV (F_X5_forget Θ a6 ω n) (fun ω n => some (.inl (some (.int 1), ω, n)))))))))))
theorem ok_X10_back (Θ : GP) (l0 : Nat) (ω : OW) (n : Nat) : Ok Θ 3 0 0 yX10_back cX10_back 1 (some .boolean) [.ref l0] ω n (F_X10_back Θ l0 ω n) := by
  refine Ok.of (by decide +kernel) (Nat.le_of_ble_eq_true rfl) (fun r h => ?_)
  unfold F_X10_back at h
  show GR Θ yX10_back cX10_back 1 (some .boolean) 3 (0, 0) 0 [(0, .ref l0)] [] ω n r
  refine g_aload_n dX10_back_0 rfl 0 rfl ?_
  refine g_rI fl_X10_7 dX10_back_1 h (fun x1 h => ?_)
  refine g_if_ne (tgt := 9) dX10_back_4 (by decide) (fun c2 => ?_) (fun c2 => ?_)
  · rw [if_neg c2] at h
    refine g_aload_n dX10_back_9 rfl 0 rfl ?_
    refine g_rA fl_X10_48 dX10_back_10 h (fun a3 h => ?_)
    refine g_aload_n dX10_back_13 rfl 0 rfl ?_
    refine g_rA fl_X10_55 dX10_back_14 h (fun a4 h => ?_)
    refine g_cV (ci := 0) (As := [.ref a4]) mv_X10_115 dX10_back_17 rfl (ok_X0_become Θ a3 a4 _ _) rfl rfl (Nat.le_of_ble_eq_true rfl) (by decide) (by decide) (by decide) h (fun ω n h => ?_)
    refine G.less (B' := (0, 0)) (by decide) (by decide) ?_
    refine g_aload_n dX10_back_20 rfl 0 rfl ?_
    refine g_rA fl_X10_61 dX10_back_21 h (fun a6 h => ?_)
    refine g_cV (ci := 5) (As := []) mv_X10_140 dX10_back_24 rfl (ok_X5_forget Θ a6 _ _) rfl rfl (Nat.le_of_ble_eq_true rfl) (by decide) (by decide) (by decide) h (fun ω n h => ?_)
    refine G.less (B' := (0, 0)) (by decide) (by decide) ?_
    refine g_iconst (v := 1) dX10_back_27 (by decide) ?_
    cases h
    exact g_zret rfl rfl dX10_back_28 rfl
  · rw [if_pos c2] at h
    refine g_iconst (v := 0) dX10_back_7 (by decide) ?_
    cases h
    exact g_zret rfl rfl dX10_back_8 rfl
def J_X10_slotsWithProp_30 (Θ : GP) (k_4 : Nat → Int32 → Int32 → OW → Nat → RO) (l0 : Nat) (l2 : Int32) (s0 : Int32) (s1 : Int32) (ω : OW) (n : Nat) : RO := k_4 l0 (s1 ||| s0) (l2 + 1) ω n
def B_X10_slotsWithProp_4 (Θ : GP) (k_4 : Nat → Int32 → Int32 → OW → Nat → RO) (l0 : Nat) (l1 : Int32) (l2 : Int32) (ω : OW) (n : Nat) : RO := if 10 ≤ l2 then (some (.inl (some (.int l1), ω, n))) else (rA ω l0 10 0 (fun a2 => rA ω a2 0 11 (fun a3 => lI ω (gI Θ) a3 l2 (fun x4 => if x4 < 0 then (J_X10_slotsWithProp_30 Θ k_4 l0 l2 0 l1 ω n) else (J_X10_slotsWithProp_30 Θ k_4 l0 l2 (1 <<< ((l2 : Int32) &&& 31)) l1 ω n)))))
def L_X10_slotsWithProp_4 (Θ : GP) : Nat → Nat → Int32 → Int32 → OW → Nat → RO
  | 0, _, _, _, _, _ => none
  | f + 1, l0, l1, l2, ω, n => B_X10_slotsWithProp_4 Θ (L_X10_slotsWithProp_4 Θ f) l0 l1 l2 ω n
def F_X10_slotsWithProp (Θ : GP) (l0 : Nat) (ω : OW) (n : Nat) : RO := L_X10_slotsWithProp_4 Θ 5000 l0 0 0 ω n
theorem ok_J_X10_slotsWithProp_30 (Θ : GP) (k_4 : Nat → Int32 → Int32 → OW → Nat → RO) (hk_4 : ∀ l0 l1 l2 ω n r, k_4 l0 l1 l2 ω n = some r → GR Θ yX10_slotsWithProp cX10_slotsWithProp 3 (some .int) 1 (0, 0) 4 [(0, .ref l0), (1, .int l1), (2, .int l2)] [] ω n r) (l0 : Nat) (l2 : Int32) (s0 : Int32) (s1 : Int32) (ω : OW) (n : Nat) (r : Out) (h : J_X10_slotsWithProp_30 Θ k_4 l0 l2 s0 s1 ω n = some r) : GR Θ yX10_slotsWithProp cX10_slotsWithProp 3 (some .int) 1 (0, 0) 30 [(0, .ref l0), (2, .int l2)] [.int s0, .int s1] ω n r := by
  unfold J_X10_slotsWithProp_30 at h
  refine g_ior dX10_slotsWithProp_30 ?_
  refine g_istore_n (lv' := [(1, .int (s1 ||| s0)), (0, .ref l0), (2, .int l2)]) dX10_slotsWithProp_31 rfl (by decide) rfl ?_
  refine g_iinc (j := 2) (v := l2 + 1) (lv' := [(2, .int (l2 + 1)), (1, .int (s1 ||| s0)), (0, .ref l0)]) dX10_slotsWithProp_32 rfl rfl (by decide) rfl ?_
  refine g_goto (tgt := 4) dX10_slotsWithProp_35 (by decide) ?_
  refine G.lsub [2, 1, 0] rfl ?_
  exact hk_4 l0 (s1 ||| s0) (l2 + 1) _ _ r h
theorem ok_B_X10_slotsWithProp_4 (Θ : GP) (k_4 : Nat → Int32 → Int32 → OW → Nat → RO) (hk_4 : ∀ l0 l1 l2 ω n r, k_4 l0 l1 l2 ω n = some r → GR Θ yX10_slotsWithProp cX10_slotsWithProp 3 (some .int) 1 (0, 0) 4 [(0, .ref l0), (1, .int l1), (2, .int l2)] [] ω n r) (l0 : Nat) (l1 : Int32) (l2 : Int32) (ω : OW) (n : Nat) (r : Out) (h : B_X10_slotsWithProp_4 Θ k_4 l0 l1 l2 ω n = some r) : GR Θ yX10_slotsWithProp cX10_slotsWithProp 3 (some .int) 1 (0, 0) 4 [(0, .ref l0), (1, .int l1), (2, .int l2)] [] ω n r := by
  unfold B_X10_slotsWithProp_4 at h
  refine g_iload_n dX10_slotsWithProp_4 rfl 2 rfl ?_
  refine g_bipush (v := 10) dX10_slotsWithProp_5 (by decide) ?_
  refine g_icmp_ge (tgt := 38) dX10_slotsWithProp_7 (by decide) (fun c1 => ?_) (fun c1 => ?_)
  · rw [if_pos c1] at h
    refine g_iload_n dX10_slotsWithProp_38 rfl 1 rfl ?_
    cases h
    exact g_iret rfl dX10_slotsWithProp_39 rfl
  · rw [if_neg c1] at h
    refine g_iload_n dX10_slotsWithProp_10 rfl 1 rfl ?_
    refine g_aload_n dX10_slotsWithProp_11 rfl 0 rfl ?_
    refine g_rA fl_X10_48 dX10_slotsWithProp_12 h (fun a2 h => ?_)
    refine g_rA fl_X10_178 dX10_slotsWithProp_15 h (fun a3 h => ?_)
    refine g_iload_n dX10_slotsWithProp_18 rfl 2 rfl ?_
    refine g_lIi dX10_slotsWithProp_19 h (fun x4 h => ?_)
    refine g_if_lt (tgt := 29) dX10_slotsWithProp_20 (by decide) (fun c5 => ?_) (fun c5 => ?_)
    · rw [if_pos c5] at h
      refine g_iconst (v := 0) dX10_slotsWithProp_29 (by decide) ?_
      refine G.lsub [0, 2] rfl ?_
      exact ok_J_X10_slotsWithProp_30 Θ k_4 hk_4 l0 l2 0 l1 _ _ r h
    · rw [if_neg c5] at h
      refine g_iconst (v := 1) dX10_slotsWithProp_23 (by decide) ?_
      refine g_iload_n dX10_slotsWithProp_24 rfl 2 rfl ?_
      refine g_ishl dX10_slotsWithProp_25 ?_
      refine g_goto (tgt := 30) dX10_slotsWithProp_26 (by decide) ?_
      refine G.lsub [0, 2] rfl ?_
      exact ok_J_X10_slotsWithProp_30 Θ k_4 hk_4 l0 l2 (1 <<< ((l2 : Int32) &&& 31)) l1 _ _ r h
theorem ok_L_X10_slotsWithProp_4 (Θ : GP) : ∀ (f : Nat) (l0 : Nat) (l1 : Int32) (l2 : Int32) (ω : OW) (n : Nat) (r : Out), L_X10_slotsWithProp_4 Θ f l0 l1 l2 ω n = some r → GR Θ yX10_slotsWithProp cX10_slotsWithProp 3 (some .int) 1 (0, 0) 4 [(0, .ref l0), (1, .int l1), (2, .int l2)] [] ω n r := by
  intro f
  induction f with
  | zero =>
    intro l0 l1 l2 ω n r h
    unfold L_X10_slotsWithProp_4 at h
    cases h
  | succ f ih =>
    intro l0 l1 l2 ω n r h
    unfold L_X10_slotsWithProp_4 at h
    exact ok_B_X10_slotsWithProp_4 Θ (L_X10_slotsWithProp_4 Θ f) ih l0 l1 l2 ω n r h
theorem ok_X10_slotsWithProp (Θ : GP) (l0 : Nat) (ω : OW) (n : Nat) : Ok Θ 1 0 0 yX10_slotsWithProp cX10_slotsWithProp 3 (some .int) [.ref l0] ω n (F_X10_slotsWithProp Θ l0 ω n) := by
  refine Ok.of (by decide +kernel) (Nat.le_of_ble_eq_true rfl) (fun r h => ?_)
  unfold F_X10_slotsWithProp at h
  show GR Θ yX10_slotsWithProp cX10_slotsWithProp 3 (some .int) 1 (0, 0) 0 [(0, .ref l0)] [] ω n r
  refine g_iconst (v := 0) dX10_slotsWithProp_0 (by decide) ?_
  refine g_istore_n (lv' := [(1, .int 0), (0, .ref l0)]) dX10_slotsWithProp_1 rfl (by decide) rfl ?_
  refine g_iconst (v := 0) dX10_slotsWithProp_2 (by decide) ?_
  refine g_istore_n (lv' := [(2, .int 0), (1, .int 0), (0, .ref l0)]) dX10_slotsWithProp_3 rfl (by decide) rfl ?_
  refine G.lsub [2, 1, 0] rfl ?_
  exact ok_L_X10_slotsWithProp_4 Θ 5000 l0 0 0 _ _ r h
def B_X10_wornTogether_4 (Θ : GP) (k_4 : Nat → Int32 → Int32 → OW → Nat → RO) (l0 : Nat) (l1 : Int32) (l2 : Int32) (ω : OW) (n : Nat) : RO := rA ω l0 10 0 (fun a1 => rI ω a1 0 0 (fun x2 => if x2 ≤ l2 then (some (.inl (some (.int l1), ω, n))) else (rA ω l0 10 0 (fun a4 => rA ω a4 0 9 (fun a5 => lI ω (gI Θ) a5 l2 (fun x6 => k_4 l0 (l1 + x6) (l2 + 1) ω n))))))
def L_X10_wornTogether_4 (Θ : GP) : Nat → Nat → Int32 → Int32 → OW → Nat → RO
  | 0, _, _, _, _, _ => none
  | f + 1, l0, l1, l2, ω, n => B_X10_wornTogether_4 Θ (L_X10_wornTogether_4 Θ f) l0 l1 l2 ω n
def F_X10_wornTogether (Θ : GP) (l0 : Nat) (ω : OW) (n : Nat) : RO := L_X10_wornTogether_4 Θ 5000 l0 0 0 ω n
theorem ok_B_X10_wornTogether_4 (Θ : GP) (k_4 : Nat → Int32 → Int32 → OW → Nat → RO) (hk_4 : ∀ l0 l1 l2 ω n r, k_4 l0 l1 l2 ω n = some r → GR Θ yX10_wornTogether cX10_wornTogether 3 (some .int) 1 (0, 0) 4 [(0, .ref l0), (1, .int l1), (2, .int l2)] [] ω n r) (l0 : Nat) (l1 : Int32) (l2 : Int32) (ω : OW) (n : Nat) (r : Out) (h : B_X10_wornTogether_4 Θ k_4 l0 l1 l2 ω n = some r) : GR Θ yX10_wornTogether cX10_wornTogether 3 (some .int) 1 (0, 0) 4 [(0, .ref l0), (1, .int l1), (2, .int l2)] [] ω n r := by
  unfold B_X10_wornTogether_4 at h
  refine g_iload_n dX10_wornTogether_4 rfl 2 rfl ?_
  refine g_aload_n dX10_wornTogether_5 rfl 0 rfl ?_
  refine g_rA fl_X10_48 dX10_wornTogether_6 h (fun a1 h => ?_)
  refine g_rI fl_X10_294 dX10_wornTogether_9 h (fun x2 h => ?_)
  refine g_icmp_ge (tgt := 33) dX10_wornTogether_12 (by decide) (fun c3 => ?_) (fun c3 => ?_)
  · rw [if_pos c3] at h
    refine g_iload_n dX10_wornTogether_33 rfl 1 rfl ?_
    cases h
    exact g_iret rfl dX10_wornTogether_34 rfl
  · rw [if_neg c3] at h
    refine g_iload_n dX10_wornTogether_15 rfl 1 rfl ?_
    refine g_aload_n dX10_wornTogether_16 rfl 0 rfl ?_
    refine g_rA fl_X10_48 dX10_wornTogether_17 h (fun a4 h => ?_)
    refine g_rA fl_X10_164 dX10_wornTogether_20 h (fun a5 h => ?_)
    refine g_iload_n dX10_wornTogether_23 rfl 2 rfl ?_
    refine g_lIi dX10_wornTogether_24 h (fun x6 h => ?_)
    refine g_iadd dX10_wornTogether_25 ?_
    refine g_istore_n (lv' := [(1, .int (l1 + x6)), (0, .ref l0), (2, .int l2)]) dX10_wornTogether_26 rfl (by decide) rfl ?_
    refine g_iinc (j := 2) (v := l2 + 1) (lv' := [(2, .int (l2 + 1)), (1, .int (l1 + x6)), (0, .ref l0)]) dX10_wornTogether_27 rfl rfl (by decide) rfl ?_
    refine g_goto (tgt := 4) dX10_wornTogether_30 (by decide) ?_
    refine G.lsub [2, 1, 0] rfl ?_
    exact hk_4 l0 (l1 + x6) (l2 + 1) _ _ r h
theorem ok_L_X10_wornTogether_4 (Θ : GP) : ∀ (f : Nat) (l0 : Nat) (l1 : Int32) (l2 : Int32) (ω : OW) (n : Nat) (r : Out), L_X10_wornTogether_4 Θ f l0 l1 l2 ω n = some r → GR Θ yX10_wornTogether cX10_wornTogether 3 (some .int) 1 (0, 0) 4 [(0, .ref l0), (1, .int l1), (2, .int l2)] [] ω n r := by
  intro f
  induction f with
  | zero =>
    intro l0 l1 l2 ω n r h
    unfold L_X10_wornTogether_4 at h
    cases h
  | succ f ih =>
    intro l0 l1 l2 ω n r h
    unfold L_X10_wornTogether_4 at h
    exact ok_B_X10_wornTogether_4 Θ (L_X10_wornTogether_4 Θ f) ih l0 l1 l2 ω n r h
theorem ok_X10_wornTogether (Θ : GP) (l0 : Nat) (ω : OW) (n : Nat) : Ok Θ 1 0 0 yX10_wornTogether cX10_wornTogether 3 (some .int) [.ref l0] ω n (F_X10_wornTogether Θ l0 ω n) := by
  refine Ok.of (by decide +kernel) (Nat.le_of_ble_eq_true rfl) (fun r h => ?_)
  unfold F_X10_wornTogether at h
  show GR Θ yX10_wornTogether cX10_wornTogether 3 (some .int) 1 (0, 0) 0 [(0, .ref l0)] [] ω n r
  refine g_iconst (v := 0) dX10_wornTogether_0 (by decide) ?_
  refine g_istore_n (lv' := [(1, .int 0), (0, .ref l0)]) dX10_wornTogether_1 rfl (by decide) rfl ?_
  refine g_iconst (v := 0) dX10_wornTogether_2 (by decide) ?_
  refine g_istore_n (lv' := [(2, .int 0), (1, .int 0), (0, .ref l0)]) dX10_wornTogether_3 rfl (by decide) rfl ?_
  refine G.lsub [2, 1, 0] rfl ?_
  exact ok_L_X10_wornTogether_4 Θ 5000 l0 0 0 _ _ r h
def J_X10_count_157 (Θ : GP) (l0 : Nat) (l1 : Int32) (ω : OW) (n : Nat) : RO := rA ω l0 10 0 (fun a1 => cO ω a1 0 (kI (F_X0_peopleOf Θ a1 (l1 - 8) ω n) (fun x2 ω n => some (.inl (some (.int x2), ω, n)))))
def J_X10_count_127 (Θ : GP) (s0 : Int32) (ω : OW) (n : Nat) : RO := some (.inl (some (.int s0), ω, n))
def F_X10_count (Θ : GP) (l0 : Nat) (l1 : Int32) (ω : OW) (n : Nat) : RO := if l1 = 0 then (rA ω l0 10 0 (fun a3 => rI ω a3 0 0 (fun x4 => some (.inl (some (.int x4), ω, n))))) else (if l1 = 1 then (rA ω l0 10 0 (fun a5 => rI ω a5 0 1 (fun x6 => some (.inl (some (.int x6), ω, n))))) else (if l1 = 2 then (rA ω l0 10 0 (fun a7 => rI ω a7 0 2 (fun x8 => some (.inl (some (.int x8), ω, n))))) else (if l1 = 3 then (rA ω l0 10 0 (fun a9 => rA ω a9 0 17 (fun a10 => rI ω a10 2 1 (fun x11 => if x11 = 0 then (J_X10_count_127 Θ (-1) ω n) else (rA ω l0 10 0 (fun a13 => rA ω a13 0 17 (fun a14 => rI ω a14 2 0 (fun x15 => J_X10_count_127 Θ x15 ω n)))))))) else (if l1 = 4 then (rA ω l0 10 0 (fun a16 => rI ω a16 0 5 (fun x17 => some (.inl (some (.int x17), ω, n))))) else (if l1 = 5 then (rA ω l0 10 0 (fun a18 => rI ω a18 0 3 (fun x19 => some (.inl (some (.int x19), ω, n))))) else (if l1 = 6 then (rA ω l0 10 0 (fun a20 => rI ω a20 0 4 (fun x21 => some (.inl (some (.int x21), ω, n))))) else (if l1 = 7 then (cO ω l0 10 (kI (F_X10_slotsWithProp Θ l0 ω n) (fun x22 ω n => some (.inl (some (.int x22), ω, n))))) else (if l1 = 8 then (J_X10_count_157 Θ l0 l1 ω n) else (if l1 = 9 then (J_X10_count_157 Θ l0 l1 ω n) else (if l1 = 10 then (J_X10_count_157 Θ l0 l1 ω n) else (if l1 = 11 then (J_X10_count_157 Θ l0 l1 ω n) else (if l1 = 12 then (cO ω l0 10 (kI (F_X10_wornTogether Θ l0 ω n) (fun x23 ω n => some (.inl (some (.int x23), ω, n))))) else (if l1 = 13 then (rA ω l0 10 0 (fun a24 => rA ω a24 0 16 (fun a25 => rI ω a25 4 0 (fun x26 => some (.inl (some (.int x26), ω, n)))))) else (if l1 = 14 then (rA ω l0 10 4 (fun a27 => rI ω a27 5 0 (fun x28 => some (.inl (some (.int x28), ω, n))))) else (some (.inl (some (.int (-1)), ω, n)))))))))))))))))
theorem ok_J_X10_count_157 (Θ : GP) (l0 : Nat) (l1 : Int32) (ω : OW) (n : Nat) (r : Out) (h : J_X10_count_157 Θ l0 l1 ω n = some r) : GR Θ yX10_count cX10_count 2 (some .int) 2 (0, 0) 157 [(0, .ref l0), (1, .int l1)] [] ω n r := by
  unfold J_X10_count_157 at h
  refine g_aload_n dX10_count_157 rfl 0 rfl ?_
  refine g_rA fl_X10_48 dX10_count_158 h (fun a1 h => ?_)
  refine g_iload_n dX10_count_161 rfl 1 rfl ?_
  refine g_bipush (v := 8) dX10_count_162 (by decide) ?_
  refine g_isub dX10_count_164 ?_
  refine g_cI (ci := 0) (As := [.int (l1 - 8)]) mv_X10_272 dX10_count_165 rfl (ok_X0_peopleOf Θ a1 (l1 - 8) _ _) rfl rfl (Nat.le_of_ble_eq_true rfl) (by decide) (by decide) (by decide) h (fun x2 ω n h => ?_)
  refine G.less (B' := (0, 0)) (by decide) (by decide) ?_
  cases h
  exact g_iret rfl dX10_count_168 rfl
theorem ok_J_X10_count_127 (Θ : GP) (s0 : Int32) (ω : OW) (n : Nat) (r : Out) (h : J_X10_count_127 Θ s0 ω n = some r) : GR Θ yX10_count cX10_count 2 (some .int) 2 (0, 0) 127 [] [.int s0] ω n r := by
  unfold J_X10_count_127 at h
  cases h
  exact g_iret rfl dX10_count_127 rfl
theorem ok_X10_count (Θ : GP) (l0 : Nat) (l1 : Int32) (ω : OW) (n : Nat) : Ok Θ 2 0 0 yX10_count cX10_count 2 (some .int) [.ref l0, .int l1] ω n (F_X10_count Θ l0 l1 ω n) := by
  refine Ok.of (by decide +kernel) (Nat.le_of_ble_eq_true rfl) (fun r h => ?_)
  unfold F_X10_count at h
  show GR Θ yX10_count cX10_count 2 (some .int) 2 (0, 0) 0 [(0, .ref l0), (1, .int l1)] [] ω n r
  refine g_iload_n dX10_count_0 rfl 1 rfl ?_
  by_cases c29_0 : l1 = 0
  · rw [if_pos c29_0] at h
    refine g_tableIn (off := 75) (tgt := 76) dX10_count_1 (by rw [c29_0]; decide) (by rw [c29_0]; decide) (by rw [c29_0]; decide) (by decide) ?_
    refine g_aload_n dX10_count_76 rfl 0 rfl ?_
    refine g_rA fl_X10_48 dX10_count_77 h (fun a3 h => ?_)
    refine g_rI fl_X10_294 dX10_count_80 h (fun x4 h => ?_)
    cases h
    exact g_iret rfl dX10_count_83 rfl
  rw [if_neg c29_0] at h
  by_cases c29_1 : l1 = 1
  · rw [if_pos c29_1] at h
    refine g_tableIn (off := 83) (tgt := 84) dX10_count_1 (by rw [c29_1]; decide) (by rw [c29_1]; decide) (by rw [c29_1]; decide) (by decide) ?_
    refine g_aload_n dX10_count_84 rfl 0 rfl ?_
    refine g_rA fl_X10_48 dX10_count_85 h (fun a5 h => ?_)
    refine g_rI fl_X10_322 dX10_count_88 h (fun x6 h => ?_)
    cases h
    exact g_iret rfl dX10_count_91 rfl
  rw [if_neg c29_1] at h
  by_cases c29_2 : l1 = 2
  · rw [if_pos c29_2] at h
    refine g_tableIn (off := 91) (tgt := 92) dX10_count_1 (by rw [c29_2]; decide) (by rw [c29_2]; decide) (by rw [c29_2]; decide) (by decide) ?_
    refine g_aload_n dX10_count_92 rfl 0 rfl ?_
    refine g_rA fl_X10_48 dX10_count_93 h (fun a7 h => ?_)
    refine g_rI fl_X10_132 dX10_count_96 h (fun x8 h => ?_)
    cases h
    exact g_iret rfl dX10_count_99 rfl
  rw [if_neg c29_2] at h
  by_cases c29_3 : l1 = 3
  · rw [if_pos c29_3] at h
    refine g_tableIn (off := 99) (tgt := 100) dX10_count_1 (by rw [c29_3]; decide) (by rw [c29_3]; decide) (by rw [c29_3]; decide) (by decide) ?_
    refine g_aload_n dX10_count_100 rfl 0 rfl ?_
    refine g_rA fl_X10_48 dX10_count_101 h (fun a9 h => ?_)
    refine g_rA fl_X10_148 dX10_count_104 h (fun a10 h => ?_)
    refine g_rI fl_X10_404 dX10_count_107 h (fun x11 h => ?_)
    refine g_if_eq (tgt := 126) dX10_count_110 (by decide) (fun c12 => ?_) (fun c12 => ?_)
    · rw [if_pos c12] at h
      refine g_iconst (v := (-1)) dX10_count_126 (by decide) ?_
      refine G.lsub [] rfl ?_
      exact ok_J_X10_count_127 Θ (-1) _ _ r h
    · rw [if_neg c12] at h
      refine g_aload_n dX10_count_113 rfl 0 rfl ?_
      refine g_rA fl_X10_48 dX10_count_114 h (fun a13 h => ?_)
      refine g_rA fl_X10_148 dX10_count_117 h (fun a14 h => ?_)
      refine g_rI fl_X10_152 dX10_count_120 h (fun x15 h => ?_)
      refine g_goto (tgt := 127) dX10_count_123 (by decide) ?_
      refine G.lsub [] rfl ?_
      exact ok_J_X10_count_127 Θ x15 _ _ r h
  rw [if_neg c29_3] at h
  by_cases c29_4 : l1 = 4
  · rw [if_pos c29_4] at h
    refine g_tableIn (off := 127) (tgt := 128) dX10_count_1 (by rw [c29_4]; decide) (by rw [c29_4]; decide) (by rw [c29_4]; decide) (by decide) ?_
    refine g_aload_n dX10_count_128 rfl 0 rfl ?_
    refine g_rA fl_X10_48 dX10_count_129 h (fun a16 h => ?_)
    refine g_rI fl_X10_250 dX10_count_132 h (fun x17 h => ?_)
    cases h
    exact g_iret rfl dX10_count_135 rfl
  rw [if_neg c29_4] at h
  by_cases c29_5 : l1 = 5
  · rw [if_pos c29_5] at h
    refine g_tableIn (off := 135) (tgt := 136) dX10_count_1 (by rw [c29_5]; decide) (by rw [c29_5]; decide) (by rw [c29_5]; decide) (by decide) ?_
    refine g_aload_n dX10_count_136 rfl 0 rfl ?_
    refine g_rA fl_X10_48 dX10_count_137 h (fun a18 h => ?_)
    refine g_rI fl_X10_283 dX10_count_140 h (fun x19 h => ?_)
    cases h
    exact g_iret rfl dX10_count_143 rfl
  rw [if_neg c29_5] at h
  by_cases c29_6 : l1 = 6
  · rw [if_pos c29_6] at h
    refine g_tableIn (off := 143) (tgt := 144) dX10_count_1 (by rw [c29_6]; decide) (by rw [c29_6]; decide) (by rw [c29_6]; decide) (by decide) ?_
    refine g_aload_n dX10_count_144 rfl 0 rfl ?_
    refine g_rA fl_X10_48 dX10_count_145 h (fun a20 h => ?_)
    refine g_rI fl_X10_357 dX10_count_148 h (fun x21 h => ?_)
    cases h
    exact g_iret rfl dX10_count_151 rfl
  rw [if_neg c29_6] at h
  by_cases c29_7 : l1 = 7
  · rw [if_pos c29_7] at h
    refine g_tableIn (off := 151) (tgt := 152) dX10_count_1 (by rw [c29_7]; decide) (by rw [c29_7]; decide) (by rw [c29_7]; decide) (by decide) ?_
    refine g_aload_n dX10_count_152 rfl 0 rfl ?_
    refine g_cI (ci := 10) (As := []) mv_X10_407 dX10_count_153 rfl (ok_X10_slotsWithProp Θ l0 _ _) rfl rfl (Nat.le_of_ble_eq_true rfl) (by decide) (by decide) (by decide) h (fun x22 ω n h => ?_)
    refine G.less (B' := (0, 0)) (by decide) (by decide) ?_
    cases h
    exact g_iret rfl dX10_count_156 rfl
  rw [if_neg c29_7] at h
  by_cases c29_8 : l1 = 8
  · rw [if_pos c29_8] at h
    refine g_tableIn (off := 156) (tgt := 157) dX10_count_1 (by rw [c29_8]; decide) (by rw [c29_8]; decide) (by rw [c29_8]; decide) (by decide) ?_
    exact ok_J_X10_count_157 Θ l0 l1 _ _ r h
  rw [if_neg c29_8] at h
  by_cases c29_9 : l1 = 9
  · rw [if_pos c29_9] at h
    refine g_tableIn (off := 156) (tgt := 157) dX10_count_1 (by rw [c29_9]; decide) (by rw [c29_9]; decide) (by rw [c29_9]; decide) (by decide) ?_
    exact ok_J_X10_count_157 Θ l0 l1 _ _ r h
  rw [if_neg c29_9] at h
  by_cases c29_10 : l1 = 10
  · rw [if_pos c29_10] at h
    refine g_tableIn (off := 156) (tgt := 157) dX10_count_1 (by rw [c29_10]; decide) (by rw [c29_10]; decide) (by rw [c29_10]; decide) (by decide) ?_
    exact ok_J_X10_count_157 Θ l0 l1 _ _ r h
  rw [if_neg c29_10] at h
  by_cases c29_11 : l1 = 11
  · rw [if_pos c29_11] at h
    refine g_tableIn (off := 156) (tgt := 157) dX10_count_1 (by rw [c29_11]; decide) (by rw [c29_11]; decide) (by rw [c29_11]; decide) (by decide) ?_
    exact ok_J_X10_count_157 Θ l0 l1 _ _ r h
  rw [if_neg c29_11] at h
  by_cases c29_12 : l1 = 12
  · rw [if_pos c29_12] at h
    refine g_tableIn (off := 168) (tgt := 169) dX10_count_1 (by rw [c29_12]; decide) (by rw [c29_12]; decide) (by rw [c29_12]; decide) (by decide) ?_
    refine g_aload_n dX10_count_169 rfl 0 rfl ?_
    refine g_cI (ci := 10) (As := []) mv_X10_410 dX10_count_170 rfl (ok_X10_wornTogether Θ l0 _ _) rfl rfl (Nat.le_of_ble_eq_true rfl) (by decide) (by decide) (by decide) h (fun x23 ω n h => ?_)
    refine G.less (B' := (0, 0)) (by decide) (by decide) ?_
    cases h
    exact g_iret rfl dX10_count_173 rfl
  rw [if_neg c29_12] at h
  by_cases c29_13 : l1 = 13
  · rw [if_pos c29_13] at h
    refine g_tableIn (off := 173) (tgt := 174) dX10_count_1 (by rw [c29_13]; decide) (by rw [c29_13]; decide) (by rw [c29_13]; decide) (by decide) ?_
    refine g_aload_n dX10_count_174 rfl 0 rfl ?_
    refine g_rA fl_X10_48 dX10_count_175 h (fun a24 h => ?_)
    refine g_rA fl_X10_246 dX10_count_178 h (fun a25 h => ?_)
    refine g_rI fl_X10_392 dX10_count_181 h (fun x26 h => ?_)
    cases h
    exact g_iret rfl dX10_count_184 rfl
  rw [if_neg c29_13] at h
  by_cases c29_14 : l1 = 14
  · rw [if_pos c29_14] at h
    refine g_tableIn (off := 184) (tgt := 185) dX10_count_1 (by rw [c29_14]; decide) (by rw [c29_14]; decide) (by rw [c29_14]; decide) (by decide) ?_
    refine g_aload_n dX10_count_185 rfl 0 rfl ?_
    refine g_rA fl_X10_61 dX10_count_186 h (fun a27 h => ?_)
    refine g_rI fl_X10_413 dX10_count_189 h (fun x28 h => ?_)
    cases h
    exact g_iret rfl dX10_count_192 rfl
  rw [if_neg c29_14] at h
  have qc29_0 := ne_toInt c29_0 (z := 0) (by decide)
  have qc29_1 := ne_toInt c29_1 (z := 1) (by decide)
  have qc29_2 := ne_toInt c29_2 (z := 2) (by decide)
  have qc29_3 := ne_toInt c29_3 (z := 3) (by decide)
  have qc29_4 := ne_toInt c29_4 (z := 4) (by decide)
  have qc29_5 := ne_toInt c29_5 (z := 5) (by decide)
  have qc29_6 := ne_toInt c29_6 (z := 6) (by decide)
  have qc29_7 := ne_toInt c29_7 (z := 7) (by decide)
  have qc29_8 := ne_toInt c29_8 (z := 8) (by decide)
  have qc29_9 := ne_toInt c29_9 (z := 9) (by decide)
  have qc29_10 := ne_toInt c29_10 (z := 10) (by decide)
  have qc29_11 := ne_toInt c29_11 (z := 11) (by decide)
  have qc29_12 := ne_toInt c29_12 (z := 12) (by decide)
  have qc29_13 := ne_toInt c29_13 (z := 13) (by decide)
  have qc29_14 := ne_toInt c29_14 (z := 14) (by decide)
  refine g_tableOut (tgt := 193) dX10_count_1 (by omega) (by decide) ?_
  refine g_iconst (v := (-1)) dX10_count_193 (by decide) ?_
  cases h
  exact g_iret rfl dX10_count_194 rfl
