def J_X0_waits_14 (Θ : GP) (s0 : Int32) (ω : OW) (n : Nat) : RO := bz s0 (some (.inl (some (.int s0), ω, n)))
def F_X0_waits (Θ : GP) (l0 : Nat) (l1 : Int32) (ω : OW) (n : Nat) : RO := rA ω l0 0 15 (fun a2 => lI ω (gI Θ) a2 l1 (fun x3 => if x3 = 0 then (J_X0_waits_14 Θ 1 ω n) else (J_X0_waits_14 Θ 0 ω n)))
theorem ok_J_X0_waits_14 (Θ : GP) (s0 : Int32) (ω : OW) (n : Nat) (r : Out) (h : J_X0_waits_14 Θ s0 ω n = some r) : GR Θ yX0_waits cX0_waits 2 (some .boolean) 1 (0, 0) 14 [] [.int s0] ω n r := by
  unfold J_X0_waits_14 at h
  obtain ⟨z1, h⟩ := bz_inv h
  cases h
  exact g_zret rfl z1 dX0_waits_14 rfl
theorem ok_X0_waits (Θ : GP) (l0 : Nat) (l1 : Int32) (ω : OW) (n : Nat) : Ok Θ 1 0 0 yX0_waits cX0_waits 2 (some .boolean) [.ref l0, .int l1] ω n (F_X0_waits Θ l0 l1 ω n) := by
  refine Ok.of (by decide +kernel) (Nat.le_of_ble_eq_true rfl) (fun r h => ?_)
  unfold F_X0_waits at h
  show GR Θ yX0_waits cX0_waits 2 (some .boolean) 1 (0, 0) 0 [(0, .ref l0), (1, .int l1)] [] ω n r
  refine g_aload_n dX0_waits_0 rfl 0 rfl ?_
  refine g_rA fl_X0_58 dX0_waits_1 h (fun a2 h => ?_)
  refine g_iload_n dX0_waits_4 rfl 1 rfl ?_
  refine g_lIi dX0_waits_5 h (fun x3 h => ?_)
  refine g_if_ne (tgt := 13) dX0_waits_6 (by decide) (fun c4 => ?_) (fun c4 => ?_)
  · rw [if_neg c4] at h
    refine g_iconst (v := 0) dX0_waits_13 (by decide) ?_
    refine G.lsub [] rfl ?_
    exact ok_J_X0_waits_14 Θ 0 _ _ r h
  · rw [if_pos c4] at h
    refine g_iconst (v := 1) dX0_waits_9 (by decide) ?_
    refine g_goto (tgt := 14) dX0_waits_10 (by decide) ?_
    refine G.lsub [] rfl ?_
    exact ok_J_X0_waits_14 Θ 1 _ _ r h
def J_X0_isInnocent_14 (Θ : GP) (s0 : Int32) (ω : OW) (n : Nat) : RO := bz s0 (some (.inl (some (.int s0), ω, n)))
def F_X0_isInnocent (Θ : GP) (l0 : Nat) (l1 : Int32) (ω : OW) (n : Nat) : RO := rA ω l0 0 12 (fun a2 => lI ω (gI Θ) a2 l1 (fun x3 => if x3 = 0 then (J_X0_isInnocent_14 Θ 1 ω n) else (J_X0_isInnocent_14 Θ 0 ω n)))
theorem ok_J_X0_isInnocent_14 (Θ : GP) (s0 : Int32) (ω : OW) (n : Nat) (r : Out) (h : J_X0_isInnocent_14 Θ s0 ω n = some r) : GR Θ yX0_isInnocent cX0_isInnocent 2 (some .boolean) 1 (0, 0) 14 [] [.int s0] ω n r := by
  unfold J_X0_isInnocent_14 at h
  obtain ⟨z1, h⟩ := bz_inv h
  cases h
  exact g_zret rfl z1 dX0_isInnocent_14 rfl
theorem ok_X0_isInnocent (Θ : GP) (l0 : Nat) (l1 : Int32) (ω : OW) (n : Nat) : Ok Θ 1 0 0 yX0_isInnocent cX0_isInnocent 2 (some .boolean) [.ref l0, .int l1] ω n (F_X0_isInnocent Θ l0 l1 ω n) := by
  refine Ok.of (by decide +kernel) (Nat.le_of_ble_eq_true rfl) (fun r h => ?_)
  unfold F_X0_isInnocent at h
  show GR Θ yX0_isInnocent cX0_isInnocent 2 (some .boolean) 1 (0, 0) 0 [(0, .ref l0), (1, .int l1)] [] ω n r
  refine g_aload_n dX0_isInnocent_0 rfl 0 rfl ?_
  refine g_rA fl_X0_49 dX0_isInnocent_1 h (fun a2 h => ?_)
  refine g_iload_n dX0_isInnocent_4 rfl 1 rfl ?_
  refine g_lIi dX0_isInnocent_5 h (fun x3 h => ?_)
  refine g_if_ne (tgt := 13) dX0_isInnocent_6 (by decide) (fun c4 => ?_) (fun c4 => ?_)
  · rw [if_neg c4] at h
    refine g_iconst (v := 0) dX0_isInnocent_13 (by decide) ?_
    refine G.lsub [] rfl ?_
    exact ok_J_X0_isInnocent_14 Θ 0 _ _ r h
  · rw [if_pos c4] at h
    refine g_iconst (v := 1) dX0_isInnocent_9 (by decide) ?_
    refine g_goto (tgt := 14) dX0_isInnocent_10 (by decide) ?_
    refine G.lsub [] rfl ?_
    exact ok_J_X0_isInnocent_14 Θ 1 _ _ r h
def J_X0_peopleOf_30 (Θ : GP) (k_4 : Nat → Int32 → Int32 → Int32 → OW → Nat → RO) (l0 : Nat) (l1 : Int32) (l3 : Int32) (s0 : Int32) (s1 : Int32) (ω : OW) (n : Nat) : RO := k_4 l0 l1 (s1 ||| s0) (l3 + 1) ω n
def B_X0_peopleOf_4 (Θ : GP) (k_4 : Nat → Int32 → Int32 → Int32 → OW → Nat → RO) (l0 : Nat) (l1 : Int32) (l2 : Int32) (l3 : Int32) (ω : OW) (n : Nat) : RO := rI ω l0 0 1 (fun x1 => if x1 ≤ l3 then (some (.inl (some (.int l2), ω, n))) else (rA ω l0 0 15 (fun a3 => lI ω (gI Θ) a3 l3 (fun x4 => if x4 = l1 then (J_X0_peopleOf_30 Θ k_4 l0 l1 l3 (1 <<< ((l3 : Int32) &&& 31)) l2 ω n) else (J_X0_peopleOf_30 Θ k_4 l0 l1 l3 0 l2 ω n)))))
def L_X0_peopleOf_4 (Θ : GP) : Nat → Nat → Int32 → Int32 → Int32 → OW → Nat → RO
  | 0, _, _, _, _, _, _ => none
  | f + 1, l0, l1, l2, l3, ω, n => B_X0_peopleOf_4 Θ (L_X0_peopleOf_4 Θ f) l0 l1 l2 l3 ω n
def F_X0_peopleOf (Θ : GP) (l0 : Nat) (l1 : Int32) (ω : OW) (n : Nat) : RO := L_X0_peopleOf_4 Θ 5000 l0 l1 0 0 ω n
theorem ok_J_X0_peopleOf_30 (Θ : GP) (k_4 : Nat → Int32 → Int32 → Int32 → OW → Nat → RO) (hk_4 : ∀ l0 l1 l2 l3 ω n r, k_4 l0 l1 l2 l3 ω n = some r → GR Θ yX0_peopleOf cX0_peopleOf 4 (some .int) 1 (0, 0) 4 [(0, .ref l0), (1, .int l1), (2, .int l2), (3, .int l3)] [] ω n r) (l0 : Nat) (l1 : Int32) (l3 : Int32) (s0 : Int32) (s1 : Int32) (ω : OW) (n : Nat) (r : Out) (h : J_X0_peopleOf_30 Θ k_4 l0 l1 l3 s0 s1 ω n = some r) : GR Θ yX0_peopleOf cX0_peopleOf 4 (some .int) 1 (0, 0) 30 [(0, .ref l0), (1, .int l1), (3, .int l3)] [.int s0, .int s1] ω n r := by
  unfold J_X0_peopleOf_30 at h
  refine g_ior dX0_peopleOf_30 ?_
  refine g_istore_n (lv' := [(2, .int (s1 ||| s0)), (0, .ref l0), (1, .int l1), (3, .int l3)]) dX0_peopleOf_31 rfl (by decide) rfl ?_
  refine g_iinc (j := 3) (v := l3 + 1) (lv' := [(3, .int (l3 + 1)), (2, .int (s1 ||| s0)), (0, .ref l0), (1, .int l1)]) dX0_peopleOf_32 rfl rfl (by decide) rfl ?_
  refine g_goto (tgt := 4) dX0_peopleOf_35 (by decide) ?_
  refine G.lsub [2, 3, 1, 0] rfl ?_
  exact hk_4 l0 l1 (s1 ||| s0) (l3 + 1) _ _ r h
theorem ok_B_X0_peopleOf_4 (Θ : GP) (k_4 : Nat → Int32 → Int32 → Int32 → OW → Nat → RO) (hk_4 : ∀ l0 l1 l2 l3 ω n r, k_4 l0 l1 l2 l3 ω n = some r → GR Θ yX0_peopleOf cX0_peopleOf 4 (some .int) 1 (0, 0) 4 [(0, .ref l0), (1, .int l1), (2, .int l2), (3, .int l3)] [] ω n r) (l0 : Nat) (l1 : Int32) (l2 : Int32) (l3 : Int32) (ω : OW) (n : Nat) (r : Out) (h : B_X0_peopleOf_4 Θ k_4 l0 l1 l2 l3 ω n = some r) : GR Θ yX0_peopleOf cX0_peopleOf 4 (some .int) 1 (0, 0) 4 [(0, .ref l0), (1, .int l1), (2, .int l2), (3, .int l3)] [] ω n r := by
  unfold B_X0_peopleOf_4 at h
  refine g_iload_n dX0_peopleOf_4 rfl 3 rfl ?_
  refine g_aload_n dX0_peopleOf_5 rfl 0 rfl ?_
  refine g_rI fl_X0_15 dX0_peopleOf_6 h (fun x1 h => ?_)
  refine g_icmp_ge (tgt := 38) dX0_peopleOf_9 (by decide) (fun c2 => ?_) (fun c2 => ?_)
  · rw [if_pos c2] at h
    refine g_iload_n dX0_peopleOf_38 rfl 2 rfl ?_
    cases h
    exact g_iret rfl dX0_peopleOf_39 rfl
  · rw [if_neg c2] at h
    refine g_iload_n dX0_peopleOf_12 rfl 2 rfl ?_
    refine g_aload_n dX0_peopleOf_13 rfl 0 rfl ?_
    refine g_rA fl_X0_58 dX0_peopleOf_14 h (fun a3 h => ?_)
    refine g_iload_n dX0_peopleOf_17 rfl 3 rfl ?_
    refine g_lIi dX0_peopleOf_18 h (fun x4 h => ?_)
    refine g_iload_n dX0_peopleOf_19 rfl 1 rfl ?_
    refine g_icmp_ne (tgt := 29) dX0_peopleOf_20 (by decide) (fun c5 => ?_) (fun c5 => ?_)
    · rw [if_neg c5] at h
      refine g_iconst (v := 0) dX0_peopleOf_29 (by decide) ?_
      refine G.lsub [0, 1, 3] rfl ?_
      exact ok_J_X0_peopleOf_30 Θ k_4 hk_4 l0 l1 l3 0 l2 _ _ r h
    · rw [if_pos c5] at h
      refine g_iconst (v := 1) dX0_peopleOf_23 (by decide) ?_
      refine g_iload_n dX0_peopleOf_24 rfl 3 rfl ?_
      refine g_ishl dX0_peopleOf_25 ?_
      refine g_goto (tgt := 30) dX0_peopleOf_26 (by decide) ?_
      refine G.lsub [0, 1, 3] rfl ?_
      exact ok_J_X0_peopleOf_30 Θ k_4 hk_4 l0 l1 l3 (1 <<< ((l3 : Int32) &&& 31)) l2 _ _ r h
theorem ok_L_X0_peopleOf_4 (Θ : GP) : ∀ (f : Nat) (l0 : Nat) (l1 : Int32) (l2 : Int32) (l3 : Int32) (ω : OW) (n : Nat) (r : Out), L_X0_peopleOf_4 Θ f l0 l1 l2 l3 ω n = some r → GR Θ yX0_peopleOf cX0_peopleOf 4 (some .int) 1 (0, 0) 4 [(0, .ref l0), (1, .int l1), (2, .int l2), (3, .int l3)] [] ω n r := by
  intro f
  induction f with
  | zero =>
    intro l0 l1 l2 l3 ω n r h
    unfold L_X0_peopleOf_4 at h
    cases h
  | succ f ih =>
    intro l0 l1 l2 l3 ω n r h
    unfold L_X0_peopleOf_4 at h
    exact ok_B_X0_peopleOf_4 Θ (L_X0_peopleOf_4 Θ f) ih l0 l1 l2 l3 ω n r h
theorem ok_X0_peopleOf (Θ : GP) (l0 : Nat) (l1 : Int32) (ω : OW) (n : Nat) : Ok Θ 1 0 0 yX0_peopleOf cX0_peopleOf 4 (some .int) [.ref l0, .int l1] ω n (F_X0_peopleOf Θ l0 l1 ω n) := by
  refine Ok.of (by decide +kernel) (Nat.le_of_ble_eq_true rfl) (fun r h => ?_)
  unfold F_X0_peopleOf at h
  show GR Θ yX0_peopleOf cX0_peopleOf 4 (some .int) 1 (0, 0) 0 [(0, .ref l0), (1, .int l1)] [] ω n r
  refine g_iconst (v := 0) dX0_peopleOf_0 (by decide) ?_
  refine g_istore_n (lv' := [(2, .int 0), (0, .ref l0), (1, .int l1)]) dX0_peopleOf_1 rfl (by decide) rfl ?_
  refine g_iconst (v := 0) dX0_peopleOf_2 (by decide) ?_
  refine g_istore_n (lv' := [(3, .int 0), (2, .int 0), (0, .ref l0), (1, .int l1)]) dX0_peopleOf_3 rfl (by decide) rfl ?_
  refine G.lsub [2, 3, 1, 0] rfl ?_
  exact ok_L_X0_peopleOf_4 Θ 5000 l0 l1 0 0 _ _ r h
def F_X0_hang (Θ : GP) (l0 : Nat) (l1 : Int32) (l2 : Int32) (ω : OW) (n : Nat) : RO := rA ω l0 0 10 (fun a1 => sI ω (gI Θ) a1 l1 l2 (fun ω => rA ω l0 0 11 (fun a2 => sI ω (gI Θ) a2 l2 l1 (fun ω => some (.inl (none, ω, n))))))
theorem ok_X0_hang (Θ : GP) (l0 : Nat) (l1 : Int32) (l2 : Int32) (ω : OW) (n : Nat) : Ok Θ 1 0 0 yX0_hang cX0_hang 3 (none : Option Jvm.ClassFile.FieldType) [.ref l0, .int l1, .int l2] ω n (F_X0_hang Θ l0 l1 l2 ω n) := by
  refine Ok.of (by decide +kernel) (Nat.le_of_ble_eq_true rfl) (fun r h => ?_)
  unfold F_X0_hang at h
  show GR Θ yX0_hang cX0_hang 3 (none : Option Jvm.ClassFile.FieldType) 1 (0, 0) 0 [(0, .ref l0), (1, .int l1), (2, .int l2)] [] ω n r
  refine g_aload_n dX0_hang_0 rfl 0 rfl ?_
  refine g_rA fl_X0_43 dX0_hang_1 h (fun a1 h => ?_)
  refine g_iload_n dX0_hang_4 rfl 1 rfl ?_
  refine g_iload_n dX0_hang_5 rfl 2 rfl ?_
  refine g_sIi dX0_hang_6 h (fun ω h => ?_)
  refine g_aload_n dX0_hang_7 rfl 0 rfl ?_
  refine g_rA fl_X0_46 dX0_hang_8 h (fun a2 h => ?_)
  refine g_iload_n dX0_hang_11 rfl 2 rfl ?_
  refine g_iload_n dX0_hang_12 rfl 1 rfl ?_
  refine g_sIi dX0_hang_13 h (fun ω h => ?_)
  cases h
  exact g_vret rfl dX0_hang_14 rfl
def F_X4_become (Θ : GP) (l0 : Nat) (l1 : Nat) (ω : OW) (n : Nat) : RO := rI ω l1 4 0 (fun x1 => wF ω l0 4 0 (.int x1) (fun ω => rI ω l1 4 1 (fun x2 => wF ω l0 4 1 (.int x2) (fun ω => rA ω l1 4 2 (fun a3 => rA ω l0 4 2 (fun a4 => cpI ω (gI Θ) a3 0 a4 0 240 (fun ω => some (.inl (none, ω, n)))))))))
theorem ok_X4_become (Θ : GP) (l0 : Nat) (l1 : Nat) (ω : OW) (n : Nat) : Ok Θ 1 0 0 yX4_become cX4_become 2 (none : Option Jvm.ClassFile.FieldType) [.ref l0, .ref l1] ω n (F_X4_become Θ l0 l1 ω n) := by
  refine Ok.of (by decide +kernel) (Nat.le_of_ble_eq_true rfl) (fun r h => ?_)
  unfold F_X4_become at h
  show GR Θ yX4_become cX4_become 2 (none : Option Jvm.ClassFile.FieldType) 1 (0, 0) 0 [(0, .ref l0), (1, .ref l1)] [] ω n r
  refine g_aload_n dX4_become_0 rfl 0 rfl ?_
  refine g_aload_n dX4_become_1 rfl 1 rfl ?_
  refine g_rI fl_X4_9 dX4_become_2 h (fun x1 h => ?_)
  refine g_wF fl_X4_9 dX4_become_5 (rfl) rfl h (fun ω h => ?_)
  refine g_aload_n dX4_become_8 rfl 0 rfl ?_
  refine g_aload_n dX4_become_9 rfl 1 rfl ?_
  refine g_rI fl_X4_15 dX4_become_10 h (fun x2 h => ?_)
  refine g_wF fl_X4_15 dX4_become_13 (rfl) rfl h (fun ω h => ?_)
  refine g_aload_n dX4_become_16 rfl 1 rfl ?_
  refine g_rA fl_X4_18 dX4_become_17 h (fun a3 h => ?_)
  refine g_iconst (v := 0) dX4_become_20 (by decide) ?_
  refine g_aload_n dX4_become_21 rfl 0 rfl ?_
  refine g_rA fl_X4_18 dX4_become_22 h (fun a4 h => ?_)
  refine g_iconst (v := 0) dX4_become_25 (by decide) ?_
  refine g_sipush (v := 240) dX4_become_26 (by decide) ?_
  refine g_cp wd_753 wd_580 wd_579 wd_124 dX4_become_29 (by decide) (Nat.le_of_ble_eq_true rfl) h (fun ω h => ?_)
  cases h
  exact g_vret rfl dX4_become_32 rfl
def F_X0_become (Θ : GP) (l0 : Nat) (l1 : Nat) (ω : OW) (n : Nat) : RO := rI ω l1 0 0 (fun x1 => wF ω l0 0 0 (.int x1) (fun ω => rI ω l1 0 1 (fun x2 => wF ω l0 0 1 (.int x2) (fun ω => rI ω l1 0 2 (fun x3 => wF ω l0 0 2 (.int x3) (fun ω => rI ω l1 0 3 (fun x4 => wF ω l0 0 3 (.int x4) (fun ω => rI ω l1 0 4 (fun x5 => wF ω l0 0 4 (.int x5) (fun ω => rI ω l1 0 5 (fun x6 => wF ω l0 0 5 (.int x6) (fun ω => rI ω l1 0 6 (fun x7 => wF ω l0 0 6 (.int x7) (fun ω => rA ω l1 0 7 (fun a8 => rA ω l0 0 7 (fun a9 => cpI ω (gI Θ) a8 0 a9 0 8 (fun ω => rA ω l1 0 8 (fun a10 => rA ω l0 0 8 (fun a11 => cpI ω (gI Θ) a10 0 a11 0 8 (fun ω => rA ω l1 0 9 (fun a12 => rA ω l0 0 9 (fun a13 => cpI ω (gI Θ) a12 0 a13 0 8 (fun ω => rA ω l1 0 10 (fun a14 => rA ω l0 0 10 (fun a15 => cpI ω (gI Θ) a14 0 a15 0 8 (fun ω => rA ω l1 0 11 (fun a16 => rA ω l0 0 11 (fun a17 => cpI ω (gI Θ) a16 0 a17 0 10 (fun ω => rA ω l1 0 12 (fun a18 => rA ω l0 0 12 (fun a19 => cpI ω (gI Θ) a18 0 a19 0 6 (fun ω => rA ω l1 0 13 (fun a20 => rA ω l0 0 13 (fun a21 => cpI ω (gI Θ) a20 0 a21 0 6 (fun ω => rA ω l1 0 14 (fun a22 => rA ω l0 0 14 (fun a23 => cpI ω (gI Θ) a22 0 a23 0 6 (fun ω => rA ω l1 0 15 (fun a24 => rA ω l0 0 15 (fun a25 => cpI ω (gI Θ) a24 0 a25 0 6 (fun ω => rA ω l0 0 16 (fun a26 => rA ω l1 0 16 (fun a27 => cO ω a26 4 (kV (F_X4_become Θ a26 a27 ω n) (fun ω n => rA ω l1 0 17 (fun a29 => wF ω l0 0 17 (.ref a29) (fun ω => some (.inl (none, ω, n)))))))))))))))))))))))))))))))))))))))))))))))))
theorem ok_X0_become (Θ : GP) (l0 : Nat) (l1 : Nat) (ω : OW) (n : Nat) : Ok Θ 2 0 0 yX0_become cX0_become 2 (none : Option Jvm.ClassFile.FieldType) [.ref l0, .ref l1] ω n (F_X0_become Θ l0 l1 ω n) := by
  refine Ok.of (by decide +kernel) (Nat.le_of_ble_eq_true rfl) (fun r h => ?_)
  unfold F_X0_become at h
  show GR Θ yX0_become cX0_become 2 (none : Option Jvm.ClassFile.FieldType) 2 (0, 0) 0 [(0, .ref l0), (1, .ref l1)] [] ω n r
  refine g_aload_n dX0_become_0 rfl 0 rfl ?_
  refine g_aload_n dX0_become_1 rfl 1 rfl ?_
  refine g_rI fl_X0_9 dX0_become_2 h (fun x1 h => ?_)
  refine g_wF fl_X0_9 dX0_become_5 (rfl) rfl h (fun ω h => ?_)
  refine g_aload_n dX0_become_8 rfl 0 rfl ?_
  refine g_aload_n dX0_become_9 rfl 1 rfl ?_
  refine g_rI fl_X0_15 dX0_become_10 h (fun x2 h => ?_)
  refine g_wF fl_X0_15 dX0_become_13 (rfl) rfl h (fun ω h => ?_)
  refine g_aload_n dX0_become_16 rfl 0 rfl ?_
  refine g_aload_n dX0_become_17 rfl 1 rfl ?_
  refine g_rI fl_X0_18 dX0_become_18 h (fun x3 h => ?_)
  refine g_wF fl_X0_18 dX0_become_21 (rfl) rfl h (fun ω h => ?_)
  refine g_aload_n dX0_become_24 rfl 0 rfl ?_
  refine g_aload_n dX0_become_25 rfl 1 rfl ?_
  refine g_rI fl_X0_21 dX0_become_26 h (fun x4 h => ?_)
  refine g_wF fl_X0_21 dX0_become_29 (rfl) rfl h (fun ω h => ?_)
  refine g_aload_n dX0_become_32 rfl 0 rfl ?_
  refine g_aload_n dX0_become_33 rfl 1 rfl ?_
  refine g_rI fl_X0_24 dX0_become_34 h (fun x5 h => ?_)
  refine g_wF fl_X0_24 dX0_become_37 (rfl) rfl h (fun ω h => ?_)
  refine g_aload_n dX0_become_40 rfl 0 rfl ?_
  refine g_aload_n dX0_become_41 rfl 1 rfl ?_
  refine g_rI fl_X0_27 dX0_become_42 h (fun x6 h => ?_)
  refine g_wF fl_X0_27 dX0_become_45 (rfl) rfl h (fun ω h => ?_)
  refine g_aload_n dX0_become_48 rfl 0 rfl ?_
  refine g_aload_n dX0_become_49 rfl 1 rfl ?_
  refine g_rI fl_X0_30 dX0_become_50 h (fun x7 h => ?_)
  refine g_wF fl_X0_30 dX0_become_53 (rfl) rfl h (fun ω h => ?_)
  refine g_aload_n dX0_become_56 rfl 1 rfl ?_
  refine g_rA fl_X0_33 dX0_become_57 h (fun a8 h => ?_)
  refine g_iconst (v := 0) dX0_become_60 (by decide) ?_
  refine g_aload_n dX0_become_61 rfl 0 rfl ?_
  refine g_rA fl_X0_33 dX0_become_62 h (fun a9 h => ?_)
  refine g_iconst (v := 0) dX0_become_65 (by decide) ?_
  refine g_bipush (v := 8) dX0_become_66 (by decide) ?_
  refine g_cp wd_748 wd_580 wd_579 wd_124 dX0_become_68 (by decide) (Nat.le_of_ble_eq_true rfl) h (fun ω h => ?_)
  refine g_aload_n dX0_become_71 rfl 1 rfl ?_
  refine g_rA fl_X0_37 dX0_become_72 h (fun a10 h => ?_)
  refine g_iconst (v := 0) dX0_become_75 (by decide) ?_
  refine g_aload_n dX0_become_76 rfl 0 rfl ?_
  refine g_rA fl_X0_37 dX0_become_77 h (fun a11 h => ?_)
  refine g_iconst (v := 0) dX0_become_80 (by decide) ?_
  refine g_bipush (v := 8) dX0_become_81 (by decide) ?_
  refine g_cp wd_748 wd_580 wd_579 wd_124 dX0_become_83 (by decide) (Nat.le_of_ble_eq_true rfl) h (fun ω h => ?_)
  refine g_aload_n dX0_become_86 rfl 1 rfl ?_
  refine g_rA fl_X0_40 dX0_become_87 h (fun a12 h => ?_)
  refine g_iconst (v := 0) dX0_become_90 (by decide) ?_
  refine g_aload_n dX0_become_91 rfl 0 rfl ?_
  refine g_rA fl_X0_40 dX0_become_92 h (fun a13 h => ?_)
  refine g_iconst (v := 0) dX0_become_95 (by decide) ?_
  refine g_bipush (v := 8) dX0_become_96 (by decide) ?_
  refine g_cp wd_748 wd_580 wd_579 wd_124 dX0_become_98 (by decide) (Nat.le_of_ble_eq_true rfl) h (fun ω h => ?_)
  refine g_aload_n dX0_become_101 rfl 1 rfl ?_
  refine g_rA fl_X0_43 dX0_become_102 h (fun a14 h => ?_)
  refine g_iconst (v := 0) dX0_become_105 (by decide) ?_
  refine g_aload_n dX0_become_106 rfl 0 rfl ?_
  refine g_rA fl_X0_43 dX0_become_107 h (fun a15 h => ?_)
  refine g_iconst (v := 0) dX0_become_110 (by decide) ?_
  refine g_bipush (v := 8) dX0_become_111 (by decide) ?_
  refine g_cp wd_748 wd_580 wd_579 wd_124 dX0_become_113 (by decide) (Nat.le_of_ble_eq_true rfl) h (fun ω h => ?_)
  refine g_aload_n dX0_become_116 rfl 1 rfl ?_
  refine g_rA fl_X0_46 dX0_become_117 h (fun a16 h => ?_)
  refine g_iconst (v := 0) dX0_become_120 (by decide) ?_
  refine g_aload_n dX0_become_121 rfl 0 rfl ?_
  refine g_rA fl_X0_46 dX0_become_122 h (fun a17 h => ?_)
  refine g_iconst (v := 0) dX0_become_125 (by decide) ?_
  refine g_bipush (v := 10) dX0_become_126 (by decide) ?_
  refine g_cp wd_748 wd_580 wd_579 wd_124 dX0_become_128 (by decide) (Nat.le_of_ble_eq_true rfl) h (fun ω h => ?_)
  refine g_aload_n dX0_become_131 rfl 1 rfl ?_
  refine g_rA fl_X0_49 dX0_become_132 h (fun a18 h => ?_)
  refine g_iconst (v := 0) dX0_become_135 (by decide) ?_
  refine g_aload_n dX0_become_136 rfl 0 rfl ?_
  refine g_rA fl_X0_49 dX0_become_137 h (fun a19 h => ?_)
  refine g_iconst (v := 0) dX0_become_140 (by decide) ?_
  refine g_bipush (v := 6) dX0_become_141 (by decide) ?_
  refine g_cp wd_748 wd_580 wd_579 wd_124 dX0_become_143 (by decide) (Nat.le_of_ble_eq_true rfl) h (fun ω h => ?_)
  refine g_aload_n dX0_become_146 rfl 1 rfl ?_
  refine g_rA fl_X0_52 dX0_become_147 h (fun a20 h => ?_)
  refine g_iconst (v := 0) dX0_become_150 (by decide) ?_
  refine g_aload_n dX0_become_151 rfl 0 rfl ?_
  refine g_rA fl_X0_52 dX0_become_152 h (fun a21 h => ?_)
  refine g_iconst (v := 0) dX0_become_155 (by decide) ?_
  refine g_bipush (v := 6) dX0_become_156 (by decide) ?_
  refine g_cp wd_748 wd_580 wd_579 wd_124 dX0_become_158 (by decide) (Nat.le_of_ble_eq_true rfl) h (fun ω h => ?_)
  refine g_aload_n dX0_become_161 rfl 1 rfl ?_
  refine g_rA fl_X0_55 dX0_become_162 h (fun a22 h => ?_)
  refine g_iconst (v := 0) dX0_become_165 (by decide) ?_
  refine g_aload_n dX0_become_166 rfl 0 rfl ?_
  refine g_rA fl_X0_55 dX0_become_167 h (fun a23 h => ?_)
  refine g_iconst (v := 0) dX0_become_170 (by decide) ?_
  refine g_bipush (v := 6) dX0_become_171 (by decide) ?_
  refine g_cp wd_748 wd_580 wd_579 wd_124 dX0_become_173 (by decide) (Nat.le_of_ble_eq_true rfl) h (fun ω h => ?_)
  refine g_aload_n dX0_become_176 rfl 1 rfl ?_
  refine g_rA fl_X0_58 dX0_become_177 h (fun a24 h => ?_)
  refine g_iconst (v := 0) dX0_become_180 (by decide) ?_
  refine g_aload_n dX0_become_181 rfl 0 rfl ?_
  refine g_rA fl_X0_58 dX0_become_182 h (fun a25 h => ?_)
  refine g_iconst (v := 0) dX0_become_185 (by decide) ?_
  refine g_bipush (v := 6) dX0_become_186 (by decide) ?_
  refine g_cp wd_748 wd_580 wd_579 wd_124 dX0_become_188 (by decide) (Nat.le_of_ble_eq_true rfl) h (fun ω h => ?_)
  refine g_aload_n dX0_become_191 rfl 0 rfl ?_
  refine g_rA fl_X0_64 dX0_become_192 h (fun a26 h => ?_)
  refine g_aload_n dX0_become_195 rfl 1 rfl ?_
  refine g_rA fl_X0_64 dX0_become_196 h (fun a27 h => ?_)
  refine g_cV (ci := 4) (As := [.ref a27]) mv_X0_84 dX0_become_199 rfl (ok_X4_become Θ a26 a27 _ _) rfl rfl (Nat.le_of_ble_eq_true rfl) (by decide) (by decide) (by decide) h (fun ω n h => ?_)
  refine G.less (B' := (0, 0)) (by decide) (by decide) ?_
  refine g_aload_n dX0_become_202 rfl 0 rfl ?_
  refine g_aload_n dX0_become_203 rfl 1 rfl ?_
  refine g_rA fl_X0_68 dX0_become_204 h (fun a29 h => ?_)
  refine g_wF fl_X0_68 dX0_become_207 (rfl) rfl h (fun ω h => ?_)
  cases h
  exact g_vret rfl dX0_become_210 rfl
def J_X1_addAccused_71 (Θ : GP) (ω : OW) (n : Nat) : RO := some (.inl (none, ω, n))
def F_X1_addAccused (Θ : GP) (l0 : Nat) (l1 : Int32) (l2 : Int32) (l3 : Int32) (ω : OW) (n : Nat) : RO := rA ω l0 1 1 (fun a1 => rI ω a1 0 1 (fun x2 => if 6 ≤ x2 then (J_X1_addAccused_71 Θ ω n) else (rA ω l0 1 1 (fun a4 => rA ω a4 0 13 (fun a5 => sI ω (gI Θ) a5 x2 l1 (fun ω => rA ω l0 1 1 (fun a6 => rA ω a6 0 12 (fun a7 => sI ω (gI Θ) a7 x2 l2 (fun ω => rA ω l0 1 1 (fun a8 => rA ω a8 0 14 (fun a9 => sI ω (gI Θ) a9 x2 l3 (fun ω => rA ω l0 1 1 (fun a10 => rA ω a10 0 15 (fun a11 => sI ω (gI Θ) a11 x2 0 (fun ω => rA ω l0 1 1 (fun a12 => wF ω a12 0 1 (.int (x2 + 1)) (fun ω => J_X1_addAccused_71 Θ ω n)))))))))))))))))
theorem ok_J_X1_addAccused_71 (Θ : GP) (ω : OW) (n : Nat) (r : Out) (h : J_X1_addAccused_71 Θ ω n = some r) : GR Θ yX1_addAccused cX1_addAccused 5 (none : Option Jvm.ClassFile.FieldType) 1 (0, 0) 71 [] [] ω n r := by
  unfold J_X1_addAccused_71 at h
  cases h
  exact g_vret rfl dX1_addAccused_71 rfl
theorem ok_X1_addAccused (Θ : GP) (l0 : Nat) (l1 : Int32) (l2 : Int32) (l3 : Int32) (ω : OW) (n : Nat) : Ok Θ 1 0 0 yX1_addAccused cX1_addAccused 5 (none : Option Jvm.ClassFile.FieldType) [.ref l0, .int l1, .int l2, .int l3] ω n (F_X1_addAccused Θ l0 l1 l2 l3 ω n) := by
  refine Ok.of (by decide +kernel) (Nat.le_of_ble_eq_true rfl) (fun r h => ?_)
  unfold F_X1_addAccused at h
  show GR Θ yX1_addAccused cX1_addAccused 5 (none : Option Jvm.ClassFile.FieldType) 1 (0, 0) 0 [(0, .ref l0), (1, .int l1), (2, .int l2), (3, .int l3)] [] ω n r
  refine g_aload_n dX1_addAccused_0 rfl 0 rfl ?_
  refine g_rA fl_X1_15 dX1_addAccused_1 h (fun a1 h => ?_)
  refine g_rI fl_X1_52 dX1_addAccused_4 h (fun x2 h => ?_)
  refine g_istore (lv' := [(4, .int x2), (0, .ref l0), (1, .int l1), (2, .int l2), (3, .int l3)]) dX1_addAccused_7 (by decide) rfl ?_
  refine g_iload dX1_addAccused_9 0 rfl ?_
  refine g_bipush (v := 6) dX1_addAccused_11 (by decide) ?_
  refine g_icmp_ge (tgt := 71) dX1_addAccused_13 (by decide) (fun c3 => ?_) (fun c3 => ?_)
  · rw [if_pos c3] at h
    refine G.lsub [] rfl ?_
    exact ok_J_X1_addAccused_71 Θ _ _ r h
  · rw [if_neg c3] at h
    refine g_aload_n dX1_addAccused_16 rfl 1 rfl ?_
    refine g_rA fl_X1_15 dX1_addAccused_17 h (fun a4 h => ?_)
    refine g_rA fl_X1_133 dX1_addAccused_20 h (fun a5 h => ?_)
    refine g_iload dX1_addAccused_23 0 rfl ?_
    refine g_iload_n dX1_addAccused_25 rfl 2 rfl ?_
    refine g_sIi dX1_addAccused_26 h (fun ω h => ?_)
    refine g_aload_n dX1_addAccused_27 rfl 1 rfl ?_
    refine g_rA fl_X1_15 dX1_addAccused_28 h (fun a6 h => ?_)
    refine g_rA fl_X1_136 dX1_addAccused_31 h (fun a7 h => ?_)
    refine g_iload dX1_addAccused_34 0 rfl ?_
    refine g_iload_n dX1_addAccused_36 rfl 3 rfl ?_
    refine g_sIi dX1_addAccused_37 h (fun ω h => ?_)
    refine g_aload_n dX1_addAccused_38 rfl 1 rfl ?_
    refine g_rA fl_X1_15 dX1_addAccused_39 h (fun a8 h => ?_)
    refine g_rA fl_X1_138 dX1_addAccused_42 h (fun a9 h => ?_)
    refine g_iload dX1_addAccused_45 0 rfl ?_
    refine g_iload_n dX1_addAccused_47 rfl 4 rfl ?_
    refine g_sIi dX1_addAccused_48 h (fun ω h => ?_)
    refine g_aload_n dX1_addAccused_49 rfl 1 rfl ?_
    refine g_rA fl_X1_15 dX1_addAccused_50 h (fun a10 h => ?_)
    refine g_rA fl_X1_141 dX1_addAccused_53 h (fun a11 h => ?_)
    refine g_iload dX1_addAccused_56 0 rfl ?_
    refine g_iconst (v := 0) dX1_addAccused_58 (by decide) ?_
    refine g_sIi dX1_addAccused_59 h (fun ω h => ?_)
    refine g_aload_n dX1_addAccused_60 rfl 1 rfl ?_
    refine g_rA fl_X1_15 dX1_addAccused_61 h (fun a12 h => ?_)
    refine g_iload dX1_addAccused_64 0 rfl ?_
    refine g_iconst (v := 1) dX1_addAccused_66 (by decide) ?_
    refine g_iadd dX1_addAccused_67 ?_
    refine g_wF fl_X1_52 dX1_addAccused_68 (rfl) rfl h (fun ω h => ?_)
    refine G.lsub [] rfl ?_
    exact ok_J_X1_addAccused_71 Θ _ _ r h
def J_X8_advance_285 (Θ : GP) (ω : OW) (n : Nat) : RO := some (.inl (none, ω, n))
def J_X8_advance_270 (Θ : GP) (l0 : Nat) (ω : OW) (n : Nat) : RO := wF ω l0 8 3 (.int 3) (fun ω => rI ω l0 8 2 (fun x1 => wF ω l0 8 2 (.int (x1 + 1)) (fun ω => J_X8_advance_285 Θ ω n)))
def B_X8_advance_218 (Θ : GP) (k_218 : Nat → OW → Nat → RO) (l0 : Nat) (ω : OW) (n : Nat) : RO := rI ω l0 8 2 (fun x2 => rI ω l0 8 0 (fun x3 => if x3 ≤ x2 then (J_X8_advance_285 Θ ω n) else (rA ω l0 8 5 (fun a5 => rI ω l0 8 2 (fun x6 => lI ω (gI Θ) a5 x6 (fun x7 => if x7 < 48 then (J_X8_advance_285 Θ ω n) else (rA ω l0 8 5 (fun a9 => rI ω l0 8 2 (fun x10 => lI ω (gI Θ) a9 x10 (fun x11 => if 57 < x11 then (J_X8_advance_285 Θ ω n) else (rI ω l0 8 2 (fun x13 => wF ω l0 8 2 (.int (x13 + 1)) (fun ω => k_218 l0 ω n)))))))))))))
def L_X8_advance_218 (Θ : GP) : Nat → Nat → OW → Nat → RO
  | 0, _, _, _ => none
  | f + 1, l0, ω, n => B_X8_advance_218 Θ (L_X8_advance_218 Θ f) l0 ω n
def J_X8_advance_185 (Θ : GP) (l0 : Nat) (ω : OW) (n : Nat) : RO := rA ω l0 8 5 (fun a14 => rI ω l0 8 1 (fun x15 => lI ω (gI Θ) a14 x15 (fun x16 => if x16 < 48 then (J_X8_advance_270 Θ l0 ω n) else (rA ω l0 8 5 (fun a18 => rI ω l0 8 1 (fun x19 => lI ω (gI Θ) a18 x19 (fun x20 => if 57 < x20 then (J_X8_advance_270 Θ l0 ω n) else (wF ω l0 8 3 (.int 2) (fun ω => L_X8_advance_218 Θ 5000 l0 ω n)))))))))
def B_X8_advance_111 (Θ : GP) (k_111 : Nat → OW → Nat → RO) (l0 : Nat) (ω : OW) (n : Nat) : RO := rI ω l0 8 2 (fun x22 => rI ω l0 8 0 (fun x23 => if x23 ≤ x22 then (J_X8_advance_285 Θ ω n) else (rA ω l0 8 5 (fun a25 => rI ω l0 8 2 (fun x26 => lI ω (gI Θ) a25 x26 (fun x27 => if x27 < 97 then (J_X8_advance_285 Θ ω n) else (rA ω l0 8 5 (fun a29 => rI ω l0 8 2 (fun x30 => lI ω (gI Θ) a29 x30 (fun x31 => if 122 < x31 then (J_X8_advance_285 Θ ω n) else (rL ω l0 8 4 (fun w33 => rA ω l0 8 5 (fun a34 => rI ω l0 8 2 (fun x35 => lI ω (gI Θ) a34 x35 (fun x36 => wF ω l0 8 4 (.long ((w33 <<< (Int32.toInt64 8 &&& 63)) ||| ((x36 : Int32).toInt64))) (fun ω => rI ω l0 8 2 (fun x37 => wF ω l0 8 2 (.int (x37 + 1)) (fun ω => k_111 l0 ω n))))))))))))))))))
def L_X8_advance_111 (Θ : GP) : Nat → Nat → OW → Nat → RO
  | 0, _, _, _ => none
  | f + 1, l0, ω, n => B_X8_advance_111 Θ (L_X8_advance_111 Θ f) l0 ω n
def J_X8_advance_46 (Θ : GP) (l0 : Nat) (ω : OW) (n : Nat) : RO := rI ω l0 8 1 (fun x38 => wF ω l0 8 2 (.int x38) (fun ω => wF ω l0 8 4 (.long 0) (fun ω => rI ω l0 8 1 (fun x39 => rI ω l0 8 0 (fun x40 => if x39 < x40 then (rA ω l0 8 5 (fun a42 => rI ω l0 8 1 (fun x43 => lI ω (gI Θ) a42 x43 (fun x44 => if x44 < 97 then (J_X8_advance_185 Θ l0 ω n) else (rA ω l0 8 5 (fun a46 => rI ω l0 8 1 (fun x47 => lI ω (gI Θ) a46 x47 (fun x48 => if 122 < x48 then (J_X8_advance_185 Θ l0 ω n) else (wF ω l0 8 3 (.int 1) (fun ω => L_X8_advance_111 Θ 5000 l0 ω n)))))))))) else (wF ω l0 8 3 (.int 0) (fun ω => J_X8_advance_285 Θ ω n)))))))
def B_X8_advance_8 (Θ : GP) (k_8 : Nat → OW → Nat → RO) (l0 : Nat) (ω : OW) (n : Nat) : RO := rI ω l0 8 1 (fun x50 => rI ω l0 8 0 (fun x51 => if x51 ≤ x50 then (J_X8_advance_46 Θ l0 ω n) else (rA ω l0 8 5 (fun a53 => rI ω l0 8 1 (fun x54 => lI ω (gI Θ) a53 x54 (fun x55 => if x55 = 32 then (rI ω l0 8 1 (fun x57 => wF ω l0 8 1 (.int (x57 + 1)) (fun ω => k_8 l0 ω n))) else (J_X8_advance_46 Θ l0 ω n)))))))
def L_X8_advance_8 (Θ : GP) : Nat → Nat → OW → Nat → RO
  | 0, _, _, _ => none
  | f + 1, l0, ω, n => B_X8_advance_8 Θ (L_X8_advance_8 Θ f) l0 ω n
def F_X8_advance (Θ : GP) (l0 : Nat) (ω : OW) (n : Nat) : RO := rI ω l0 8 2 (fun x58 => wF ω l0 8 1 (.int x58) (fun ω => L_X8_advance_8 Θ 5000 l0 ω n))
theorem ok_J_X8_advance_285 (Θ : GP) (ω : OW) (n : Nat) (r : Out) (h : J_X8_advance_285 Θ ω n = some r) : GR Θ yX8_advance cX8_advance 1 (none : Option Jvm.ClassFile.FieldType) 1 (0, 0) 285 [] [] ω n r := by
  unfold J_X8_advance_285 at h
  cases h
  exact g_vret rfl dX8_advance_285 rfl
theorem ok_J_X8_advance_270 (Θ : GP) (l0 : Nat) (ω : OW) (n : Nat) (r : Out) (h : J_X8_advance_270 Θ l0 ω n = some r) : GR Θ yX8_advance cX8_advance 1 (none : Option Jvm.ClassFile.FieldType) 1 (0, 0) 270 [(0, .ref l0)] [] ω n r := by
  unfold J_X8_advance_270 at h
  refine g_aload_n dX8_advance_270 rfl 0 rfl ?_
  refine g_iconst (v := 3) dX8_advance_271 (by decide) ?_
  refine g_wF fl_X8_21 dX8_advance_272 (rfl) rfl h (fun ω h => ?_)
  refine g_aload_n dX8_advance_275 rfl 0 rfl ?_
  refine g_dup dX8_advance_276 rfl ?_
  refine g_rI fl_X8_18 dX8_advance_277 h (fun x1 h => ?_)
  refine g_iconst (v := 1) dX8_advance_280 (by decide) ?_
  refine g_iadd dX8_advance_281 ?_
  refine g_wF fl_X8_18 dX8_advance_282 (rfl) rfl h (fun ω h => ?_)
  refine G.lsub [] rfl ?_
  exact ok_J_X8_advance_285 Θ _ _ r h
theorem ok_B_X8_advance_218 (Θ : GP) (k_218 : Nat → OW → Nat → RO) (hk_218 : ∀ l0 ω n r, k_218 l0 ω n = some r → GR Θ yX8_advance cX8_advance 1 (none : Option Jvm.ClassFile.FieldType) 1 (0, 0) 218 [(0, .ref l0)] [] ω n r) (l0 : Nat) (ω : OW) (n : Nat) (r : Out) (h : B_X8_advance_218 Θ k_218 l0 ω n = some r) : GR Θ yX8_advance cX8_advance 1 (none : Option Jvm.ClassFile.FieldType) 1 (0, 0) 218 [(0, .ref l0)] [] ω n r := by
  unfold B_X8_advance_218 at h
  refine g_aload_n dX8_advance_218 rfl 0 rfl ?_
  refine g_rI fl_X8_18 dX8_advance_219 h (fun x2 h => ?_)
  refine g_aload_n dX8_advance_222 rfl 0 rfl ?_
  refine g_rI fl_X8_9 dX8_advance_223 h (fun x3 h => ?_)
  refine g_icmp_ge (tgt := 285) dX8_advance_226 (by decide) (fun c4 => ?_) (fun c4 => ?_)
  · rw [if_pos c4] at h
    refine G.lsub [] rfl ?_
    exact ok_J_X8_advance_285 Θ _ _ r h
  · rw [if_neg c4] at h
    refine g_aload_n dX8_advance_229 rfl 0 rfl ?_
    refine g_rA fl_X8_28 dX8_advance_230 h (fun a5 h => ?_)
    refine g_aload_n dX8_advance_233 rfl 0 rfl ?_
    refine g_rI fl_X8_18 dX8_advance_234 h (fun x6 h => ?_)
    refine g_lIi dX8_advance_237 h (fun x7 h => ?_)
    refine g_bipush (v := 48) dX8_advance_238 (by decide) ?_
    refine g_icmp_lt (tgt := 285) dX8_advance_240 (by decide) (fun c8 => ?_) (fun c8 => ?_)
    · rw [if_pos c8] at h
      refine G.lsub [] rfl ?_
      exact ok_J_X8_advance_285 Θ _ _ r h
    · rw [if_neg c8] at h
      refine g_aload_n dX8_advance_243 rfl 0 rfl ?_
      refine g_rA fl_X8_28 dX8_advance_244 h (fun a9 h => ?_)
      refine g_aload_n dX8_advance_247 rfl 0 rfl ?_
      refine g_rI fl_X8_18 dX8_advance_248 h (fun x10 h => ?_)
      refine g_lIi dX8_advance_251 h (fun x11 h => ?_)
      refine g_bipush (v := 57) dX8_advance_252 (by decide) ?_
      refine g_icmp_gt (tgt := 285) dX8_advance_254 (by decide) (fun c12 => ?_) (fun c12 => ?_)
      · rw [if_pos c12] at h
        refine G.lsub [] rfl ?_
        exact ok_J_X8_advance_285 Θ _ _ r h
      · rw [if_neg c12] at h
        refine g_aload_n dX8_advance_257 rfl 0 rfl ?_
        refine g_dup dX8_advance_258 rfl ?_
        refine g_rI fl_X8_18 dX8_advance_259 h (fun x13 h => ?_)
        refine g_iconst (v := 1) dX8_advance_262 (by decide) ?_
        refine g_iadd dX8_advance_263 ?_
        refine g_wF fl_X8_18 dX8_advance_264 (rfl) rfl h (fun ω h => ?_)
        refine g_goto (tgt := 218) dX8_advance_267 (by decide) ?_
        exact hk_218 l0 _ _ r h
theorem ok_L_X8_advance_218 (Θ : GP) : ∀ (f : Nat) (l0 : Nat) (ω : OW) (n : Nat) (r : Out), L_X8_advance_218 Θ f l0 ω n = some r → GR Θ yX8_advance cX8_advance 1 (none : Option Jvm.ClassFile.FieldType) 1 (0, 0) 218 [(0, .ref l0)] [] ω n r := by
  intro f
  induction f with
  | zero =>
    intro l0 ω n r h
    unfold L_X8_advance_218 at h
    cases h
  | succ f ih =>
    intro l0 ω n r h
    unfold L_X8_advance_218 at h
    exact ok_B_X8_advance_218 Θ (L_X8_advance_218 Θ f) ih l0 ω n r h
theorem ok_J_X8_advance_185 (Θ : GP) (l0 : Nat) (ω : OW) (n : Nat) (r : Out) (h : J_X8_advance_185 Θ l0 ω n = some r) : GR Θ yX8_advance cX8_advance 1 (none : Option Jvm.ClassFile.FieldType) 1 (0, 0) 185 [(0, .ref l0)] [] ω n r := by
  unfold J_X8_advance_185 at h
  refine g_aload_n dX8_advance_185 rfl 0 rfl ?_
  refine g_rA fl_X8_28 dX8_advance_186 h (fun a14 h => ?_)
  refine g_aload_n dX8_advance_189 rfl 0 rfl ?_
  refine g_rI fl_X8_15 dX8_advance_190 h (fun x15 h => ?_)
  refine g_lIi dX8_advance_193 h (fun x16 h => ?_)
  refine g_bipush (v := 48) dX8_advance_194 (by decide) ?_
  refine g_icmp_lt (tgt := 270) dX8_advance_196 (by decide) (fun c17 => ?_) (fun c17 => ?_)
  · rw [if_pos c17] at h
    exact ok_J_X8_advance_270 Θ l0 _ _ r h
  · rw [if_neg c17] at h
    refine g_aload_n dX8_advance_199 rfl 0 rfl ?_
    refine g_rA fl_X8_28 dX8_advance_200 h (fun a18 h => ?_)
    refine g_aload_n dX8_advance_203 rfl 0 rfl ?_
    refine g_rI fl_X8_15 dX8_advance_204 h (fun x19 h => ?_)
    refine g_lIi dX8_advance_207 h (fun x20 h => ?_)
    refine g_bipush (v := 57) dX8_advance_208 (by decide) ?_
    refine g_icmp_gt (tgt := 270) dX8_advance_210 (by decide) (fun c21 => ?_) (fun c21 => ?_)
    · rw [if_pos c21] at h
      exact ok_J_X8_advance_270 Θ l0 _ _ r h
    · rw [if_neg c21] at h
      refine g_aload_n dX8_advance_213 rfl 0 rfl ?_
      refine g_iconst (v := 2) dX8_advance_214 (by decide) ?_
      refine g_wF fl_X8_21 dX8_advance_215 (rfl) rfl h (fun ω h => ?_)
      exact ok_L_X8_advance_218 Θ 5000 l0 _ _ r h
theorem ok_B_X8_advance_111 (Θ : GP) (k_111 : Nat → OW → Nat → RO) (hk_111 : ∀ l0 ω n r, k_111 l0 ω n = some r → GR Θ yX8_advance cX8_advance 1 (none : Option Jvm.ClassFile.FieldType) 1 (0, 0) 111 [(0, .ref l0)] [] ω n r) (l0 : Nat) (ω : OW) (n : Nat) (r : Out) (h : B_X8_advance_111 Θ k_111 l0 ω n = some r) : GR Θ yX8_advance cX8_advance 1 (none : Option Jvm.ClassFile.FieldType) 1 (0, 0) 111 [(0, .ref l0)] [] ω n r := by
  unfold B_X8_advance_111 at h
  refine g_aload_n dX8_advance_111 rfl 0 rfl ?_
  refine g_rI fl_X8_18 dX8_advance_112 h (fun x22 h => ?_)
  refine g_aload_n dX8_advance_115 rfl 0 rfl ?_
  refine g_rI fl_X8_9 dX8_advance_116 h (fun x23 h => ?_)
  refine g_icmp_ge (tgt := 285) dX8_advance_119 (by decide) (fun c24 => ?_) (fun c24 => ?_)
  · rw [if_pos c24] at h
    refine G.lsub [] rfl ?_
    exact ok_J_X8_advance_285 Θ _ _ r h
  · rw [if_neg c24] at h
    refine g_aload_n dX8_advance_122 rfl 0 rfl ?_
    refine g_rA fl_X8_28 dX8_advance_123 h (fun a25 h => ?_)
    refine g_aload_n dX8_advance_126 rfl 0 rfl ?_
    refine g_rI fl_X8_18 dX8_advance_127 h (fun x26 h => ?_)
    refine g_lIi dX8_advance_130 h (fun x27 h => ?_)
    refine g_bipush (v := 97) dX8_advance_131 (by decide) ?_
    refine g_icmp_lt (tgt := 285) dX8_advance_133 (by decide) (fun c28 => ?_) (fun c28 => ?_)
    · rw [if_pos c28] at h
      refine G.lsub [] rfl ?_
      exact ok_J_X8_advance_285 Θ _ _ r h
    · rw [if_neg c28] at h
      refine g_aload_n dX8_advance_136 rfl 0 rfl ?_
      refine g_rA fl_X8_28 dX8_advance_137 h (fun a29 h => ?_)
      refine g_aload_n dX8_advance_140 rfl 0 rfl ?_
      refine g_rI fl_X8_18 dX8_advance_141 h (fun x30 h => ?_)
      refine g_lIi dX8_advance_144 h (fun x31 h => ?_)
      refine g_bipush (v := 122) dX8_advance_145 (by decide) ?_
      refine g_icmp_gt (tgt := 285) dX8_advance_147 (by decide) (fun c32 => ?_) (fun c32 => ?_)
      · rw [if_pos c32] at h
        refine G.lsub [] rfl ?_
        exact ok_J_X8_advance_285 Θ _ _ r h
      · rw [if_neg c32] at h
        refine g_aload_n dX8_advance_150 rfl 0 rfl ?_
        refine g_aload_n dX8_advance_151 rfl 0 rfl ?_
        refine g_rL fl_X8_24 dX8_advance_152 h (fun w33 h => ?_)
        refine g_bipush (v := 8) dX8_advance_155 (by decide) ?_
        refine g_lshl dX8_advance_157 rfl ?_
        refine g_aload_n dX8_advance_158 rfl 0 rfl ?_
        refine g_rA fl_X8_28 dX8_advance_159 h (fun a34 h => ?_)
        refine g_aload_n dX8_advance_162 rfl 0 rfl ?_
        refine g_rI fl_X8_18 dX8_advance_163 h (fun x35 h => ?_)
        refine g_lIi dX8_advance_166 h (fun x36 h => ?_)
        refine g_i2l dX8_advance_167 ?_
        refine g_lor dX8_advance_168 ?_
        refine g_wF fl_X8_24 dX8_advance_169 (rfl) rfl h (fun ω h => ?_)
        refine g_aload_n dX8_advance_172 rfl 0 rfl ?_
        refine g_dup dX8_advance_173 rfl ?_
        refine g_rI fl_X8_18 dX8_advance_174 h (fun x37 h => ?_)
        refine g_iconst (v := 1) dX8_advance_177 (by decide) ?_
        refine g_iadd dX8_advance_178 ?_
        refine g_wF fl_X8_18 dX8_advance_179 (rfl) rfl h (fun ω h => ?_)
        refine g_goto (tgt := 111) dX8_advance_182 (by decide) ?_
        exact hk_111 l0 _ _ r h
theorem ok_L_X8_advance_111 (Θ : GP) : ∀ (f : Nat) (l0 : Nat) (ω : OW) (n : Nat) (r : Out), L_X8_advance_111 Θ f l0 ω n = some r → GR Θ yX8_advance cX8_advance 1 (none : Option Jvm.ClassFile.FieldType) 1 (0, 0) 111 [(0, .ref l0)] [] ω n r := by
  intro f
  induction f with
  | zero =>
    intro l0 ω n r h
    unfold L_X8_advance_111 at h
    cases h
  | succ f ih =>
    intro l0 ω n r h
    unfold L_X8_advance_111 at h
    exact ok_B_X8_advance_111 Θ (L_X8_advance_111 Θ f) ih l0 ω n r h
theorem ok_J_X8_advance_46 (Θ : GP) (l0 : Nat) (ω : OW) (n : Nat) (r : Out) (h : J_X8_advance_46 Θ l0 ω n = some r) : GR Θ yX8_advance cX8_advance 1 (none : Option Jvm.ClassFile.FieldType) 1 (0, 0) 46 [(0, .ref l0)] [] ω n r := by
  unfold J_X8_advance_46 at h
  refine g_aload_n dX8_advance_46 rfl 0 rfl ?_
  refine g_aload_n dX8_advance_47 rfl 0 rfl ?_
  refine g_rI fl_X8_15 dX8_advance_48 h (fun x38 h => ?_)
  refine g_wF fl_X8_18 dX8_advance_51 (rfl) rfl h (fun ω h => ?_)
  refine g_aload_n dX8_advance_54 rfl 0 rfl ?_
  refine g_lconst (v := 0) dX8_advance_55 (by decide) ?_
  refine g_wF fl_X8_24 dX8_advance_56 (rfl) rfl h (fun ω h => ?_)
  refine g_aload_n dX8_advance_59 rfl 0 rfl ?_
  refine g_rI fl_X8_15 dX8_advance_60 h (fun x39 h => ?_)
  refine g_aload_n dX8_advance_63 rfl 0 rfl ?_
  refine g_rI fl_X8_9 dX8_advance_64 h (fun x40 h => ?_)
  refine g_icmp_lt (tgt := 78) dX8_advance_67 (by decide) (fun c41 => ?_) (fun c41 => ?_)
  · rw [if_pos c41] at h
    refine g_aload_n dX8_advance_78 rfl 0 rfl ?_
    refine g_rA fl_X8_28 dX8_advance_79 h (fun a42 h => ?_)
    refine g_aload_n dX8_advance_82 rfl 0 rfl ?_
    refine g_rI fl_X8_15 dX8_advance_83 h (fun x43 h => ?_)
    refine g_lIi dX8_advance_86 h (fun x44 h => ?_)
    refine g_bipush (v := 97) dX8_advance_87 (by decide) ?_
    refine g_icmp_lt (tgt := 185) dX8_advance_89 (by decide) (fun c45 => ?_) (fun c45 => ?_)
    · rw [if_pos c45] at h
      exact ok_J_X8_advance_185 Θ l0 _ _ r h
    · rw [if_neg c45] at h
      refine g_aload_n dX8_advance_92 rfl 0 rfl ?_
      refine g_rA fl_X8_28 dX8_advance_93 h (fun a46 h => ?_)
      refine g_aload_n dX8_advance_96 rfl 0 rfl ?_
      refine g_rI fl_X8_15 dX8_advance_97 h (fun x47 h => ?_)
      refine g_lIi dX8_advance_100 h (fun x48 h => ?_)
      refine g_bipush (v := 122) dX8_advance_101 (by decide) ?_
      refine g_icmp_gt (tgt := 185) dX8_advance_103 (by decide) (fun c49 => ?_) (fun c49 => ?_)
      · rw [if_pos c49] at h
        exact ok_J_X8_advance_185 Θ l0 _ _ r h
      · rw [if_neg c49] at h
        refine g_aload_n dX8_advance_106 rfl 0 rfl ?_
        refine g_iconst (v := 1) dX8_advance_107 (by decide) ?_
        refine g_wF fl_X8_21 dX8_advance_108 (rfl) rfl h (fun ω h => ?_)
        exact ok_L_X8_advance_111 Θ 5000 l0 _ _ r h
  · rw [if_neg c41] at h
    refine g_aload_n dX8_advance_70 rfl 0 rfl ?_
    refine g_iconst (v := 0) dX8_advance_71 (by decide) ?_
    refine g_wF fl_X8_21 dX8_advance_72 (rfl) rfl h (fun ω h => ?_)
    refine g_goto (tgt := 285) dX8_advance_75 (by decide) ?_
    refine G.lsub [] rfl ?_
    exact ok_J_X8_advance_285 Θ _ _ r h
theorem ok_B_X8_advance_8 (Θ : GP) (k_8 : Nat → OW → Nat → RO) (hk_8 : ∀ l0 ω n r, k_8 l0 ω n = some r → GR Θ yX8_advance cX8_advance 1 (none : Option Jvm.ClassFile.FieldType) 1 (0, 0) 8 [(0, .ref l0)] [] ω n r) (l0 : Nat) (ω : OW) (n : Nat) (r : Out) (h : B_X8_advance_8 Θ k_8 l0 ω n = some r) : GR Θ yX8_advance cX8_advance 1 (none : Option Jvm.ClassFile.FieldType) 1 (0, 0) 8 [(0, .ref l0)] [] ω n r := by
  unfold B_X8_advance_8 at h
  refine g_aload_n dX8_advance_8 rfl 0 rfl ?_
  refine g_rI fl_X8_15 dX8_advance_9 h (fun x50 h => ?_)
  refine g_aload_n dX8_advance_12 rfl 0 rfl ?_
  refine g_rI fl_X8_9 dX8_advance_13 h (fun x51 h => ?_)
  refine g_icmp_ge (tgt := 46) dX8_advance_16 (by decide) (fun c52 => ?_) (fun c52 => ?_)
  · rw [if_pos c52] at h
    exact ok_J_X8_advance_46 Θ l0 _ _ r h
  · rw [if_neg c52] at h
    refine g_aload_n dX8_advance_19 rfl 0 rfl ?_
    refine g_rA fl_X8_28 dX8_advance_20 h (fun a53 h => ?_)
    refine g_aload_n dX8_advance_23 rfl 0 rfl ?_
    refine g_rI fl_X8_15 dX8_advance_24 h (fun x54 h => ?_)
    refine g_lIi dX8_advance_27 h (fun x55 h => ?_)
    refine g_bipush (v := 32) dX8_advance_28 (by decide) ?_
    refine g_icmp_ne (tgt := 46) dX8_advance_30 (by decide) (fun c56 => ?_) (fun c56 => ?_)
    · rw [if_neg c56] at h
      exact ok_J_X8_advance_46 Θ l0 _ _ r h
    · rw [if_pos c56] at h
      refine g_aload_n dX8_advance_33 rfl 0 rfl ?_
      refine g_dup dX8_advance_34 rfl ?_
      refine g_rI fl_X8_15 dX8_advance_35 h (fun x57 h => ?_)
      refine g_iconst (v := 1) dX8_advance_38 (by decide) ?_
      refine g_iadd dX8_advance_39 ?_
      refine g_wF fl_X8_15 dX8_advance_40 (rfl) rfl h (fun ω h => ?_)
      refine g_goto (tgt := 8) dX8_advance_43 (by decide) ?_
      exact hk_8 l0 _ _ r h
theorem ok_L_X8_advance_8 (Θ : GP) : ∀ (f : Nat) (l0 : Nat) (ω : OW) (n : Nat) (r : Out), L_X8_advance_8 Θ f l0 ω n = some r → GR Θ yX8_advance cX8_advance 1 (none : Option Jvm.ClassFile.FieldType) 1 (0, 0) 8 [(0, .ref l0)] [] ω n r := by
  intro f
  induction f with
  | zero =>
    intro l0 ω n r h
    unfold L_X8_advance_8 at h
    cases h
  | succ f ih =>
    intro l0 ω n r h
    unfold L_X8_advance_8 at h
    exact ok_B_X8_advance_8 Θ (L_X8_advance_8 Θ f) ih l0 ω n r h
theorem ok_X8_advance (Θ : GP) (l0 : Nat) (ω : OW) (n : Nat) : Ok Θ 1 0 0 yX8_advance cX8_advance 1 (none : Option Jvm.ClassFile.FieldType) [.ref l0] ω n (F_X8_advance Θ l0 ω n) := by
  refine Ok.of (by decide +kernel) (Nat.le_of_ble_eq_true rfl) (fun r h => ?_)
  unfold F_X8_advance at h
  show GR Θ yX8_advance cX8_advance 1 (none : Option Jvm.ClassFile.FieldType) 1 (0, 0) 0 [(0, .ref l0)] [] ω n r
  refine g_aload_n dX8_advance_0 rfl 0 rfl ?_
  refine g_aload_n dX8_advance_1 rfl 0 rfl ?_
  refine g_rI fl_X8_18 dX8_advance_2 h (fun x58 h => ?_)
  refine g_wF fl_X8_15 dX8_advance_5 (rfl) rfl h (fun ω h => ?_)
  exact ok_L_X8_advance_8 Θ 5000 l0 _ _ r h
def J_X8_number_77 (Θ : GP) (s0 : Int32) (ω : OW) (n : Nat) : RO := some (.inl (some (.int s0), ω, n))
def J_X8_number_76 (Θ : GP) (ω : OW) (n : Nat) : RO := J_X8_number_77 Θ (-1) ω n
def B_X8_number_31 (Θ : GP) (k_31 : Nat → Int32 → Int32 → Int32 → Int32 → OW → Nat → RO) (l0 : Nat) (l1 : Int32) (l2 : Int32) (l3 : Int32) (l4 : Int32) (ω : OW) (n : Nat) : RO := rI ω l0 8 2 (fun x1 => if x1 ≤ l4 then (if l3 < l1 then (J_X8_number_76 Θ ω n) else (if l2 < l3 then (J_X8_number_76 Θ ω n) else (J_X8_number_77 Θ l3 ω n))) else (rA ω l0 8 5 (fun a5 => lI ω (gI Θ) a5 l4 (fun x6 => k_31 l0 l1 l2 (((l3 * 10) + x6) - 48) (l4 + 1) ω n))))
def L_X8_number_31 (Θ : GP) : Nat → Nat → Int32 → Int32 → Int32 → Int32 → OW → Nat → RO
  | 0, _, _, _, _, _, _, _ => none
  | f + 1, l0, l1, l2, l3, l4, ω, n => B_X8_number_31 Θ (L_X8_number_31 Θ f) l0 l1 l2 l3 l4 ω n
def J_X8_number_21 (Θ : GP) (ω : OW) (n : Nat) : RO := some (.inl (some (.int (-1)), ω, n))
def F_X8_number (Θ : GP) (l0 : Nat) (l1 : Int32) (l2 : Int32) (ω : OW) (n : Nat) : RO := rI ω l0 8 3 (fun x7 => if x7 = 2 then (rI ω l0 8 2 (fun x9 => rI ω l0 8 1 (fun x10 => if (x9 - x10) ≤ 3 then (rI ω l0 8 1 (fun x12 => L_X8_number_31 Θ 5000 l0 l1 l2 0 x12 ω n)) else (J_X8_number_21 Θ ω n)))) else (J_X8_number_21 Θ ω n))
theorem ok_J_X8_number_77 (Θ : GP) (s0 : Int32) (ω : OW) (n : Nat) (r : Out) (h : J_X8_number_77 Θ s0 ω n = some r) : GR Θ yX8_number cX8_number 5 (some .int) 1 (0, 0) 77 [] [.int s0] ω n r := by
  unfold J_X8_number_77 at h
  cases h
  exact g_iret rfl dX8_number_77 rfl
theorem ok_J_X8_number_76 (Θ : GP) (ω : OW) (n : Nat) (r : Out) (h : J_X8_number_76 Θ ω n = some r) : GR Θ yX8_number cX8_number 5 (some .int) 1 (0, 0) 76 [] [] ω n r := by
  unfold J_X8_number_76 at h
  refine g_iconst (v := (-1)) dX8_number_76 (by decide) ?_
  exact ok_J_X8_number_77 Θ (-1) _ _ r h
theorem ok_B_X8_number_31 (Θ : GP) (k_31 : Nat → Int32 → Int32 → Int32 → Int32 → OW → Nat → RO) (hk_31 : ∀ l0 l1 l2 l3 l4 ω n r, k_31 l0 l1 l2 l3 l4 ω n = some r → GR Θ yX8_number cX8_number 5 (some .int) 1 (0, 0) 31 [(0, .ref l0), (1, .int l1), (2, .int l2), (3, .int l3), (4, .int l4)] [] ω n r) (l0 : Nat) (l1 : Int32) (l2 : Int32) (l3 : Int32) (l4 : Int32) (ω : OW) (n : Nat) (r : Out) (h : B_X8_number_31 Θ k_31 l0 l1 l2 l3 l4 ω n = some r) : GR Θ yX8_number cX8_number 5 (some .int) 1 (0, 0) 31 [(0, .ref l0), (1, .int l1), (2, .int l2), (3, .int l3), (4, .int l4)] [] ω n r := by
  unfold B_X8_number_31 at h
  refine g_iload dX8_number_31 4 rfl ?_
  refine g_aload_n dX8_number_33 rfl 0 rfl ?_
  refine g_rI fl_X8_18 dX8_number_34 h (fun x1 h => ?_)
  refine g_icmp_ge (tgt := 62) dX8_number_37 (by decide) (fun c2 => ?_) (fun c2 => ?_)
  · rw [if_pos c2] at h
    refine g_iload_n dX8_number_62 rfl 3 rfl ?_
    refine g_iload_n dX8_number_63 rfl 1 rfl ?_
    refine g_icmp_lt (tgt := 76) dX8_number_64 (by decide) (fun c3 => ?_) (fun c3 => ?_)
    · rw [if_pos c3] at h
      refine G.lsub [] rfl ?_
      exact ok_J_X8_number_76 Θ _ _ r h
    · rw [if_neg c3] at h
      refine g_iload_n dX8_number_67 rfl 3 rfl ?_
      refine g_iload_n dX8_number_68 rfl 2 rfl ?_
      refine g_icmp_gt (tgt := 76) dX8_number_69 (by decide) (fun c4 => ?_) (fun c4 => ?_)
      · rw [if_pos c4] at h
        refine G.lsub [] rfl ?_
        exact ok_J_X8_number_76 Θ _ _ r h
      · rw [if_neg c4] at h
        refine g_iload_n dX8_number_72 rfl 3 rfl ?_
        refine g_goto (tgt := 77) dX8_number_73 (by decide) ?_
        refine G.lsub [] rfl ?_
        exact ok_J_X8_number_77 Θ l3 _ _ r h
  · rw [if_neg c2] at h
    refine g_iload_n dX8_number_40 rfl 3 rfl ?_
    refine g_bipush (v := 10) dX8_number_41 (by decide) ?_
    refine g_imul dX8_number_43 ?_
    refine g_aload_n dX8_number_44 rfl 0 rfl ?_
    refine g_rA fl_X8_28 dX8_number_45 h (fun a5 h => ?_)
    refine g_iload dX8_number_48 4 rfl ?_
    refine g_lIi dX8_number_50 h (fun x6 h => ?_)
    refine g_iadd dX8_number_51 ?_
    refine g_bipush (v := 48) dX8_number_52 (by decide) ?_
    refine g_isub dX8_number_54 ?_
    refine g_istore_n (lv' := [(3, .int (((l3 * 10) + x6) - 48)), (0, .ref l0), (1, .int l1), (2, .int l2), (4, .int l4)]) dX8_number_55 rfl (by decide) rfl ?_
    refine g_iinc (j := 4) (v := l4 + 1) (lv' := [(4, .int (l4 + 1)), (3, .int (((l3 * 10) + x6) - 48)), (0, .ref l0), (1, .int l1), (2, .int l2)]) dX8_number_56 rfl rfl (by decide) rfl ?_
    refine g_goto (tgt := 31) dX8_number_59 (by decide) ?_
    refine G.lsub [2, 3, 4, 1, 0] rfl ?_
    exact hk_31 l0 l1 l2 (((l3 * 10) + x6) - 48) (l4 + 1) _ _ r h
theorem ok_L_X8_number_31 (Θ : GP) : ∀ (f : Nat) (l0 : Nat) (l1 : Int32) (l2 : Int32) (l3 : Int32) (l4 : Int32) (ω : OW) (n : Nat) (r : Out), L_X8_number_31 Θ f l0 l1 l2 l3 l4 ω n = some r → GR Θ yX8_number cX8_number 5 (some .int) 1 (0, 0) 31 [(0, .ref l0), (1, .int l1), (2, .int l2), (3, .int l3), (4, .int l4)] [] ω n r := by
  intro f
  induction f with
  | zero =>
    intro l0 l1 l2 l3 l4 ω n r h
    unfold L_X8_number_31 at h
    cases h
  | succ f ih =>
    intro l0 l1 l2 l3 l4 ω n r h
    unfold L_X8_number_31 at h
    exact ok_B_X8_number_31 Θ (L_X8_number_31 Θ f) ih l0 l1 l2 l3 l4 ω n r h
theorem ok_J_X8_number_21 (Θ : GP) (ω : OW) (n : Nat) (r : Out) (h : J_X8_number_21 Θ ω n = some r) : GR Θ yX8_number cX8_number 5 (some .int) 1 (0, 0) 21 [] [] ω n r := by
  unfold J_X8_number_21 at h
  refine g_iconst (v := (-1)) dX8_number_21 (by decide) ?_
  cases h
  exact g_iret rfl dX8_number_22 rfl
theorem ok_X8_number (Θ : GP) (l0 : Nat) (l1 : Int32) (l2 : Int32) (ω : OW) (n : Nat) : Ok Θ 1 0 0 yX8_number cX8_number 5 (some .int) [.ref l0, .int l1, .int l2] ω n (F_X8_number Θ l0 l1 l2 ω n) := by
  refine Ok.of (by decide +kernel) (Nat.le_of_ble_eq_true rfl) (fun r h => ?_)
  unfold F_X8_number at h
  show GR Θ yX8_number cX8_number 5 (some .int) 1 (0, 0) 0 [(0, .ref l0), (1, .int l1), (2, .int l2)] [] ω n r
  refine g_aload_n dX8_number_0 rfl 0 rfl ?_
  refine g_rI fl_X8_21 dX8_number_1 h (fun x7 h => ?_)
  refine g_iconst (v := 2) dX8_number_4 (by decide) ?_
  refine g_icmp_ne (tgt := 21) dX8_number_5 (by decide) (fun c8 => ?_) (fun c8 => ?_)
  · rw [if_neg c8] at h
    refine G.lsub [] rfl ?_
    exact ok_J_X8_number_21 Θ _ _ r h
  · rw [if_pos c8] at h
    refine g_aload_n dX8_number_8 rfl 0 rfl ?_
    refine g_rI fl_X8_18 dX8_number_9 h (fun x9 h => ?_)
    refine g_aload_n dX8_number_12 rfl 0 rfl ?_
    refine g_rI fl_X8_15 dX8_number_13 h (fun x10 h => ?_)
    refine g_isub dX8_number_16 ?_
    refine g_iconst (v := 3) dX8_number_17 (by decide) ?_
    refine g_icmp_le (tgt := 23) dX8_number_18 (by decide) (fun c11 => ?_) (fun c11 => ?_)
    · rw [if_pos c11] at h
      refine g_iconst (v := 0) dX8_number_23 (by decide) ?_
      refine g_istore_n (lv' := [(3, .int 0), (0, .ref l0), (1, .int l1), (2, .int l2)]) dX8_number_24 rfl (by decide) rfl ?_
      refine g_aload_n dX8_number_25 rfl 1 rfl ?_
      refine g_rI fl_X8_15 dX8_number_26 h (fun x12 h => ?_)
      refine g_istore (lv' := [(4, .int x12), (3, .int 0), (0, .ref l0), (1, .int l1), (2, .int l2)]) dX8_number_29 (by decide) rfl ?_
      refine G.lsub [2, 3, 4, 1, 0] rfl ?_
      exact ok_L_X8_number_31 Θ 5000 l0 l1 l2 0 x12 _ _ r h
    · rw [if_neg c11] at h
      refine G.lsub [] rfl ?_
      exact ok_J_X8_number_21 Θ _ _ r h
def J_X1_takeNumber_22 (Θ : GP) (l3 : Int32) (ω : OW) (n : Nat) : RO := some (.inl (some (.int l3), ω, n))
def F_X1_takeNumber (Θ : GP) (l0 : Nat) (l1 : Int32) (l2 : Int32) (ω : OW) (n : Nat) : RO := rA ω l0 1 0 (fun a1 => cO ω a1 8 (kI (F_X8_number Θ a1 l1 l2 ω n) (fun x2 ω n => if x2 = (-1) then (J_X1_takeNumber_22 Θ x2 ω n) else (rA ω l0 1 0 (fun a4 => cO ω a4 8 (kV (F_X8_advance Θ a4 ω n) (fun ω n => J_X1_takeNumber_22 Θ x2 ω n)))))))
theorem ok_J_X1_takeNumber_22 (Θ : GP) (l3 : Int32) (ω : OW) (n : Nat) (r : Out) (h : J_X1_takeNumber_22 Θ l3 ω n = some r) : GR Θ yX1_takeNumber cX1_takeNumber 4 (some .int) 2 (0, 0) 22 [(3, .int l3)] [] ω n r := by
  unfold J_X1_takeNumber_22 at h
  refine g_iload_n dX1_takeNumber_22 rfl 0 rfl ?_
  cases h
  exact g_iret rfl dX1_takeNumber_23 rfl
theorem ok_X1_takeNumber (Θ : GP) (l0 : Nat) (l1 : Int32) (l2 : Int32) (ω : OW) (n : Nat) : Ok Θ 2 0 0 yX1_takeNumber cX1_takeNumber 4 (some .int) [.ref l0, .int l1, .int l2] ω n (F_X1_takeNumber Θ l0 l1 l2 ω n) := by
  refine Ok.of (by decide +kernel) (Nat.le_of_ble_eq_true rfl) (fun r h => ?_)
  unfold F_X1_takeNumber at h
  show GR Θ yX1_takeNumber cX1_takeNumber 4 (some .int) 2 (0, 0) 0 [(0, .ref l0), (1, .int l1), (2, .int l2)] [] ω n r
  refine g_aload_n dX1_takeNumber_0 rfl 0 rfl ?_
  refine g_rA fl_X1_9 dX1_takeNumber_1 h (fun a1 h => ?_)
  refine g_iload_n dX1_takeNumber_4 rfl 1 rfl ?_
  refine g_iload_n dX1_takeNumber_5 rfl 2 rfl ?_
  refine g_cI (ci := 8) (As := [.int l1, .int l2]) mv_X1_91 dX1_takeNumber_6 rfl (ok_X8_number Θ a1 l1 l2 _ _) rfl rfl (Nat.le_of_ble_eq_true rfl) (by decide) (by decide) (by decide) h (fun x2 ω n h => ?_)
  refine G.less (B' := (0, 0)) (by decide) (by decide) ?_
  refine g_istore_n (lv' := [(3, .int x2), (0, .ref l0), (1, .int l1), (2, .int l2)]) dX1_takeNumber_9 rfl (by decide) rfl ?_
  refine g_iload_n dX1_takeNumber_10 rfl 0 rfl ?_
  refine g_iconst (v := (-1)) dX1_takeNumber_11 (by decide) ?_
  refine g_icmp_eq (tgt := 22) dX1_takeNumber_12 (by decide) (fun c3 => ?_) (fun c3 => ?_)
  · rw [if_pos c3] at h
    refine G.lsub [0] rfl ?_
    exact ok_J_X1_takeNumber_22 Θ x2 _ _ r h
  · rw [if_neg c3] at h
    refine g_aload_n dX1_takeNumber_15 rfl 1 rfl ?_
    refine g_rA fl_X1_9 dX1_takeNumber_16 h (fun a4 h => ?_)
    refine g_cV (ci := 8) (As := []) mv_X1_80 dX1_takeNumber_19 rfl (ok_X8_advance Θ a4 _ _) rfl rfl (Nat.le_of_ble_eq_true rfl) (by decide) (by decide) (by decide) h (fun ω n h => ?_)
    refine G.less (B' := (0, 0)) (by decide) (by decide) ?_
    refine G.lsub [0] rfl ?_
    exact ok_J_X1_takeNumber_22 Θ x2 _ _ r h
def J_X8_deeds_50 (Θ : GP) (ω : OW) (n : Nat) : RO := some (.inl (some (.int (-1)), ω, n))
def B_X8_deeds_17 (Θ : GP) (k_17 : Nat → Int32 → Int32 → OW → Nat → RO) (l0 : Nat) (l1 : Int32) (l2 : Int32) (ω : OW) (n : Nat) : RO := rI ω l0 8 2 (fun x1 => if x1 ≤ l2 then (some (.inl (some (.int l1), ω, n))) else (rA ω l0 8 5 (fun a3 => lI ω (gI Θ) a3 l2 (fun x4 => if 6 ≤ (x4 - 97) then (J_X8_deeds_50 Θ ω n) else (if ((l1 >>> (((x4 - 97) : Int32) &&& 31)) &&& 1) = 1 then (J_X8_deeds_50 Θ ω n) else (k_17 l0 (l1 ||| (1 <<< (((x4 - 97) : Int32) &&& 31))) (l2 + 1) ω n))))))
def L_X8_deeds_17 (Θ : GP) : Nat → Nat → Int32 → Int32 → OW → Nat → RO
  | 0, _, _, _, _, _ => none
  | f + 1, l0, l1, l2, ω, n => B_X8_deeds_17 Θ (L_X8_deeds_17 Θ f) l0 l1 l2 ω n
def F_X8_deeds (Θ : GP) (l0 : Nat) (ω : OW) (n : Nat) : RO := rI ω l0 8 3 (fun x7 => if x7 = 1 then (rI ω l0 8 1 (fun x9 => L_X8_deeds_17 Θ 5000 l0 0 x9 ω n)) else (some (.inl (some (.int (-1)), ω, n))))
theorem ok_J_X8_deeds_50 (Θ : GP) (ω : OW) (n : Nat) (r : Out) (h : J_X8_deeds_50 Θ ω n = some r) : GR Θ yX8_deeds cX8_deeds 4 (some .int) 1 (0, 0) 50 [] [] ω n r := by
  unfold J_X8_deeds_50 at h
  refine g_iconst (v := (-1)) dX8_deeds_50 (by decide) ?_
  cases h
  exact g_iret rfl dX8_deeds_51 rfl
theorem ok_B_X8_deeds_17 (Θ : GP) (k_17 : Nat → Int32 → Int32 → OW → Nat → RO) (hk_17 : ∀ l0 l1 l2 ω n r, k_17 l0 l1 l2 ω n = some r → GR Θ yX8_deeds cX8_deeds 4 (some .int) 1 (0, 0) 17 [(0, .ref l0), (1, .int l1), (2, .int l2)] [] ω n r) (l0 : Nat) (l1 : Int32) (l2 : Int32) (ω : OW) (n : Nat) (r : Out) (h : B_X8_deeds_17 Θ k_17 l0 l1 l2 ω n = some r) : GR Θ yX8_deeds cX8_deeds 4 (some .int) 1 (0, 0) 17 [(0, .ref l0), (1, .int l1), (2, .int l2)] [] ω n r := by
  unfold B_X8_deeds_17 at h
  refine g_iload_n dX8_deeds_17 rfl 2 rfl ?_
  refine g_aload_n dX8_deeds_18 rfl 0 rfl ?_
  refine g_rI fl_X8_18 dX8_deeds_19 h (fun x1 h => ?_)
  refine g_icmp_ge (tgt := 64) dX8_deeds_22 (by decide) (fun c2 => ?_) (fun c2 => ?_)
  · rw [if_pos c2] at h
    refine g_iload_n dX8_deeds_64 rfl 1 rfl ?_
    cases h
    exact g_iret rfl dX8_deeds_65 rfl
  · rw [if_neg c2] at h
    refine g_aload_n dX8_deeds_25 rfl 0 rfl ?_
    refine g_rA fl_X8_28 dX8_deeds_26 h (fun a3 h => ?_)
    refine g_iload_n dX8_deeds_29 rfl 2 rfl ?_
    refine g_lIi dX8_deeds_30 h (fun x4 h => ?_)
    refine g_bipush (v := 97) dX8_deeds_31 (by decide) ?_
    refine g_isub dX8_deeds_33 ?_
    refine g_istore_n (lv' := [(3, .int (x4 - 97)), (0, .ref l0), (1, .int l1), (2, .int l2)]) dX8_deeds_34 rfl (by decide) rfl ?_
    refine g_iload_n dX8_deeds_35 rfl 0 rfl ?_
    refine g_bipush (v := 6) dX8_deeds_36 (by decide) ?_
    refine g_icmp_ge (tgt := 50) dX8_deeds_38 (by decide) (fun c5 => ?_) (fun c5 => ?_)
    · rw [if_pos c5] at h
      refine G.lsub [] rfl ?_
      exact ok_J_X8_deeds_50 Θ _ _ r h
    · rw [if_neg c5] at h
      refine g_iload_n dX8_deeds_41 rfl 2 rfl ?_
      refine g_iload_n dX8_deeds_42 rfl 0 rfl ?_
      refine g_ishr dX8_deeds_43 ?_
      refine g_iconst (v := 1) dX8_deeds_44 (by decide) ?_
      refine g_iand dX8_deeds_45 ?_
      refine g_iconst (v := 1) dX8_deeds_46 (by decide) ?_
      refine g_icmp_ne (tgt := 52) dX8_deeds_47 (by decide) (fun c6 => ?_) (fun c6 => ?_)
      · rw [if_neg c6] at h
        refine g_iload_n dX8_deeds_52 rfl 2 rfl ?_
        refine g_iconst (v := 1) dX8_deeds_53 (by decide) ?_
        refine g_iload_n dX8_deeds_54 rfl 0 rfl ?_
        refine g_ishl dX8_deeds_55 ?_
        refine g_ior dX8_deeds_56 ?_
        refine g_istore_n (lv' := [(1, .int (l1 ||| (1 <<< (((x4 - 97) : Int32) &&& 31)))), (3, .int (x4 - 97)), (0, .ref l0), (2, .int l2)]) dX8_deeds_57 rfl (by decide) rfl ?_
        refine g_iinc (j := 3) (v := l2 + 1) (lv' := [(2, .int (l2 + 1)), (1, .int (l1 ||| (1 <<< (((x4 - 97) : Int32) &&& 31)))), (3, .int (x4 - 97)), (0, .ref l0)]) dX8_deeds_58 rfl rfl (by decide) rfl ?_
        refine g_goto (tgt := 17) dX8_deeds_61 (by decide) ?_
        refine G.lsub [3, 1, 0] rfl ?_
        exact hk_17 l0 (l1 ||| (1 <<< (((x4 - 97) : Int32) &&& 31))) (l2 + 1) _ _ r h
      · rw [if_pos c6] at h
        refine G.lsub [] rfl ?_
        exact ok_J_X8_deeds_50 Θ _ _ r h
theorem ok_L_X8_deeds_17 (Θ : GP) : ∀ (f : Nat) (l0 : Nat) (l1 : Int32) (l2 : Int32) (ω : OW) (n : Nat) (r : Out), L_X8_deeds_17 Θ f l0 l1 l2 ω n = some r → GR Θ yX8_deeds cX8_deeds 4 (some .int) 1 (0, 0) 17 [(0, .ref l0), (1, .int l1), (2, .int l2)] [] ω n r := by
  intro f
  induction f with
  | zero =>
    intro l0 l1 l2 ω n r h
    unfold L_X8_deeds_17 at h
    cases h
  | succ f ih =>
    intro l0 l1 l2 ω n r h
    unfold L_X8_deeds_17 at h
    exact ok_B_X8_deeds_17 Θ (L_X8_deeds_17 Θ f) ih l0 l1 l2 ω n r h
theorem ok_X8_deeds (Θ : GP) (l0 : Nat) (ω : OW) (n : Nat) : Ok Θ 1 0 0 yX8_deeds cX8_deeds 4 (some .int) [.ref l0] ω n (F_X8_deeds Θ l0 ω n) := by
  refine Ok.of (by decide +kernel) (Nat.le_of_ble_eq_true rfl) (fun r h => ?_)
  unfold F_X8_deeds at h
  show GR Θ yX8_deeds cX8_deeds 4 (some .int) 1 (0, 0) 0 [(0, .ref l0)] [] ω n r
  refine g_aload_n dX8_deeds_0 rfl 0 rfl ?_
  refine g_rI fl_X8_21 dX8_deeds_1 h (fun x7 h => ?_)
  refine g_iconst (v := 1) dX8_deeds_4 (by decide) ?_
  refine g_icmp_eq (tgt := 10) dX8_deeds_5 (by decide) (fun c8 => ?_) (fun c8 => ?_)
  · rw [if_pos c8] at h
    refine g_iconst (v := 0) dX8_deeds_10 (by decide) ?_
    refine g_istore_n (lv' := [(1, .int 0), (0, .ref l0)]) dX8_deeds_11 rfl (by decide) rfl ?_
    refine g_aload_n dX8_deeds_12 rfl 1 rfl ?_
    refine g_rI fl_X8_15 dX8_deeds_13 h (fun x9 h => ?_)
    refine g_istore_n (lv' := [(2, .int x9), (1, .int 0), (0, .ref l0)]) dX8_deeds_16 rfl (by decide) rfl ?_
    refine G.lsub [2, 1, 0] rfl ?_
    exact ok_L_X8_deeds_17 Θ 5000 l0 0 x9 _ _ r h
  · rw [if_neg c8] at h
    refine g_iconst (v := (-1)) dX8_deeds_8 (by decide) ?_
    cases h
    exact g_iret rfl dX8_deeds_9 rfl
def J_X8_isWord_14 (Θ : GP) (s0 : Int32) (ω : OW) (n : Nat) : RO := bz s0 (some (.inl (some (.int s0), ω, n)))
def F_X8_isWord (Θ : GP) (l0 : Nat) (l1 : Int64) (ω : OW) (n : Nat) : RO := rL ω l0 8 4 (fun w2 => if (lg_cmp w2 l1) = 0 then (J_X8_isWord_14 Θ 1 ω n) else (J_X8_isWord_14 Θ 0 ω n))
theorem ok_J_X8_isWord_14 (Θ : GP) (s0 : Int32) (ω : OW) (n : Nat) (r : Out) (h : J_X8_isWord_14 Θ s0 ω n = some r) : GR Θ yX8_isWord cX8_isWord 3 (some .boolean) 1 (0, 0) 14 [] [.int s0] ω n r := by
  unfold J_X8_isWord_14 at h
  obtain ⟨z1, h⟩ := bz_inv h
  cases h
  exact g_zret rfl z1 dX8_isWord_14 rfl
theorem ok_X8_isWord (Θ : GP) (l0 : Nat) (l1 : Int64) (ω : OW) (n : Nat) : Ok Θ 1 0 0 yX8_isWord cX8_isWord 3 (some .boolean) [.ref l0, .long l1] ω n (F_X8_isWord Θ l0 l1 ω n) := by
  refine Ok.of (by decide +kernel) (Nat.le_of_ble_eq_true rfl) (fun r h => ?_)
  unfold F_X8_isWord at h
  show GR Θ yX8_isWord cX8_isWord 3 (some .boolean) 1 (0, 0) 0 [(0, .ref l0), (1, .long l1)] [] ω n r
  refine g_aload_n dX8_isWord_0 rfl 0 rfl ?_
  refine g_rL fl_X8_24 dX8_isWord_1 h (fun w2 h => ?_)
  refine g_lload_n dX8_isWord_4 rfl 1 rfl ?_
  refine g_lcmp dX8_isWord_5 ?_
  refine g_if_ne (tgt := 13) dX8_isWord_6 (by decide) (fun c3 => ?_) (fun c3 => ?_)
  · rw [if_neg c3] at h
    refine g_iconst (v := 0) dX8_isWord_13 (by decide) ?_
    refine G.lsub [] rfl ?_
    exact ok_J_X8_isWord_14 Θ 0 _ _ r h
  · rw [if_pos c3] at h
    refine g_iconst (v := 1) dX8_isWord_9 (by decide) ?_
    refine g_goto (tgt := 14) dX8_isWord_10 (by decide) ?_
    refine G.lsub [] rfl ?_
    exact ok_J_X8_isWord_14 Θ 1 _ _ r h
def J_X8_takeWord_14 (Θ : GP) (l3 : Int32) (ω : OW) (n : Nat) : RO := bz l3 (some (.inl (some (.int l3), ω, n)))
def F_X8_takeWord (Θ : GP) (l0 : Nat) (l1 : Int64) (ω : OW) (n : Nat) : RO := cO ω l0 8 (kI (F_X8_isWord Θ l0 l1 ω n) (fun x2 ω n => if x2 = 0 then (J_X8_takeWord_14 Θ x2 ω n) else (cO ω l0 8 (kV (F_X8_advance Θ l0 ω n) (fun ω n => J_X8_takeWord_14 Θ x2 ω n)))))
theorem ok_J_X8_takeWord_14 (Θ : GP) (l3 : Int32) (ω : OW) (n : Nat) (r : Out) (h : J_X8_takeWord_14 Θ l3 ω n = some r) : GR Θ yX8_takeWord cX8_takeWord 4 (some .boolean) 2 (0, 0) 14 [(3, .int l3)] [] ω n r := by
  unfold J_X8_takeWord_14 at h
  refine g_iload_n dX8_takeWord_14 rfl 0 rfl ?_
  obtain ⟨z1, h⟩ := bz_inv h
  cases h
  exact g_zret rfl z1 dX8_takeWord_15 rfl
theorem ok_X8_takeWord (Θ : GP) (l0 : Nat) (l1 : Int64) (ω : OW) (n : Nat) : Ok Θ 2 0 0 yX8_takeWord cX8_takeWord 4 (some .boolean) [.ref l0, .long l1] ω n (F_X8_takeWord Θ l0 l1 ω n) := by
  refine Ok.of (by decide +kernel) (Nat.le_of_ble_eq_true rfl) (fun r h => ?_)
  unfold F_X8_takeWord at h
  show GR Θ yX8_takeWord cX8_takeWord 4 (some .boolean) 2 (0, 0) 0 [(0, .ref l0), (1, .long l1)] [] ω n r
  refine g_aload_n dX8_takeWord_0 rfl 0 rfl ?_
  refine g_lload_n dX8_takeWord_1 rfl 1 rfl ?_
  refine g_cI (ci := 8) (As := [.long l1]) mv_X8_39 dX8_takeWord_2 rfl (ok_X8_isWord Θ l0 l1 _ _) rfl rfl (Nat.le_of_ble_eq_true rfl) (by decide) (by decide) (by decide) h (fun x2 ω n h => ?_)
  refine G.less (B' := (0, 0)) (by decide) (by decide) ?_
  refine g_istore_n (lv' := [(3, .int x2), (0, .ref l0), (1, .long l1)]) dX8_takeWord_5 rfl (by decide) rfl ?_
  refine g_iload_n dX8_takeWord_6 rfl 0 rfl ?_
  refine g_if_eq (tgt := 14) dX8_takeWord_7 (by decide) (fun c3 => ?_) (fun c3 => ?_)
  · rw [if_pos c3] at h
    refine G.lsub [0] rfl ?_
    exact ok_J_X8_takeWord_14 Θ x2 _ _ r h
  · rw [if_neg c3] at h
    refine g_aload_n dX8_takeWord_10 rfl 1 rfl ?_
    refine g_cV (ci := 8) (As := []) mv_X8_36 dX8_takeWord_11 rfl (ok_X8_advance Θ l0 _ _) rfl rfl (Nat.le_of_ble_eq_true rfl) (by decide) (by decide) (by decide) h (fun ω n h => ?_)
    refine G.less (B' := (0, 0)) (by decide) (by decide) ?_
    refine G.lsub [0] rfl ?_
    exact ok_J_X8_takeWord_14 Θ x2 _ _ r h
def J_X1_readAccused_120 (Θ : GP) (l0 : Nat) (l1 : Int32) (l2 : Int32) (l3 : Int32) (ω : OW) (n : Nat) : RO := cO ω l0 1 (kV (F_X1_addAccused Θ l0 l1 l2 l3 ω n) (fun ω n => some (.inl (some (.int 1), ω, n))))
def J_X1_readAccused_76 (Θ : GP) (l0 : Nat) (l1 : Int32) (l2 : Int32) (ω : OW) (n : Nat) : RO := rA ω l0 1 0 (fun a2 => cO ω a2 8 (kI (F_X8_takeWord Θ a2 461414299507 ω n) (fun x3 ω n => if x3 = 0 then (J_X1_readAccused_120 Θ l0 l1 l2 0 ω n) else (rA ω l0 1 1 (fun a5 => rI ω a5 0 0 (fun x6 => cO ω l0 1 (kI (F_X1_takeNumber Θ l0 0 (x6 - 1) ω n) (fun x7 ω n => if x7 = (-1) then (some (.inl (some (.int 0), ω, n))) else (J_X1_readAccused_120 Θ l0 l1 l2 (1 <<< ((x7 : Int32) &&& 31)) ω n)))))))))
def J_X1_readAccused_31 (Θ : GP) (l0 : Nat) (s0 : Int32) (ω : OW) (n : Nat) : RO := if s0 = (-1) then (some (.inl (some (.int 0), ω, n))) else (rA ω l0 1 0 (fun a10 => cO ω a10 8 (kI (F_X8_takeWord Θ a10 6580580 ω n) (fun x11 ω n => if x11 = 0 then (J_X1_readAccused_76 Θ l0 s0 0 ω n) else (rA ω l0 1 0 (fun a13 => cO ω a13 8 (kI (F_X8_deeds Θ a13 ω n) (fun x14 ω n => if x14 = (-1) then (some (.inl (some (.int 0), ω, n))) else (rA ω l0 1 0 (fun a16 => cO ω a16 8 (kV (F_X8_advance Θ a16 ω n) (fun ω n => J_X1_readAccused_76 Θ l0 s0 x14 ω n))))))))))))
def F_X1_readAccused (Θ : GP) (l0 : Nat) (ω : OW) (n : Nat) : RO := rA ω l0 1 0 (fun a18 => cO ω a18 8 (kV (F_X8_advance Θ a18 ω n) (fun ω n => rA ω l0 1 0 (fun a20 => cO ω a20 8 (kI (F_X8_takeWord Θ a20 474148402789 ω n) (fun x21 ω n => if x21 = 0 then (J_X1_readAccused_31 Θ l0 (-1) ω n) else (cO ω l0 1 (kI (F_X1_takeNumber Θ l0 1 60 ω n) (fun x23 ω n => J_X1_readAccused_31 Θ l0 x23 ω n)))))))))
theorem ok_J_X1_readAccused_120 (Θ : GP) (l0 : Nat) (l1 : Int32) (l2 : Int32) (l3 : Int32) (ω : OW) (n : Nat) (r : Out) (h : J_X1_readAccused_120 Θ l0 l1 l2 l3 ω n = some r) : GR Θ yX1_readAccused cX1_readAccused 5 (some .boolean) 3 (0, 0) 120 [(0, .ref l0), (1, .int l1), (2, .int l2), (3, .int l3)] [] ω n r := by
  unfold J_X1_readAccused_120 at h
  refine g_aload_n dX1_readAccused_120 rfl 0 rfl ?_
  refine g_iload_n dX1_readAccused_121 rfl 1 rfl ?_
  refine g_iload_n dX1_readAccused_122 rfl 2 rfl ?_
  refine g_iload_n dX1_readAccused_123 rfl 3 rfl ?_
  refine g_cV (ci := 1) (As := [.int l1, .int l2, .int l3]) mv_X1_129 dX1_readAccused_124 rfl (ok_X1_addAccused Θ l0 l1 l2 l3 _ _) rfl rfl (Nat.le_of_ble_eq_true rfl) (by decide) (by decide) (by decide) h (fun ω n h => ?_)
  refine G.less (B' := (0, 0)) (by decide) (by decide) ?_
  refine g_iconst (v := 1) dX1_readAccused_127 (by decide) ?_
  cases h
  exact g_zret rfl rfl dX1_readAccused_128 rfl
theorem ok_J_X1_readAccused_76 (Θ : GP) (l0 : Nat) (l1 : Int32) (l2 : Int32) (ω : OW) (n : Nat) (r : Out) (h : J_X1_readAccused_76 Θ l0 l1 l2 ω n = some r) : GR Θ yX1_readAccused cX1_readAccused 5 (some .boolean) 3 (0, 0) 76 [(0, .ref l0), (1, .int l1), (2, .int l2)] [] ω n r := by
  unfold J_X1_readAccused_76 at h
  refine g_iconst (v := 0) dX1_readAccused_76 (by decide) ?_
  refine g_istore_n (lv' := [(3, .int 0), (0, .ref l0), (1, .int l1), (2, .int l2)]) dX1_readAccused_77 rfl (by decide) rfl ?_
  refine g_aload_n dX1_readAccused_78 rfl 1 rfl ?_
  refine g_rA fl_X1_9 dX1_readAccused_79 h (fun a2 h => ?_)
  refine g_ldc2_w (v := 461414299507) wd_861 dX1_readAccused_82 ?_
  refine g_cI (ci := 8) (As := [.long 461414299507]) mv_X1_60 dX1_readAccused_85 rfl (ok_X8_takeWord Θ a2 461414299507 _ _) rfl rfl (Nat.le_of_ble_eq_true rfl) (by decide) (by decide) (by decide) h (fun x3 ω n h => ?_)
  refine G.less (B' := (0, 0)) (by decide) (by decide) ?_
  refine g_if_eq (tgt := 120) dX1_readAccused_88 (by decide) (fun c4 => ?_) (fun c4 => ?_)
  · rw [if_pos c4] at h
    refine G.lsub [1, 2, 3, 0] rfl ?_
    exact ok_J_X1_readAccused_120 Θ l0 l1 l2 0 _ _ r h
  · rw [if_neg c4] at h
    refine g_aload_n dX1_readAccused_91 rfl 1 rfl ?_
    refine g_iconst (v := 0) dX1_readAccused_92 (by decide) ?_
    refine g_aload_n dX1_readAccused_93 rfl 1 rfl ?_
    refine g_rA fl_X1_15 dX1_readAccused_94 h (fun a5 h => ?_)
    refine g_rI fl_X1_41 dX1_readAccused_97 h (fun x6 h => ?_)
    refine g_iconst (v := 1) dX1_readAccused_100 (by decide) ?_
    refine g_isub dX1_readAccused_101 ?_
    refine g_cI (ci := 1) (As := [.int 0, .int (x6 - 1)]) mv_X1_63 dX1_readAccused_102 rfl (ok_X1_takeNumber Θ l0 0 (x6 - 1) _ _) rfl rfl (Nat.le_of_ble_eq_true rfl) (by decide) (by decide) (by decide) h (fun x7 ω n h => ?_)
    refine G.less (B' := (0, 0)) (by decide) (by decide) ?_
    refine g_istore (lv' := [(4, .int x7), (3, .int 0), (0, .ref l0), (1, .int l1), (2, .int l2)]) dX1_readAccused_105 (by decide) rfl ?_
    refine g_iload dX1_readAccused_107 0 rfl ?_
    refine g_iconst (v := (-1)) dX1_readAccused_109 (by decide) ?_
    refine g_icmp_ne (tgt := 115) dX1_readAccused_110 (by decide) (fun c8 => ?_) (fun c8 => ?_)
    · rw [if_neg c8] at h
      refine g_iconst (v := 1) dX1_readAccused_115 (by decide) ?_
      refine g_iload dX1_readAccused_116 0 rfl ?_
      refine g_ishl dX1_readAccused_118 ?_
      refine g_istore_n (lv' := [(3, .int (1 <<< ((x7 : Int32) &&& 31))), (4, .int x7), (0, .ref l0), (1, .int l1), (2, .int l2)]) dX1_readAccused_119 rfl (by decide) rfl ?_
      refine G.lsub [2, 3, 4, 0] rfl ?_
      exact ok_J_X1_readAccused_120 Θ l0 l1 l2 (1 <<< ((x7 : Int32) &&& 31)) _ _ r h
    · rw [if_pos c8] at h
      refine g_iconst (v := 0) dX1_readAccused_113 (by decide) ?_
      cases h
      exact g_zret rfl rfl dX1_readAccused_114 rfl
theorem ok_J_X1_readAccused_31 (Θ : GP) (l0 : Nat) (s0 : Int32) (ω : OW) (n : Nat) (r : Out) (h : J_X1_readAccused_31 Θ l0 s0 ω n = some r) : GR Θ yX1_readAccused cX1_readAccused 5 (some .boolean) 3 (0, 0) 31 [(0, .ref l0)] [.int s0] ω n r := by
  unfold J_X1_readAccused_31 at h
  refine g_istore_n (lv' := [(1, .int s0), (0, .ref l0)]) dX1_readAccused_31 rfl (by decide) rfl ?_
  refine g_iload_n dX1_readAccused_32 rfl 0 rfl ?_
  refine g_iconst (v := (-1)) dX1_readAccused_33 (by decide) ?_
  refine g_icmp_ne (tgt := 39) dX1_readAccused_34 (by decide) (fun c9 => ?_) (fun c9 => ?_)
  · rw [if_neg c9] at h
    refine g_iconst (v := 0) dX1_readAccused_39 (by decide) ?_
    refine g_istore_n (lv' := [(2, .int 0), (1, .int s0), (0, .ref l0)]) dX1_readAccused_40 rfl (by decide) rfl ?_
    refine g_aload_n dX1_readAccused_41 rfl 2 rfl ?_
    refine g_rA fl_X1_9 dX1_readAccused_42 h (fun a10 h => ?_)
    refine g_ldc2_w (v := 6580580) wd_856 dX1_readAccused_45 ?_
    refine g_cI (ci := 8) (As := [.long 6580580]) mv_X1_60 dX1_readAccused_48 rfl (ok_X8_takeWord Θ a10 6580580 _ _) rfl rfl (Nat.le_of_ble_eq_true rfl) (by decide) (by decide) (by decide) h (fun x11 ω n h => ?_)
    refine G.less (B' := (0, 0)) (by decide) (by decide) ?_
    refine g_if_eq (tgt := 76) dX1_readAccused_51 (by decide) (fun c12 => ?_) (fun c12 => ?_)
    · rw [if_pos c12] at h
      refine G.lsub [2, 1, 0] rfl ?_
      exact ok_J_X1_readAccused_76 Θ l0 s0 0 _ _ r h
    · rw [if_neg c12] at h
      refine g_aload_n dX1_readAccused_54 rfl 2 rfl ?_
      refine g_rA fl_X1_9 dX1_readAccused_55 h (fun a13 h => ?_)
      refine g_cI (ci := 8) (As := []) mv_X1_124 dX1_readAccused_58 rfl (ok_X8_deeds Θ a13 _ _) rfl rfl (Nat.le_of_ble_eq_true rfl) (by decide) (by decide) (by decide) h (fun x14 ω n h => ?_)
      refine G.less (B' := (0, 0)) (by decide) (by decide) ?_
      refine g_istore_n (lv' := [(2, .int x14), (1, .int s0), (0, .ref l0)]) dX1_readAccused_61 rfl (by decide) rfl ?_
      refine g_iload_n dX1_readAccused_62 rfl 0 rfl ?_
      refine g_iconst (v := (-1)) dX1_readAccused_63 (by decide) ?_
      refine g_icmp_ne (tgt := 69) dX1_readAccused_64 (by decide) (fun c15 => ?_) (fun c15 => ?_)
      · rw [if_neg c15] at h
        refine g_aload_n dX1_readAccused_69 rfl 2 rfl ?_
        refine g_rA fl_X1_9 dX1_readAccused_70 h (fun a16 h => ?_)
        refine g_cV (ci := 8) (As := []) mv_X1_80 dX1_readAccused_73 rfl (ok_X8_advance Θ a16 _ _) rfl rfl (Nat.le_of_ble_eq_true rfl) (by decide) (by decide) (by decide) h (fun ω n h => ?_)
        refine G.less (B' := (0, 0)) (by decide) (by decide) ?_
        refine G.lsub [2, 1, 0] rfl ?_
        exact ok_J_X1_readAccused_76 Θ l0 s0 x14 _ _ r h
      · rw [if_pos c15] at h
        refine g_iconst (v := 0) dX1_readAccused_67 (by decide) ?_
        cases h
        exact g_zret rfl rfl dX1_readAccused_68 rfl
  · rw [if_pos c9] at h
    refine g_iconst (v := 0) dX1_readAccused_37 (by decide) ?_
    cases h
    exact g_zret rfl rfl dX1_readAccused_38 rfl
theorem ok_X1_readAccused (Θ : GP) (l0 : Nat) (ω : OW) (n : Nat) : Ok Θ 3 0 0 yX1_readAccused cX1_readAccused 5 (some .boolean) [.ref l0] ω n (F_X1_readAccused Θ l0 ω n) := by
  refine Ok.of (by decide +kernel) (Nat.le_of_ble_eq_true rfl) (fun r h => ?_)
  unfold F_X1_readAccused at h
  show GR Θ yX1_readAccused cX1_readAccused 5 (some .boolean) 3 (0, 0) 0 [(0, .ref l0)] [] ω n r
  refine g_aload_n dX1_readAccused_0 rfl 0 rfl ?_
  refine g_rA fl_X1_9 dX1_readAccused_1 h (fun a18 h => ?_)
  refine g_cV (ci := 8) (As := []) mv_X1_80 dX1_readAccused_4 rfl (ok_X8_advance Θ a18 _ _) rfl rfl (Nat.le_of_ble_eq_true rfl) (by decide) (by decide) (by decide) h (fun ω n h => ?_)
  refine G.less (B' := (0, 0)) (by decide) (by decide) ?_
  refine g_aload_n dX1_readAccused_7 rfl 0 rfl ?_
  refine g_rA fl_X1_9 dX1_readAccused_8 h (fun a20 h => ?_)
  refine g_ldc2_w (v := 474148402789) wd_855 dX1_readAccused_11 ?_
  refine g_cI (ci := 8) (As := [.long 474148402789]) mv_X1_60 dX1_readAccused_14 rfl (ok_X8_takeWord Θ a20 474148402789 _ _) rfl rfl (Nat.le_of_ble_eq_true rfl) (by decide) (by decide) (by decide) h (fun x21 ω n h => ?_)
  refine G.less (B' := (0, 0)) (by decide) (by decide) ?_
  refine g_if_eq (tgt := 30) dX1_readAccused_17 (by decide) (fun c22 => ?_) (fun c22 => ?_)
  · rw [if_pos c22] at h
    refine g_iconst (v := (-1)) dX1_readAccused_30 (by decide) ?_
    exact ok_J_X1_readAccused_31 Θ l0 (-1) _ _ r h
  · rw [if_neg c22] at h
    refine g_aload_n dX1_readAccused_20 rfl 0 rfl ?_
    refine g_iconst (v := 1) dX1_readAccused_21 (by decide) ?_
    refine g_bipush (v := 60) dX1_readAccused_22 (by decide) ?_
    refine g_cI (ci := 1) (As := [.int 1, .int 60]) mv_X1_63 dX1_readAccused_24 rfl (ok_X1_takeNumber Θ l0 1 60 _ _) rfl rfl (Nat.le_of_ble_eq_true rfl) (by decide) (by decide) (by decide) h (fun x23 ω n h => ?_)
    refine G.less (B' := (0, 0)) (by decide) (by decide) ?_
    refine g_goto (tgt := 31) dX1_readAccused_27 (by decide) ?_
    exact ok_J_X1_readAccused_31 Θ l0 x23 _ _ r h
def J_X1_addProp_88 (Θ : GP) (ω : OW) (n : Nat) : RO := some (.inl (none, ω, n))
def F_X1_addProp (Θ : GP) (l0 : Nat) (l1 : Int32) (l2 : Int32) (l3 : Int32) (l4 : Int32) (ω : OW) (n : Nat) : RO := rA ω l0 1 1 (fun a1 => rI ω a1 0 0 (fun x2 => if 8 ≤ x2 then (J_X1_addProp_88 Θ ω n) else (rA ω l0 1 1 (fun a4 => rA ω a4 0 7 (fun a5 => sI ω (gI Θ) a5 x2 l1 (fun ω => rA ω l0 1 1 (fun a6 => rA ω a6 0 8 (fun a7 => sI ω (gI Θ) a7 x2 l2 (fun ω => rA ω l0 1 1 (fun a8 => rA ω a8 0 9 (fun a9 => sI ω (gI Θ) a9 x2 l3 (fun ω => rA ω l0 1 1 (fun a10 => rA ω a10 0 10 (fun a11 => sI ω (gI Θ) a11 x2 (-1) (fun ω => rA ω l0 1 1 (fun a12 => wF ω a12 0 0 (.int (x2 + 1)) (fun ω => if l4 = (-1) then (J_X1_addProp_88 Θ ω n) else (rA ω l0 1 1 (fun a14 => cO ω a14 0 (kV (F_X0_hang Θ a14 x2 l4 ω n) (fun ω n => J_X1_addProp_88 Θ ω n)))))))))))))))))))))
theorem ok_J_X1_addProp_88 (Θ : GP) (ω : OW) (n : Nat) (r : Out) (h : J_X1_addProp_88 Θ ω n = some r) : GR Θ yX1_addProp cX1_addProp 6 (none : Option Jvm.ClassFile.FieldType) 2 (0, 0) 88 [] [] ω n r := by
  unfold J_X1_addProp_88 at h
  cases h
  exact g_vret rfl dX1_addProp_88 rfl
theorem ok_X1_addProp (Θ : GP) (l0 : Nat) (l1 : Int32) (l2 : Int32) (l3 : Int32) (l4 : Int32) (ω : OW) (n : Nat) : Ok Θ 2 0 0 yX1_addProp cX1_addProp 6 (none : Option Jvm.ClassFile.FieldType) [.ref l0, .int l1, .int l2, .int l3, .int l4] ω n (F_X1_addProp Θ l0 l1 l2 l3 l4 ω n) := by
  refine Ok.of (by decide +kernel) (Nat.le_of_ble_eq_true rfl) (fun r h => ?_)
  unfold F_X1_addProp at h
  show GR Θ yX1_addProp cX1_addProp 6 (none : Option Jvm.ClassFile.FieldType) 2 (0, 0) 0 [(0, .ref l0), (1, .int l1), (2, .int l2), (3, .int l3), (4, .int l4)] [] ω n r
  refine g_aload_n dX1_addProp_0 rfl 0 rfl ?_
  refine g_rA fl_X1_15 dX1_addProp_1 h (fun a1 h => ?_)
  refine g_rI fl_X1_41 dX1_addProp_4 h (fun x2 h => ?_)
  refine g_istore (lv' := [(5, .int x2), (0, .ref l0), (1, .int l1), (2, .int l2), (3, .int l3), (4, .int l4)]) dX1_addProp_7 (by decide) rfl ?_
  refine g_iload dX1_addProp_9 0 rfl ?_
  refine g_bipush (v := 8) dX1_addProp_11 (by decide) ?_
  refine g_icmp_ge (tgt := 88) dX1_addProp_13 (by decide) (fun c3 => ?_) (fun c3 => ?_)
  · rw [if_pos c3] at h
    refine G.lsub [] rfl ?_
    exact ok_J_X1_addProp_88 Θ _ _ r h
  · rw [if_neg c3] at h
    refine g_aload_n dX1_addProp_16 rfl 1 rfl ?_
    refine g_rA fl_X1_15 dX1_addProp_17 h (fun a4 h => ?_)
    refine g_rA fl_X1_104 dX1_addProp_20 h (fun a5 h => ?_)
    refine g_iload dX1_addProp_23 0 rfl ?_
    refine g_iload_n dX1_addProp_25 rfl 2 rfl ?_
    refine g_sIi dX1_addProp_26 h (fun ω h => ?_)
    refine g_aload_n dX1_addProp_27 rfl 1 rfl ?_
    refine g_rA fl_X1_15 dX1_addProp_28 h (fun a6 h => ?_)
    refine g_rA fl_X1_107 dX1_addProp_31 h (fun a7 h => ?_)
    refine g_iload dX1_addProp_34 0 rfl ?_
    refine g_iload_n dX1_addProp_36 rfl 3 rfl ?_
    refine g_sIi dX1_addProp_37 h (fun ω h => ?_)
    refine g_aload_n dX1_addProp_38 rfl 1 rfl ?_
    refine g_rA fl_X1_15 dX1_addProp_39 h (fun a8 h => ?_)
    refine g_rA fl_X1_110 dX1_addProp_42 h (fun a9 h => ?_)
    refine g_iload dX1_addProp_45 0 rfl ?_
    refine g_iload_n dX1_addProp_47 rfl 4 rfl ?_
    refine g_sIi dX1_addProp_48 h (fun ω h => ?_)
    refine g_aload_n dX1_addProp_49 rfl 1 rfl ?_
    refine g_rA fl_X1_15 dX1_addProp_50 h (fun a10 h => ?_)
    refine g_rA fl_X1_113 dX1_addProp_53 h (fun a11 h => ?_)
    refine g_iload dX1_addProp_56 0 rfl ?_
    refine g_iconst (v := (-1)) dX1_addProp_58 (by decide) ?_
    refine g_sIi dX1_addProp_59 h (fun ω h => ?_)
    refine g_aload_n dX1_addProp_60 rfl 1 rfl ?_
    refine g_rA fl_X1_15 dX1_addProp_61 h (fun a12 h => ?_)
    refine g_iload dX1_addProp_64 0 rfl ?_
    refine g_iconst (v := 1) dX1_addProp_66 (by decide) ?_
    refine g_iadd dX1_addProp_67 ?_
    refine g_wF fl_X1_41 dX1_addProp_68 (rfl) rfl h (fun ω h => ?_)
    refine g_iload dX1_addProp_71 5 rfl ?_
    refine g_iconst (v := (-1)) dX1_addProp_73 (by decide) ?_
    refine g_icmp_eq (tgt := 88) dX1_addProp_74 (by decide) (fun c13 => ?_) (fun c13 => ?_)
    · rw [if_pos c13] at h
      refine G.lsub [] rfl ?_
      exact ok_J_X1_addProp_88 Θ _ _ r h
    · rw [if_neg c13] at h
      refine g_aload_n dX1_addProp_77 rfl 1 rfl ?_
      refine g_rA fl_X1_15 dX1_addProp_78 h (fun a14 h => ?_)
      refine g_iload dX1_addProp_81 0 rfl ?_
      refine g_iload dX1_addProp_83 5 rfl ?_
      refine g_cV (ci := 0) (As := [.int x2, .int l4]) mv_X1_116 dX1_addProp_85 rfl (ok_X0_hang Θ a14 x2 l4 _ _) rfl rfl (Nat.le_of_ble_eq_true rfl) (by decide) (by decide) (by decide) h (fun ω n h => ?_)
      refine G.less (B' := (0, 0)) (by decide) (by decide) ?_
      refine G.lsub [] rfl ?_
      exact ok_J_X1_addProp_88 Θ _ _ r h
def J_X8_letter_61 (Θ : GP) (s0 : Int32) (ω : OW) (n : Nat) : RO := some (.inl (some (.int s0), ω, n))
def J_X8_letter_40 (Θ : GP) (l0 : Nat) (s0 : Int32) (ω : OW) (n : Nat) : RO := if s0 = 0 then (J_X8_letter_61 Θ (-1) ω n) else (rA ω l0 8 5 (fun a2 => rI ω l0 8 1 (fun x3 => lI ω (gI Θ) a2 x3 (fun x4 => J_X8_letter_61 Θ (x4 - 97) ω n))))
def J_X8_letter_39 (Θ : GP) (l0 : Nat) (ω : OW) (n : Nat) : RO := J_X8_letter_40 Θ l0 0 ω n
def F_X8_letter (Θ : GP) (l0 : Nat) (ω : OW) (n : Nat) : RO := rI ω l0 8 3 (fun x5 => if x5 = 1 then (rI ω l0 8 2 (fun x7 => rI ω l0 8 1 (fun x8 => if (x7 - x8) = 1 then (rA ω l0 8 5 (fun a10 => rI ω l0 8 1 (fun x11 => lI ω (gI Θ) a10 x11 (fun x12 => if 103 ≤ x12 then (J_X8_letter_39 Θ l0 ω n) else (J_X8_letter_40 Θ l0 1 ω n))))) else (J_X8_letter_39 Θ l0 ω n)))) else (J_X8_letter_39 Θ l0 ω n))
theorem ok_J_X8_letter_61 (Θ : GP) (s0 : Int32) (ω : OW) (n : Nat) (r : Out) (h : J_X8_letter_61 Θ s0 ω n = some r) : GR Θ yX8_letter cX8_letter 2 (some .int) 1 (0, 0) 61 [] [.int s0] ω n r := by
  unfold J_X8_letter_61 at h
  cases h
  exact g_iret rfl dX8_letter_61 rfl
theorem ok_J_X8_letter_40 (Θ : GP) (l0 : Nat) (s0 : Int32) (ω : OW) (n : Nat) (r : Out) (h : J_X8_letter_40 Θ l0 s0 ω n = some r) : GR Θ yX8_letter cX8_letter 2 (some .int) 1 (0, 0) 40 [(0, .ref l0)] [.int s0] ω n r := by
  unfold J_X8_letter_40 at h
  refine g_istore_n (lv' := [(1, .int s0), (0, .ref l0)]) dX8_letter_40 rfl (by decide) rfl ?_
  refine g_iload_n dX8_letter_41 rfl 0 rfl ?_
  refine g_if_eq (tgt := 60) dX8_letter_42 (by decide) (fun c1 => ?_) (fun c1 => ?_)
  · rw [if_pos c1] at h
    refine g_iconst (v := (-1)) dX8_letter_60 (by decide) ?_
    refine G.lsub [] rfl ?_
    exact ok_J_X8_letter_61 Θ (-1) _ _ r h
  · rw [if_neg c1] at h
    refine g_aload_n dX8_letter_45 rfl 1 rfl ?_
    refine g_rA fl_X8_28 dX8_letter_46 h (fun a2 h => ?_)
    refine g_aload_n dX8_letter_49 rfl 1 rfl ?_
    refine g_rI fl_X8_15 dX8_letter_50 h (fun x3 h => ?_)
    refine g_lIi dX8_letter_53 h (fun x4 h => ?_)
    refine g_bipush (v := 97) dX8_letter_54 (by decide) ?_
    refine g_isub dX8_letter_56 ?_
    refine g_goto (tgt := 61) dX8_letter_57 (by decide) ?_
    refine G.lsub [] rfl ?_
    exact ok_J_X8_letter_61 Θ (x4 - 97) _ _ r h
theorem ok_J_X8_letter_39 (Θ : GP) (l0 : Nat) (ω : OW) (n : Nat) (r : Out) (h : J_X8_letter_39 Θ l0 ω n = some r) : GR Θ yX8_letter cX8_letter 2 (some .int) 1 (0, 0) 39 [(0, .ref l0)] [] ω n r := by
  unfold J_X8_letter_39 at h
  refine g_iconst (v := 0) dX8_letter_39 (by decide) ?_
  exact ok_J_X8_letter_40 Θ l0 0 _ _ r h
theorem ok_X8_letter (Θ : GP) (l0 : Nat) (ω : OW) (n : Nat) : Ok Θ 1 0 0 yX8_letter cX8_letter 2 (some .int) [.ref l0] ω n (F_X8_letter Θ l0 ω n) := by
  refine Ok.of (by decide +kernel) (Nat.le_of_ble_eq_true rfl) (fun r h => ?_)
  unfold F_X8_letter at h
  show GR Θ yX8_letter cX8_letter 2 (some .int) 1 (0, 0) 0 [(0, .ref l0)] [] ω n r
  refine g_aload_n dX8_letter_0 rfl 0 rfl ?_
  refine g_rI fl_X8_21 dX8_letter_1 h (fun x5 h => ?_)
  refine g_iconst (v := 1) dX8_letter_4 (by decide) ?_
  refine g_icmp_ne (tgt := 39) dX8_letter_5 (by decide) (fun c6 => ?_) (fun c6 => ?_)
  · rw [if_neg c6] at h
    exact ok_J_X8_letter_39 Θ l0 _ _ r h
  · rw [if_pos c6] at h
    refine g_aload_n dX8_letter_8 rfl 0 rfl ?_
    refine g_rI fl_X8_18 dX8_letter_9 h (fun x7 h => ?_)
    refine g_aload_n dX8_letter_12 rfl 0 rfl ?_
    refine g_rI fl_X8_15 dX8_letter_13 h (fun x8 h => ?_)
    refine g_isub dX8_letter_16 ?_
    refine g_iconst (v := 1) dX8_letter_17 (by decide) ?_
    refine g_icmp_ne (tgt := 39) dX8_letter_18 (by decide) (fun c9 => ?_) (fun c9 => ?_)
    · rw [if_neg c9] at h
      exact ok_J_X8_letter_39 Θ l0 _ _ r h
    · rw [if_pos c9] at h
      refine g_aload_n dX8_letter_21 rfl 0 rfl ?_
      refine g_rA fl_X8_28 dX8_letter_22 h (fun a10 h => ?_)
      refine g_aload_n dX8_letter_25 rfl 0 rfl ?_
      refine g_rI fl_X8_15 dX8_letter_26 h (fun x11 h => ?_)
      refine g_lIi dX8_letter_29 h (fun x12 h => ?_)
      refine g_bipush (v := 103) dX8_letter_30 (by decide) ?_
      refine g_icmp_ge (tgt := 39) dX8_letter_32 (by decide) (fun c13 => ?_) (fun c13 => ?_)
      · rw [if_pos c13] at h
        exact ok_J_X8_letter_39 Θ l0 _ _ r h
      · rw [if_neg c13] at h
        refine g_iconst (v := 1) dX8_letter_35 (by decide) ?_
        refine g_goto (tgt := 40) dX8_letter_36 (by decide) ?_
        exact ok_J_X8_letter_40 Θ l0 1 _ _ r h
def J_X1_readProp_137 (Θ : GP) (l0 : Nat) (l1 : Int32) (l2 : Int32) (l3 : Int32) (s0 : Int32) (ω : OW) (n : Nat) : RO := if s0 = (-1) then (some (.inl (some (.int 0), ω, n))) else (cO ω l0 1 (kV (F_X1_addProp Θ l0 l1 l2 s0 l3 ω n) (fun ω n => some (.inl (some (.int 1), ω, n)))))
def J_X1_readProp_113 (Θ : GP) (l0 : Nat) (l1 : Int32) (l2 : Int32) (l3 : Int32) (ω : OW) (n : Nat) : RO := rA ω l0 1 0 (fun a3 => cO ω a3 8 (kI (F_X8_takeWord Θ a3 2003792494 ω n) (fun x4 ω n => if x4 = 0 then (J_X1_readProp_137 Θ l0 l1 l2 l3 0 ω n) else (cO ω l0 1 (kI (F_X1_takeNumber Θ l0 0 99 ω n) (fun x6 ω n => J_X1_readProp_137 Θ l0 l1 l2 l3 x6 ω n))))))
def J_X1_readProp_104 (Θ : GP) (ω : OW) (n : Nat) : RO := some (.inl (some (.int 0), ω, n))
def J_X1_readProp_53 (Θ : GP) (l0 : Nat) (l1 : Int32) (s0 : Int32) (ω : OW) (n : Nat) : RO := if s0 = (-1) then (some (.inl (some (.int 0), ω, n))) else (rA ω l0 1 0 (fun a8 => cO ω a8 8 (kI (F_X8_takeWord Θ a8 24948 ω n) (fun x9 ω n => if x9 = 0 then (J_X1_readProp_113 Θ l0 l1 s0 (-1) ω n) else (rA ω l0 1 0 (fun a11 => cO ω a11 8 (kI (F_X8_number Θ a11 0 9 ω n) (fun x12 ω n => if x12 = (-1) then (J_X1_readProp_104 Θ ω n) else (rA ω l0 1 1 (fun a14 => rA ω a14 0 11 (fun a15 => lI ω (gI Θ) a15 x12 (fun x16 => if x16 < 0 then (rA ω l0 1 0 (fun a18 => cO ω a18 8 (kV (F_X8_advance Θ a18 ω n) (fun ω n => J_X1_readProp_113 Θ l0 l1 s0 x12 ω n)))) else (J_X1_readProp_104 Θ ω n)))))))))))))
def F_X1_readProp (Θ : GP) (l0 : Nat) (ω : OW) (n : Nat) : RO := rA ω l0 1 0 (fun a20 => cO ω a20 8 (kV (F_X8_advance Θ a20 ω n) (fun ω n => rA ω l0 1 0 (fun a22 => cO ω a22 8 (kI (F_X8_letter Θ a22 ω n) (fun x23 ω n => if x23 = (-1) then (some (.inl (some (.int 0), ω, n))) else (rA ω l0 1 0 (fun a25 => cO ω a25 8 (kV (F_X8_advance Θ a25 ω n) (fun ω n => rA ω l0 1 0 (fun a27 => cO ω a27 8 (kI (F_X8_takeWord Θ a27 1785033323 ω n) (fun x28 ω n => if x28 = 0 then (J_X1_readProp_53 Θ l0 x23 (-1) ω n) else (cO ω l0 1 (kI (F_X1_takeNumber Θ l0 0 20 ω n) (fun x30 ω n => J_X1_readProp_53 Θ l0 x23 x30 ω n))))))))))))))))
theorem ok_J_X1_readProp_137 (Θ : GP) (l0 : Nat) (l1 : Int32) (l2 : Int32) (l3 : Int32) (s0 : Int32) (ω : OW) (n : Nat) (r : Out) (h : J_X1_readProp_137 Θ l0 l1 l2 l3 s0 ω n = some r) : GR Θ yX1_readProp cX1_readProp 5 (some .boolean) 3 (0, 0) 137 [(0, .ref l0), (1, .int l1), (2, .int l2), (3, .int l3)] [.int s0] ω n r := by
  unfold J_X1_readProp_137 at h
  refine g_istore (lv' := [(4, .int s0), (0, .ref l0), (1, .int l1), (2, .int l2), (3, .int l3)]) dX1_readProp_137 (by decide) rfl ?_
  refine g_iload dX1_readProp_139 0 rfl ?_
  refine g_iconst (v := (-1)) dX1_readProp_141 (by decide) ?_
  refine g_icmp_ne (tgt := 147) dX1_readProp_142 (by decide) (fun c1 => ?_) (fun c1 => ?_)
  · rw [if_neg c1] at h
    refine g_aload_n dX1_readProp_147 rfl 1 rfl ?_
    refine g_iload_n dX1_readProp_148 rfl 2 rfl ?_
    refine g_iload_n dX1_readProp_149 rfl 3 rfl ?_
    refine g_iload dX1_readProp_150 0 rfl ?_
    refine g_iload_n dX1_readProp_152 rfl 4 rfl ?_
    refine g_cV (ci := 1) (As := [.int l1, .int l2, .int s0, .int l3]) mv_X1_100 dX1_readProp_153 rfl (ok_X1_addProp Θ l0 l1 l2 s0 l3 _ _) rfl rfl (Nat.le_of_ble_eq_true rfl) (by decide) (by decide) (by decide) h (fun ω n h => ?_)
    refine G.less (B' := (0, 0)) (by decide) (by decide) ?_
    refine g_iconst (v := 1) dX1_readProp_156 (by decide) ?_
    cases h
    exact g_zret rfl rfl dX1_readProp_157 rfl
  · rw [if_pos c1] at h
    refine g_iconst (v := 0) dX1_readProp_145 (by decide) ?_
    cases h
    exact g_zret rfl rfl dX1_readProp_146 rfl
theorem ok_J_X1_readProp_113 (Θ : GP) (l0 : Nat) (l1 : Int32) (l2 : Int32) (l3 : Int32) (ω : OW) (n : Nat) (r : Out) (h : J_X1_readProp_113 Θ l0 l1 l2 l3 ω n = some r) : GR Θ yX1_readProp cX1_readProp 5 (some .boolean) 3 (0, 0) 113 [(0, .ref l0), (1, .int l1), (2, .int l2), (3, .int l3)] [] ω n r := by
  unfold J_X1_readProp_113 at h
  refine g_aload_n dX1_readProp_113 rfl 0 rfl ?_
  refine g_rA fl_X1_9 dX1_readProp_114 h (fun a3 h => ?_)
  refine g_ldc2_w (v := 2003792494) wd_841 dX1_readProp_117 ?_
  refine g_cI (ci := 8) (As := [.long 2003792494]) mv_X1_60 dX1_readProp_120 rfl (ok_X8_takeWord Θ a3 2003792494 _ _) rfl rfl (Nat.le_of_ble_eq_true rfl) (by decide) (by decide) (by decide) h (fun x4 ω n h => ?_)
  refine G.less (B' := (0, 0)) (by decide) (by decide) ?_
  refine g_if_eq (tgt := 136) dX1_readProp_123 (by decide) (fun c5 => ?_) (fun c5 => ?_)
  · rw [if_pos c5] at h
    refine g_iconst (v := 0) dX1_readProp_136 (by decide) ?_
    exact ok_J_X1_readProp_137 Θ l0 l1 l2 l3 0 _ _ r h
  · rw [if_neg c5] at h
    refine g_aload_n dX1_readProp_126 rfl 0 rfl ?_
    refine g_iconst (v := 0) dX1_readProp_127 (by decide) ?_
    refine g_bipush (v := 99) dX1_readProp_128 (by decide) ?_
    refine g_cI (ci := 1) (As := [.int 0, .int 99]) mv_X1_63 dX1_readProp_130 rfl (ok_X1_takeNumber Θ l0 0 99 _ _) rfl rfl (Nat.le_of_ble_eq_true rfl) (by decide) (by decide) (by decide) h (fun x6 ω n h => ?_)
    refine G.less (B' := (0, 0)) (by decide) (by decide) ?_
    refine g_goto (tgt := 137) dX1_readProp_133 (by decide) ?_
    exact ok_J_X1_readProp_137 Θ l0 l1 l2 l3 x6 _ _ r h
theorem ok_J_X1_readProp_104 (Θ : GP) (ω : OW) (n : Nat) (r : Out) (h : J_X1_readProp_104 Θ ω n = some r) : GR Θ yX1_readProp cX1_readProp 5 (some .boolean) 3 (0, 0) 104 [] [] ω n r := by
  unfold J_X1_readProp_104 at h
  refine g_iconst (v := 0) dX1_readProp_104 (by decide) ?_
  cases h
  exact g_zret rfl rfl dX1_readProp_105 rfl
theorem ok_J_X1_readProp_53 (Θ : GP) (l0 : Nat) (l1 : Int32) (s0 : Int32) (ω : OW) (n : Nat) (r : Out) (h : J_X1_readProp_53 Θ l0 l1 s0 ω n = some r) : GR Θ yX1_readProp cX1_readProp 5 (some .boolean) 3 (0, 0) 53 [(0, .ref l0), (1, .int l1)] [.int s0] ω n r := by
  unfold J_X1_readProp_53 at h
  refine g_istore_n (lv' := [(2, .int s0), (0, .ref l0), (1, .int l1)]) dX1_readProp_53 rfl (by decide) rfl ?_
  refine g_iload_n dX1_readProp_54 rfl 0 rfl ?_
  refine g_iconst (v := (-1)) dX1_readProp_55 (by decide) ?_
  refine g_icmp_ne (tgt := 61) dX1_readProp_56 (by decide) (fun c7 => ?_) (fun c7 => ?_)
  · rw [if_neg c7] at h
    refine g_iconst (v := (-1)) dX1_readProp_61 (by decide) ?_
    refine g_istore_n (lv' := [(3, .int (-1)), (2, .int s0), (0, .ref l0), (1, .int l1)]) dX1_readProp_62 rfl (by decide) rfl ?_
    refine g_aload_n dX1_readProp_63 rfl 2 rfl ?_
    refine g_rA fl_X1_9 dX1_readProp_64 h (fun a8 h => ?_)
    refine g_ldc2_w (v := 24948) wd_840 dX1_readProp_67 ?_
    refine g_cI (ci := 8) (As := [.long 24948]) mv_X1_60 dX1_readProp_70 rfl (ok_X8_takeWord Θ a8 24948 _ _) rfl rfl (Nat.le_of_ble_eq_true rfl) (by decide) (by decide) (by decide) h (fun x9 ω n h => ?_)
    refine G.less (B' := (0, 0)) (by decide) (by decide) ?_
    refine g_if_eq (tgt := 113) dX1_readProp_73 (by decide) (fun c10 => ?_) (fun c10 => ?_)
    · rw [if_pos c10] at h
      refine G.lsub [2, 3, 1, 0] rfl ?_
      exact ok_J_X1_readProp_113 Θ l0 l1 s0 (-1) _ _ r h
    · rw [if_neg c10] at h
      refine g_aload_n dX1_readProp_76 rfl 2 rfl ?_
      refine g_rA fl_X1_9 dX1_readProp_77 h (fun a11 h => ?_)
      refine g_iconst (v := 0) dX1_readProp_80 (by decide) ?_
      refine g_bipush (v := 9) dX1_readProp_81 (by decide) ?_
      refine g_cI (ci := 8) (As := [.int 0, .int 9]) mv_X1_91 dX1_readProp_83 rfl (ok_X8_number Θ a11 0 9 _ _) rfl rfl (Nat.le_of_ble_eq_true rfl) (by decide) (by decide) (by decide) h (fun x12 ω n h => ?_)
      refine G.less (B' := (0, 0)) (by decide) (by decide) ?_
      refine g_istore_n (lv' := [(3, .int x12), (2, .int s0), (0, .ref l0), (1, .int l1)]) dX1_readProp_86 rfl (by decide) rfl ?_
      refine g_iload_n dX1_readProp_87 rfl 0 rfl ?_
      refine g_iconst (v := (-1)) dX1_readProp_88 (by decide) ?_
      refine g_icmp_eq (tgt := 104) dX1_readProp_89 (by decide) (fun c13 => ?_) (fun c13 => ?_)
      · rw [if_pos c13] at h
        refine G.lsub [] rfl ?_
        exact ok_J_X1_readProp_104 Θ _ _ r h
      · rw [if_neg c13] at h
        refine g_aload_n dX1_readProp_92 rfl 2 rfl ?_
        refine g_rA fl_X1_15 dX1_readProp_93 h (fun a14 h => ?_)
        refine g_rA fl_X1_94 dX1_readProp_96 h (fun a15 h => ?_)
        refine g_iload_n dX1_readProp_99 rfl 0 rfl ?_
        refine g_lIi dX1_readProp_100 h (fun x16 h => ?_)
        refine g_if_lt (tgt := 106) dX1_readProp_101 (by decide) (fun c17 => ?_) (fun c17 => ?_)
        · rw [if_pos c17] at h
          refine g_aload_n dX1_readProp_106 rfl 2 rfl ?_
          refine g_rA fl_X1_9 dX1_readProp_107 h (fun a18 h => ?_)
          refine g_cV (ci := 8) (As := []) mv_X1_80 dX1_readProp_110 rfl (ok_X8_advance Θ a18 _ _) rfl rfl (Nat.le_of_ble_eq_true rfl) (by decide) (by decide) (by decide) h (fun ω n h => ?_)
          refine G.less (B' := (0, 0)) (by decide) (by decide) ?_
          refine G.lsub [2, 3, 1, 0] rfl ?_
          exact ok_J_X1_readProp_113 Θ l0 l1 s0 x12 _ _ r h
        · rw [if_neg c17] at h
          refine G.lsub [] rfl ?_
          exact ok_J_X1_readProp_104 Θ _ _ r h
  · rw [if_pos c7] at h
    refine g_iconst (v := 0) dX1_readProp_59 (by decide) ?_
    cases h
    exact g_zret rfl rfl dX1_readProp_60 rfl
theorem ok_X1_readProp (Θ : GP) (l0 : Nat) (ω : OW) (n : Nat) : Ok Θ 3 0 0 yX1_readProp cX1_readProp 5 (some .boolean) [.ref l0] ω n (F_X1_readProp Θ l0 ω n) := by
  refine Ok.of (by decide +kernel) (Nat.le_of_ble_eq_true rfl) (fun r h => ?_)
  unfold F_X1_readProp at h
  show GR Θ yX1_readProp cX1_readProp 5 (some .boolean) 3 (0, 0) 0 [(0, .ref l0)] [] ω n r
  refine g_aload_n dX1_readProp_0 rfl 0 rfl ?_
  refine g_rA fl_X1_9 dX1_readProp_1 h (fun a20 h => ?_)
  refine g_cV (ci := 8) (As := []) mv_X1_80 dX1_readProp_4 rfl (ok_X8_advance Θ a20 _ _) rfl rfl (Nat.le_of_ble_eq_true rfl) (by decide) (by decide) (by decide) h (fun ω n h => ?_)
  refine G.less (B' := (0, 0)) (by decide) (by decide) ?_
  refine g_aload_n dX1_readProp_7 rfl 0 rfl ?_
  refine g_rA fl_X1_9 dX1_readProp_8 h (fun a22 h => ?_)
  refine g_cI (ci := 8) (As := []) mv_X1_83 dX1_readProp_11 rfl (ok_X8_letter Θ a22 _ _) rfl rfl (Nat.le_of_ble_eq_true rfl) (by decide) (by decide) (by decide) h (fun x23 ω n h => ?_)
  refine G.less (B' := (0, 0)) (by decide) (by decide) ?_
  refine g_istore_n (lv' := [(1, .int x23), (0, .ref l0)]) dX1_readProp_14 rfl (by decide) rfl ?_
  refine g_iload_n dX1_readProp_15 rfl 0 rfl ?_
  refine g_iconst (v := (-1)) dX1_readProp_16 (by decide) ?_
  refine g_icmp_ne (tgt := 22) dX1_readProp_17 (by decide) (fun c24 => ?_) (fun c24 => ?_)
  · rw [if_neg c24] at h
    refine g_aload_n dX1_readProp_22 rfl 1 rfl ?_
    refine g_rA fl_X1_9 dX1_readProp_23 h (fun a25 h => ?_)
    refine g_cV (ci := 8) (As := []) mv_X1_80 dX1_readProp_26 rfl (ok_X8_advance Θ a25 _ _) rfl rfl (Nat.le_of_ble_eq_true rfl) (by decide) (by decide) (by decide) h (fun ω n h => ?_)
    refine G.less (B' := (0, 0)) (by decide) (by decide) ?_
    refine g_aload_n dX1_readProp_29 rfl 1 rfl ?_
    refine g_rA fl_X1_9 dX1_readProp_30 h (fun a27 h => ?_)
    refine g_ldc2_w (v := 1785033323) wd_826 dX1_readProp_33 ?_
    refine g_cI (ci := 8) (As := [.long 1785033323]) mv_X1_60 dX1_readProp_36 rfl (ok_X8_takeWord Θ a27 1785033323 _ _) rfl rfl (Nat.le_of_ble_eq_true rfl) (by decide) (by decide) (by decide) h (fun x28 ω n h => ?_)
    refine G.less (B' := (0, 0)) (by decide) (by decide) ?_
    refine g_if_eq (tgt := 52) dX1_readProp_39 (by decide) (fun c29 => ?_) (fun c29 => ?_)
    · rw [if_pos c29] at h
      refine g_iconst (v := (-1)) dX1_readProp_52 (by decide) ?_
      refine G.lsub [1, 0] rfl ?_
      exact ok_J_X1_readProp_53 Θ l0 x23 (-1) _ _ r h
    · rw [if_neg c29] at h
      refine g_aload_n dX1_readProp_42 rfl 1 rfl ?_
      refine g_iconst (v := 0) dX1_readProp_43 (by decide) ?_
      refine g_bipush (v := 20) dX1_readProp_44 (by decide) ?_
      refine g_cI (ci := 1) (As := [.int 0, .int 20]) mv_X1_63 dX1_readProp_46 rfl (ok_X1_takeNumber Θ l0 0 20 _ _) rfl rfl (Nat.le_of_ble_eq_true rfl) (by decide) (by decide) (by decide) h (fun x30 ω n h => ?_)
      refine G.less (B' := (0, 0)) (by decide) (by decide) ?_
      refine g_goto (tgt := 53) dX1_readProp_49 (by decide) ?_
      refine G.lsub [1, 0] rfl ?_
      exact ok_J_X1_readProp_53 Θ l0 x23 x30 _ _ r h
  · rw [if_pos c24] at h
    refine g_iconst (v := 0) dX1_readProp_20 (by decide) ?_
    cases h
    exact g_zret rfl rfl dX1_readProp_21 rfl
def J_X1_readLine_196 (Θ : GP) (s0 : Int32) (ω : OW) (n : Nat) : RO := bz s0 (some (.inl (some (.int s0), ω, n)))
def J_X1_readLine_155 (Θ : GP) (s0 : Int32) (ω : OW) (n : Nat) : RO := bz s0 (some (.inl (some (.int s0), ω, n)))
def J_X1_readLine_115 (Θ : GP) (s0 : Int32) (ω : OW) (n : Nat) : RO := bz s0 (some (.inl (some (.int s0), ω, n)))
def J_X1_readLine_75 (Θ : GP) (s0 : Int32) (ω : OW) (n : Nat) : RO := bz s0 (some (.inl (some (.int s0), ω, n)))
def J_X1_readLine_74 (Θ : GP) (ω : OW) (n : Nat) : RO := J_X1_readLine_75 Θ 0 ω n
def J_X1_readLine_37 (Θ : GP) (s0 : Int32) (ω : OW) (n : Nat) : RO := bz s0 (some (.inl (some (.int s0), ω, n)))
def J_X1_readLine_36 (Θ : GP) (ω : OW) (n : Nat) : RO := J_X1_readLine_37 Θ 0 ω n
def F_X1_readLine (Θ : GP) (l0 : Nat) (ω : OW) (n : Nat) : RO := rA ω l0 1 0 (fun a6 => cO ω a6 8 (kI (F_X8_isWord Θ a6 1886547824 ω n) (fun x7 ω n => if x7 = 0 then (rA ω l0 1 0 (fun a9 => cO ω a9 8 (kI (F_X8_isWord Θ a9 27412351564342628 ω n) (fun x10 ω n => if x10 = 0 then (rA ω l0 1 0 (fun a12 => cO ω a12 8 (kI (F_X8_takeWord Θ a12 1667329133 ω n) (fun x13 ω n => if x13 = 0 then (rA ω l0 1 0 (fun a15 => cO ω a15 8 (kI (F_X8_takeWord Θ a15 1701013615 ω n) (fun x16 ω n => if x16 = 0 then (rA ω l0 1 0 (fun a18 => cO ω a18 8 (kI (F_X8_takeWord Θ a18 6578553 ω n) (fun x19 ω n => if x19 = 0 then (some (.inl (some (.int 0), ω, n))) else (cO ω l0 1 (kI (F_X1_takeNumber Θ l0 0 999 ω n) (fun x21 ω n => rA ω l0 1 1 (fun a22 => wF ω a22 0 5 (.int x21) (fun ω => if x21 = (-1) then (J_X1_readLine_196 Θ 0 ω n) else (J_X1_readLine_196 Θ 1 ω n)))))))))) else (cO ω l0 1 (kI (F_X1_takeNumber Θ l0 0 20 ω n) (fun x24 ω n => rA ω l0 1 1 (fun a25 => wF ω a25 0 4 (.int x24) (fun ω => if x24 = (-1) then (J_X1_readLine_155 Θ 0 ω n) else (J_X1_readLine_155 Θ 1 ω n)))))))))) else (cO ω l0 1 (kI (F_X1_takeNumber Θ l0 0 9 ω n) (fun x27 ω n => rA ω l0 1 1 (fun a28 => wF ω a28 0 3 (.int x27) (fun ω => if x27 = (-1) then (J_X1_readLine_115 Θ 0 ω n) else (J_X1_readLine_115 Θ 1 ω n)))))))))) else (rA ω l0 1 1 (fun a30 => rI ω a30 0 1 (fun x31 => if 6 ≤ x31 then (J_X1_readLine_74 Θ ω n) else (cO ω l0 1 (kI (F_X1_readAccused Θ l0 ω n) (fun x33 ω n => if x33 = 0 then (J_X1_readLine_74 Θ ω n) else (J_X1_readLine_75 Θ 1 ω n))))))))))) else (rA ω l0 1 1 (fun a35 => rI ω a35 0 0 (fun x36 => if 8 ≤ x36 then (J_X1_readLine_36 Θ ω n) else (cO ω l0 1 (kI (F_X1_readProp Θ l0 ω n) (fun x38 ω n => if x38 = 0 then (J_X1_readLine_36 Θ ω n) else (J_X1_readLine_37 Θ 1 ω n))))))))))
theorem ok_J_X1_readLine_196 (Θ : GP) (s0 : Int32) (ω : OW) (n : Nat) (r : Out) (h : J_X1_readLine_196 Θ s0 ω n = some r) : GR Θ yX1_readLine cX1_readLine 2 (some .boolean) 4 (0, 0) 196 [] [.int s0] ω n r := by
  unfold J_X1_readLine_196 at h
  obtain ⟨z1, h⟩ := bz_inv h
  cases h
  exact g_zret rfl z1 dX1_readLine_196 rfl
theorem ok_J_X1_readLine_155 (Θ : GP) (s0 : Int32) (ω : OW) (n : Nat) (r : Out) (h : J_X1_readLine_155 Θ s0 ω n = some r) : GR Θ yX1_readLine cX1_readLine 2 (some .boolean) 4 (0, 0) 155 [] [.int s0] ω n r := by
  unfold J_X1_readLine_155 at h
  obtain ⟨z2, h⟩ := bz_inv h
  cases h
  exact g_zret rfl z2 dX1_readLine_155 rfl
theorem ok_J_X1_readLine_115 (Θ : GP) (s0 : Int32) (ω : OW) (n : Nat) (r : Out) (h : J_X1_readLine_115 Θ s0 ω n = some r) : GR Θ yX1_readLine cX1_readLine 2 (some .boolean) 4 (0, 0) 115 [] [.int s0] ω n r := by
  unfold J_X1_readLine_115 at h
  obtain ⟨z3, h⟩ := bz_inv h
  cases h
  exact g_zret rfl z3 dX1_readLine_115 rfl
theorem ok_J_X1_readLine_75 (Θ : GP) (s0 : Int32) (ω : OW) (n : Nat) (r : Out) (h : J_X1_readLine_75 Θ s0 ω n = some r) : GR Θ yX1_readLine cX1_readLine 2 (some .boolean) 4 (0, 0) 75 [] [.int s0] ω n r := by
  unfold J_X1_readLine_75 at h
  obtain ⟨z4, h⟩ := bz_inv h
  cases h
  exact g_zret rfl z4 dX1_readLine_75 rfl
theorem ok_J_X1_readLine_74 (Θ : GP) (ω : OW) (n : Nat) (r : Out) (h : J_X1_readLine_74 Θ ω n = some r) : GR Θ yX1_readLine cX1_readLine 2 (some .boolean) 4 (0, 0) 74 [] [] ω n r := by
  unfold J_X1_readLine_74 at h
  refine g_iconst (v := 0) dX1_readLine_74 (by decide) ?_
  exact ok_J_X1_readLine_75 Θ 0 _ _ r h
theorem ok_J_X1_readLine_37 (Θ : GP) (s0 : Int32) (ω : OW) (n : Nat) (r : Out) (h : J_X1_readLine_37 Θ s0 ω n = some r) : GR Θ yX1_readLine cX1_readLine 2 (some .boolean) 4 (0, 0) 37 [] [.int s0] ω n r := by
  unfold J_X1_readLine_37 at h
  obtain ⟨z5, h⟩ := bz_inv h
  cases h
  exact g_zret rfl z5 dX1_readLine_37 rfl
theorem ok_J_X1_readLine_36 (Θ : GP) (ω : OW) (n : Nat) (r : Out) (h : J_X1_readLine_36 Θ ω n = some r) : GR Θ yX1_readLine cX1_readLine 2 (some .boolean) 4 (0, 0) 36 [] [] ω n r := by
  unfold J_X1_readLine_36 at h
  refine g_iconst (v := 0) dX1_readLine_36 (by decide) ?_
  exact ok_J_X1_readLine_37 Θ 0 _ _ r h
theorem ok_X1_readLine (Θ : GP) (l0 : Nat) (ω : OW) (n : Nat) : Ok Θ 4 0 0 yX1_readLine cX1_readLine 2 (some .boolean) [.ref l0] ω n (F_X1_readLine Θ l0 ω n) := by
  refine Ok.of (by decide +kernel) (Nat.le_of_ble_eq_true rfl) (fun r h => ?_)
  unfold F_X1_readLine at h
  show GR Θ yX1_readLine cX1_readLine 2 (some .boolean) 4 (0, 0) 0 [(0, .ref l0)] [] ω n r
  refine g_aload_n dX1_readLine_0 rfl 0 rfl ?_
  refine g_rA fl_X1_9 dX1_readLine_1 h (fun a6 h => ?_)
  refine g_ldc2_w (v := 1886547824) wd_812 dX1_readLine_4 ?_
  refine g_cI (ci := 8) (As := [.long 1886547824]) mv_X1_37 dX1_readLine_7 rfl (ok_X8_isWord Θ a6 1886547824 _ _) rfl rfl (Nat.le_of_ble_eq_true rfl) (by decide) (by decide) (by decide) h (fun x7 ω n h => ?_)
  refine G.less (B' := (0, 0)) (by decide) (by decide) ?_
  refine g_if_eq (tgt := 38) dX1_readLine_10 (by decide) (fun c8 => ?_) (fun c8 => ?_)
  · rw [if_pos c8] at h
    refine g_aload_n dX1_readLine_38 rfl 0 rfl ?_
    refine g_rA fl_X1_9 dX1_readLine_39 h (fun a9 h => ?_)
    refine g_ldc2_w (v := 27412351564342628) wd_850 dX1_readLine_42 ?_
    refine g_cI (ci := 8) (As := [.long 27412351564342628]) mv_X1_37 dX1_readLine_45 rfl (ok_X8_isWord Θ a9 27412351564342628 _ _) rfl rfl (Nat.le_of_ble_eq_true rfl) (by decide) (by decide) (by decide) h (fun x10 ω n h => ?_)
    refine G.less (B' := (0, 0)) (by decide) (by decide) ?_
    refine g_if_eq (tgt := 76) dX1_readLine_48 (by decide) (fun c11 => ?_) (fun c11 => ?_)
    · rw [if_pos c11] at h
      refine g_aload_n dX1_readLine_76 rfl 0 rfl ?_
      refine g_rA fl_X1_9 dX1_readLine_77 h (fun a12 h => ?_)
      refine g_ldc2_w (v := 1667329133) wd_866 dX1_readLine_80 ?_
      refine g_cI (ci := 8) (As := [.long 1667329133]) mv_X1_60 dX1_readLine_83 rfl (ok_X8_takeWord Θ a12 1667329133 _ _) rfl rfl (Nat.le_of_ble_eq_true rfl) (by decide) (by decide) (by decide) h (fun x13 ω n h => ?_)
      refine G.less (B' := (0, 0)) (by decide) (by decide) ?_
      refine g_if_eq (tgt := 116) dX1_readLine_86 (by decide) (fun c14 => ?_) (fun c14 => ?_)
      · rw [if_pos c14] at h
        refine g_aload_n dX1_readLine_116 rfl 0 rfl ?_
        refine g_rA fl_X1_9 dX1_readLine_117 h (fun a15 h => ?_)
        refine g_ldc2_w (v := 1701013615) wd_867 dX1_readLine_120 ?_
        refine g_cI (ci := 8) (As := [.long 1701013615]) mv_X1_60 dX1_readLine_123 rfl (ok_X8_takeWord Θ a15 1701013615 _ _) rfl rfl (Nat.le_of_ble_eq_true rfl) (by decide) (by decide) (by decide) h (fun x16 ω n h => ?_)
        refine G.less (B' := (0, 0)) (by decide) (by decide) ?_
        refine g_if_eq (tgt := 156) dX1_readLine_126 (by decide) (fun c17 => ?_) (fun c17 => ?_)
        · rw [if_pos c17] at h
          refine g_aload_n dX1_readLine_156 rfl 0 rfl ?_
          refine g_rA fl_X1_9 dX1_readLine_157 h (fun a18 h => ?_)
          refine g_ldc2_w (v := 6578553) wd_868 dX1_readLine_160 ?_
          refine g_cI (ci := 8) (As := [.long 6578553]) mv_X1_60 dX1_readLine_163 rfl (ok_X8_takeWord Θ a18 6578553 _ _) rfl rfl (Nat.le_of_ble_eq_true rfl) (by decide) (by decide) (by decide) h (fun x19 ω n h => ?_)
          refine G.less (B' := (0, 0)) (by decide) (by decide) ?_
          refine g_if_eq (tgt := 197) dX1_readLine_166 (by decide) (fun c20 => ?_) (fun c20 => ?_)
          · rw [if_pos c20] at h
            refine g_iconst (v := 0) dX1_readLine_197 (by decide) ?_
            cases h
            exact g_zret rfl rfl dX1_readLine_198 rfl
          · rw [if_neg c20] at h
            refine g_aload_n dX1_readLine_169 rfl 0 rfl ?_
            refine g_iconst (v := 0) dX1_readLine_170 (by decide) ?_
            refine g_sipush (v := 999) dX1_readLine_171 (by decide) ?_
            refine g_cI (ci := 1) (As := [.int 0, .int 999]) mv_X1_63 dX1_readLine_174 rfl (ok_X1_takeNumber Θ l0 0 999 _ _) rfl rfl (Nat.le_of_ble_eq_true rfl) (by decide) (by decide) (by decide) h (fun x21 ω n h => ?_)
            refine G.less (B' := (0, 0)) (by decide) (by decide) ?_
            refine g_istore_n (lv' := [(1, .int x21), (0, .ref l0)]) dX1_readLine_177 rfl (by decide) rfl ?_
            refine g_aload_n dX1_readLine_178 rfl 1 rfl ?_
            refine g_rA fl_X1_15 dX1_readLine_179 h (fun a22 h => ?_)
            refine g_iload_n dX1_readLine_182 rfl 0 rfl ?_
            refine g_wF fl_X1_77 dX1_readLine_183 (rfl) rfl h (fun ω h => ?_)
            refine g_iload_n dX1_readLine_186 rfl 0 rfl ?_
            refine g_iconst (v := (-1)) dX1_readLine_187 (by decide) ?_
            refine g_icmp_eq (tgt := 195) dX1_readLine_188 (by decide) (fun c23 => ?_) (fun c23 => ?_)
            · rw [if_pos c23] at h
              refine g_iconst (v := 0) dX1_readLine_195 (by decide) ?_
              refine G.lsub [] rfl ?_
              exact ok_J_X1_readLine_196 Θ 0 _ _ r h
            · rw [if_neg c23] at h
              refine g_iconst (v := 1) dX1_readLine_191 (by decide) ?_
              refine g_goto (tgt := 196) dX1_readLine_192 (by decide) ?_
              refine G.lsub [] rfl ?_
              exact ok_J_X1_readLine_196 Θ 1 _ _ r h
        · rw [if_neg c17] at h
          refine g_aload_n dX1_readLine_129 rfl 0 rfl ?_
          refine g_iconst (v := 0) dX1_readLine_130 (by decide) ?_
          refine g_bipush (v := 20) dX1_readLine_131 (by decide) ?_
          refine g_cI (ci := 1) (As := [.int 0, .int 20]) mv_X1_63 dX1_readLine_133 rfl (ok_X1_takeNumber Θ l0 0 20 _ _) rfl rfl (Nat.le_of_ble_eq_true rfl) (by decide) (by decide) (by decide) h (fun x24 ω n h => ?_)
          refine G.less (B' := (0, 0)) (by decide) (by decide) ?_
          refine g_istore_n (lv' := [(1, .int x24), (0, .ref l0)]) dX1_readLine_136 rfl (by decide) rfl ?_
          refine g_aload_n dX1_readLine_137 rfl 1 rfl ?_
          refine g_rA fl_X1_15 dX1_readLine_138 h (fun a25 h => ?_)
          refine g_iload_n dX1_readLine_141 rfl 0 rfl ?_
          refine g_wF fl_X1_72 dX1_readLine_142 (rfl) rfl h (fun ω h => ?_)
          refine g_iload_n dX1_readLine_145 rfl 0 rfl ?_
          refine g_iconst (v := (-1)) dX1_readLine_146 (by decide) ?_
          refine g_icmp_eq (tgt := 154) dX1_readLine_147 (by decide) (fun c26 => ?_) (fun c26 => ?_)
          · rw [if_pos c26] at h
            refine g_iconst (v := 0) dX1_readLine_154 (by decide) ?_
            refine G.lsub [] rfl ?_
            exact ok_J_X1_readLine_155 Θ 0 _ _ r h
          · rw [if_neg c26] at h
            refine g_iconst (v := 1) dX1_readLine_150 (by decide) ?_
            refine g_goto (tgt := 155) dX1_readLine_151 (by decide) ?_
            refine G.lsub [] rfl ?_
            exact ok_J_X1_readLine_155 Θ 1 _ _ r h
      · rw [if_neg c14] at h
        refine g_aload_n dX1_readLine_89 rfl 0 rfl ?_
        refine g_iconst (v := 0) dX1_readLine_90 (by decide) ?_
        refine g_bipush (v := 9) dX1_readLine_91 (by decide) ?_
        refine g_cI (ci := 1) (As := [.int 0, .int 9]) mv_X1_63 dX1_readLine_93 rfl (ok_X1_takeNumber Θ l0 0 9 _ _) rfl rfl (Nat.le_of_ble_eq_true rfl) (by decide) (by decide) (by decide) h (fun x27 ω n h => ?_)
        refine G.less (B' := (0, 0)) (by decide) (by decide) ?_
        refine g_istore_n (lv' := [(1, .int x27), (0, .ref l0)]) dX1_readLine_96 rfl (by decide) rfl ?_
        refine g_aload_n dX1_readLine_97 rfl 1 rfl ?_
        refine g_rA fl_X1_15 dX1_readLine_98 h (fun a28 h => ?_)
        refine g_iload_n dX1_readLine_101 rfl 0 rfl ?_
        refine g_wF fl_X1_67 dX1_readLine_102 (rfl) rfl h (fun ω h => ?_)
        refine g_iload_n dX1_readLine_105 rfl 0 rfl ?_
        refine g_iconst (v := (-1)) dX1_readLine_106 (by decide) ?_
        refine g_icmp_eq (tgt := 114) dX1_readLine_107 (by decide) (fun c29 => ?_) (fun c29 => ?_)
        · rw [if_pos c29] at h
          refine g_iconst (v := 0) dX1_readLine_114 (by decide) ?_
          refine G.lsub [] rfl ?_
          exact ok_J_X1_readLine_115 Θ 0 _ _ r h
        · rw [if_neg c29] at h
          refine g_iconst (v := 1) dX1_readLine_110 (by decide) ?_
          refine g_goto (tgt := 115) dX1_readLine_111 (by decide) ?_
          refine G.lsub [] rfl ?_
          exact ok_J_X1_readLine_115 Θ 1 _ _ r h
    · rw [if_neg c11] at h
      refine g_aload_n dX1_readLine_51 rfl 0 rfl ?_
      refine g_rA fl_X1_15 dX1_readLine_52 h (fun a30 h => ?_)
      refine g_rI fl_X1_52 dX1_readLine_55 h (fun x31 h => ?_)
      refine g_bipush (v := 6) dX1_readLine_58 (by decide) ?_
      refine g_icmp_ge (tgt := 74) dX1_readLine_60 (by decide) (fun c32 => ?_) (fun c32 => ?_)
      · rw [if_pos c32] at h
        refine G.lsub [] rfl ?_
        exact ok_J_X1_readLine_74 Θ _ _ r h
      · rw [if_neg c32] at h
        refine g_aload_n dX1_readLine_63 rfl 0 rfl ?_
        refine g_cI (ci := 1) (As := []) mv_X1_55 dX1_readLine_64 rfl (ok_X1_readAccused Θ l0 _ _) rfl rfl (Nat.le_of_ble_eq_true rfl) (by decide) (by decide) (by decide) h (fun x33 ω n h => ?_)
        refine G.less (B' := (0, 0)) (by decide) (by decide) ?_
        refine g_if_eq (tgt := 74) dX1_readLine_67 (by decide) (fun c34 => ?_) (fun c34 => ?_)
        · rw [if_pos c34] at h
          refine G.lsub [] rfl ?_
          exact ok_J_X1_readLine_74 Θ _ _ r h
        · rw [if_neg c34] at h
          refine g_iconst (v := 1) dX1_readLine_70 (by decide) ?_
          refine g_goto (tgt := 75) dX1_readLine_71 (by decide) ?_
          refine G.lsub [] rfl ?_
          exact ok_J_X1_readLine_75 Θ 1 _ _ r h
  · rw [if_neg c8] at h
    refine g_aload_n dX1_readLine_13 rfl 0 rfl ?_
    refine g_rA fl_X1_15 dX1_readLine_14 h (fun a35 h => ?_)
    refine g_rI fl_X1_41 dX1_readLine_17 h (fun x36 h => ?_)
    refine g_bipush (v := 8) dX1_readLine_20 (by decide) ?_
    refine g_icmp_ge (tgt := 36) dX1_readLine_22 (by decide) (fun c37 => ?_) (fun c37 => ?_)
    · rw [if_pos c37] at h
      refine G.lsub [] rfl ?_
      exact ok_J_X1_readLine_36 Θ _ _ r h
    · rw [if_neg c37] at h
      refine g_aload_n dX1_readLine_25 rfl 0 rfl ?_
      refine g_cI (ci := 1) (As := []) mv_X1_47 dX1_readLine_26 rfl (ok_X1_readProp Θ l0 _ _) rfl rfl (Nat.le_of_ble_eq_true rfl) (by decide) (by decide) (by decide) h (fun x38 ω n h => ?_)
      refine G.less (B' := (0, 0)) (by decide) (by decide) ?_
      refine g_if_eq (tgt := 36) dX1_readLine_29 (by decide) (fun c39 => ?_) (fun c39 => ?_)
      · rw [if_pos c39] at h
        refine G.lsub [] rfl ?_
        exact ok_J_X1_readLine_36 Θ _ _ r h
      · rw [if_neg c39] at h
        refine g_iconst (v := 1) dX1_readLine_32 (by decide) ?_
        refine g_goto (tgt := 37) dX1_readLine_33 (by decide) ?_
        refine G.lsub [] rfl ?_
        exact ok_J_X1_readLine_37 Θ 1 _ _ r h
def J_X8_isEnded_12 (Θ : GP) (s0 : Int32) (ω : OW) (n : Nat) : RO := bz s0 (some (.inl (some (.int s0), ω, n)))
def F_X8_isEnded (Θ : GP) (l0 : Nat) (ω : OW) (n : Nat) : RO := rI ω l0 8 3 (fun x2 => if x2 = 0 then (J_X8_isEnded_12 Θ 1 ω n) else (J_X8_isEnded_12 Θ 0 ω n))
theorem ok_J_X8_isEnded_12 (Θ : GP) (s0 : Int32) (ω : OW) (n : Nat) (r : Out) (h : J_X8_isEnded_12 Θ s0 ω n = some r) : GR Θ yX8_isEnded cX8_isEnded 1 (some .boolean) 1 (0, 0) 12 [] [.int s0] ω n r := by
  unfold J_X8_isEnded_12 at h
  obtain ⟨z1, h⟩ := bz_inv h
  cases h
  exact g_zret rfl z1 dX8_isEnded_12 rfl
theorem ok_X8_isEnded (Θ : GP) (l0 : Nat) (ω : OW) (n : Nat) : Ok Θ 1 0 0 yX8_isEnded cX8_isEnded 1 (some .boolean) [.ref l0] ω n (F_X8_isEnded Θ l0 ω n) := by
  refine Ok.of (by decide +kernel) (Nat.le_of_ble_eq_true rfl) (fun r h => ?_)
  unfold F_X8_isEnded at h
  show GR Θ yX8_isEnded cX8_isEnded 1 (some .boolean) 1 (0, 0) 0 [(0, .ref l0)] [] ω n r
  refine g_aload_n dX8_isEnded_0 rfl 0 rfl ?_
  refine g_rI fl_X8_21 dX8_isEnded_1 h (fun x2 h => ?_)
  refine g_if_ne (tgt := 11) dX8_isEnded_4 (by decide) (fun c3 => ?_) (fun c3 => ?_)
  · rw [if_neg c3] at h
    refine g_iconst (v := 0) dX8_isEnded_11 (by decide) ?_
    refine G.lsub [] rfl ?_
    exact ok_J_X8_isEnded_12 Θ 0 _ _ r h
  · rw [if_pos c3] at h
    refine g_iconst (v := 1) dX8_isEnded_7 (by decide) ?_
    refine g_goto (tgt := 12) dX8_isEnded_8 (by decide) ?_
    refine G.lsub [] rfl ?_
    exact ok_J_X8_isEnded_12 Θ 1 _ _ r h
def F_X8_open (Θ : GP) (l0 : Nat) (ω : OW) (n : Nat) : RO := wF ω l0 8 2 (.int 0) (fun ω => cO ω l0 8 (kV (F_X8_advance Θ l0 ω n) (fun ω n => some (.inl (none, ω, n)))))
theorem ok_X8_open (Θ : GP) (l0 : Nat) (ω : OW) (n : Nat) : Ok Θ 2 0 0 yX8_open cX8_open 1 (none : Option Jvm.ClassFile.FieldType) [.ref l0] ω n (F_X8_open Θ l0 ω n) := by
  refine Ok.of (by decide +kernel) (Nat.le_of_ble_eq_true rfl) (fun r h => ?_)
  unfold F_X8_open at h
  show GR Θ yX8_open cX8_open 1 (none : Option Jvm.ClassFile.FieldType) 2 (0, 0) 0 [(0, .ref l0)] [] ω n r
  refine g_aload_n dX8_open_0 rfl 0 rfl ?_
  refine g_iconst (v := 0) dX8_open_1 (by decide) ?_
  refine g_wF fl_X8_18 dX8_open_2 (rfl) rfl h (fun ω h => ?_)
  refine g_aload_n dX8_open_5 rfl 0 rfl ?_
  refine g_cV (ci := 8) (As := []) mv_X8_36 dX8_open_6 rfl (ok_X8_advance Θ l0 _ _) rfl rfl (Nat.le_of_ble_eq_true rfl) (by decide) (by decide) (by decide) h (fun ω n h => ?_)
  refine G.less (B' := (0, 0)) (by decide) (by decide) ?_
  cases h
  exact g_vret rfl dX8_open_9 rfl
def J_X8_isSign_26 (Θ : GP) (s0 : Int32) (ω : OW) (n : Nat) : RO := bz s0 (some (.inl (some (.int s0), ω, n)))
def J_X8_isSign_25 (Θ : GP) (ω : OW) (n : Nat) : RO := J_X8_isSign_26 Θ 0 ω n
def F_X8_isSign (Θ : GP) (l0 : Nat) (l1 : Int32) (ω : OW) (n : Nat) : RO := rI ω l0 8 3 (fun x2 => if x2 = 3 then (rA ω l0 8 5 (fun a4 => rI ω l0 8 1 (fun x5 => lI ω (gI Θ) a4 x5 (fun x6 => if x6 = l1 then (J_X8_isSign_26 Θ 1 ω n) else (J_X8_isSign_25 Θ ω n))))) else (J_X8_isSign_25 Θ ω n))
theorem ok_J_X8_isSign_26 (Θ : GP) (s0 : Int32) (ω : OW) (n : Nat) (r : Out) (h : J_X8_isSign_26 Θ s0 ω n = some r) : GR Θ yX8_isSign cX8_isSign 2 (some .boolean) 1 (0, 0) 26 [] [.int s0] ω n r := by
  unfold J_X8_isSign_26 at h
  obtain ⟨z1, h⟩ := bz_inv h
  cases h
  exact g_zret rfl z1 dX8_isSign_26 rfl
theorem ok_J_X8_isSign_25 (Θ : GP) (ω : OW) (n : Nat) (r : Out) (h : J_X8_isSign_25 Θ ω n = some r) : GR Θ yX8_isSign cX8_isSign 2 (some .boolean) 1 (0, 0) 25 [] [] ω n r := by
  unfold J_X8_isSign_25 at h
  refine g_iconst (v := 0) dX8_isSign_25 (by decide) ?_
  exact ok_J_X8_isSign_26 Θ 0 _ _ r h
theorem ok_X8_isSign (Θ : GP) (l0 : Nat) (l1 : Int32) (ω : OW) (n : Nat) : Ok Θ 1 0 0 yX8_isSign cX8_isSign 2 (some .boolean) [.ref l0, .int l1] ω n (F_X8_isSign Θ l0 l1 ω n) := by
  refine Ok.of (by decide +kernel) (Nat.le_of_ble_eq_true rfl) (fun r h => ?_)
  unfold F_X8_isSign at h
  show GR Θ yX8_isSign cX8_isSign 2 (some .boolean) 1 (0, 0) 0 [(0, .ref l0), (1, .int l1)] [] ω n r
  refine g_aload_n dX8_isSign_0 rfl 0 rfl ?_
  refine g_rI fl_X8_21 dX8_isSign_1 h (fun x2 h => ?_)
  refine g_iconst (v := 3) dX8_isSign_4 (by decide) ?_
  refine g_icmp_ne (tgt := 25) dX8_isSign_5 (by decide) (fun c3 => ?_) (fun c3 => ?_)
  · rw [if_neg c3] at h
    refine G.lsub [] rfl ?_
    exact ok_J_X8_isSign_25 Θ _ _ r h
  · rw [if_pos c3] at h
    refine g_aload_n dX8_isSign_8 rfl 0 rfl ?_
    refine g_rA fl_X8_28 dX8_isSign_9 h (fun a4 h => ?_)
    refine g_aload_n dX8_isSign_12 rfl 0 rfl ?_
    refine g_rI fl_X8_15 dX8_isSign_13 h (fun x5 h => ?_)
    refine g_lIi dX8_isSign_16 h (fun x6 h => ?_)
    refine g_iload_n dX8_isSign_17 rfl 1 rfl ?_
    refine g_icmp_ne (tgt := 25) dX8_isSign_18 (by decide) (fun c7 => ?_) (fun c7 => ?_)
    · rw [if_neg c7] at h
      refine G.lsub [] rfl ?_
      exact ok_J_X8_isSign_25 Θ _ _ r h
    · rw [if_pos c7] at h
      refine g_iconst (v := 1) dX8_isSign_21 (by decide) ?_
      refine g_goto (tgt := 26) dX8_isSign_22 (by decide) ?_
      refine G.lsub [] rfl ?_
      exact ok_J_X8_isSign_26 Θ 1 _ _ r h
def J_X8_takeSign_14 (Θ : GP) (l2 : Int32) (ω : OW) (n : Nat) : RO := bz l2 (some (.inl (some (.int l2), ω, n)))
def F_X8_takeSign (Θ : GP) (l0 : Nat) (l1 : Int32) (ω : OW) (n : Nat) : RO := cO ω l0 8 (kI (F_X8_isSign Θ l0 l1 ω n) (fun x2 ω n => if x2 = 0 then (J_X8_takeSign_14 Θ x2 ω n) else (cO ω l0 8 (kV (F_X8_advance Θ l0 ω n) (fun ω n => J_X8_takeSign_14 Θ x2 ω n)))))
theorem ok_J_X8_takeSign_14 (Θ : GP) (l2 : Int32) (ω : OW) (n : Nat) (r : Out) (h : J_X8_takeSign_14 Θ l2 ω n = some r) : GR Θ yX8_takeSign cX8_takeSign 3 (some .boolean) 2 (0, 0) 14 [(2, .int l2)] [] ω n r := by
  unfold J_X8_takeSign_14 at h
  refine g_iload_n dX8_takeSign_14 rfl 0 rfl ?_
  obtain ⟨z1, h⟩ := bz_inv h
  cases h
  exact g_zret rfl z1 dX8_takeSign_15 rfl
theorem ok_X8_takeSign (Θ : GP) (l0 : Nat) (l1 : Int32) (ω : OW) (n : Nat) : Ok Θ 2 0 0 yX8_takeSign cX8_takeSign 3 (some .boolean) [.ref l0, .int l1] ω n (F_X8_takeSign Θ l0 l1 ω n) := by
  refine Ok.of (by decide +kernel) (Nat.le_of_ble_eq_true rfl) (fun r h => ?_)
  unfold F_X8_takeSign at h
  show GR Θ yX8_takeSign cX8_takeSign 3 (some .boolean) 2 (0, 0) 0 [(0, .ref l0), (1, .int l1)] [] ω n r
  refine g_aload_n dX8_takeSign_0 rfl 0 rfl ?_
  refine g_iload_n dX8_takeSign_1 rfl 1 rfl ?_
  refine g_cI (ci := 8) (As := [.int l1]) mv_X8_43 dX8_takeSign_2 rfl (ok_X8_isSign Θ l0 l1 _ _) rfl rfl (Nat.le_of_ble_eq_true rfl) (by decide) (by decide) (by decide) h (fun x2 ω n h => ?_)
  refine G.less (B' := (0, 0)) (by decide) (by decide) ?_
  refine g_istore_n (lv' := [(2, .int x2), (0, .ref l0), (1, .int l1)]) dX8_takeSign_5 rfl (by decide) rfl ?_
  refine g_iload_n dX8_takeSign_6 rfl 0 rfl ?_
  refine g_if_eq (tgt := 14) dX8_takeSign_7 (by decide) (fun c3 => ?_) (fun c3 => ?_)
  · rw [if_pos c3] at h
    refine G.lsub [0] rfl ?_
    exact ok_J_X8_takeSign_14 Θ x2 _ _ r h
  · rw [if_neg c3] at h
    refine g_aload_n dX8_takeSign_10 rfl 1 rfl ?_
    refine g_cV (ci := 8) (As := []) mv_X8_36 dX8_takeSign_11 rfl (ok_X8_advance Θ l0 _ _) rfl rfl (Nat.le_of_ble_eq_true rfl) (by decide) (by decide) (by decide) h (fun ω n h => ?_)
    refine G.less (B' := (0, 0)) (by decide) (by decide) ?_
    refine G.lsub [0] rfl ?_
    exact ok_J_X8_takeSign_14 Θ x2 _ _ r h
def B_X1_read_21 (Θ : GP) (k_21 : Nat → Int32 → OW → Nat → RO) (l0 : Nat) (l1 : Int32) (ω : OW) (n : Nat) : RO := if 14 ≤ l1 then (some (.inl (some (.int 0), ω, n))) else (cO ω l0 1 (kI (F_X1_readLine Θ l0 ω n) (fun x2 ω n => if x2 = 0 then (some (.inl (some (.int 0), ω, n))) else (rA ω l0 1 0 (fun a4 => cO ω a4 8 (kI (F_X8_isEnded Θ a4 ω n) (fun x5 ω n => if x5 = 0 then (rA ω l0 1 0 (fun a7 => cO ω a7 8 (kI (F_X8_takeSign Θ a7 59 ω n) (fun x8 ω n => if x8 = 0 then (some (.inl (some (.int 0), ω, n))) else (k_21 l0 (l1 + 1) ω n))))) else (some (.inl (some (.int 1), ω, n))))))))))
def L_X1_read_21 (Θ : GP) : Nat → Nat → Int32 → OW → Nat → RO
  | 0, _, _, _, _ => none
  | f + 1, l0, l1, ω, n => B_X1_read_21 Θ (L_X1_read_21 Θ f) l0 l1 ω n
def F_X1_read (Θ : GP) (l0 : Nat) (ω : OW) (n : Nat) : RO := rA ω l0 1 0 (fun a10 => cO ω a10 8 (kV (F_X8_open Θ a10 ω n) (fun ω n => rA ω l0 1 0 (fun a12 => cO ω a12 8 (kI (F_X8_isEnded Θ a12 ω n) (fun x13 ω n => if x13 = 0 then (L_X1_read_21 Θ 5000 l0 0 ω n) else (some (.inl (some (.int 1), ω, n)))))))))
theorem ok_B_X1_read_21 (Θ : GP) (k_21 : Nat → Int32 → OW → Nat → RO) (hk_21 : ∀ l0 l1 ω n r, k_21 l0 l1 ω n = some r → GR Θ yX1_read cX1_read 2 (some .boolean) 5 (0, 0) 21 [(0, .ref l0), (1, .int l1)] [] ω n r) (l0 : Nat) (l1 : Int32) (ω : OW) (n : Nat) (r : Out) (h : B_X1_read_21 Θ k_21 l0 l1 ω n = some r) : GR Θ yX1_read cX1_read 2 (some .boolean) 5 (0, 0) 21 [(0, .ref l0), (1, .int l1)] [] ω n r := by
  unfold B_X1_read_21 at h
  refine g_iload_n dX1_read_21 rfl 1 rfl ?_
  refine g_bipush (v := 14) dX1_read_22 (by decide) ?_
  refine g_icmp_ge (tgt := 68) dX1_read_24 (by decide) (fun c1 => ?_) (fun c1 => ?_)
  · rw [if_pos c1] at h
    refine g_iconst (v := 0) dX1_read_68 (by decide) ?_
    cases h
    exact g_zret rfl rfl dX1_read_69 rfl
  · rw [if_neg c1] at h
    refine g_aload_n dX1_read_27 rfl 0 rfl ?_
    refine g_cI (ci := 1) (As := []) mv_X1_28 dX1_read_28 rfl (ok_X1_readLine Θ l0 _ _) rfl rfl (Nat.le_of_ble_eq_true rfl) (by decide) (by decide) (by decide) h (fun x2 ω n h => ?_)
    refine G.less (B' := (0, 0)) (by decide) (by decide) ?_
    refine g_if_ne (tgt := 36) dX1_read_31 (by decide) (fun c3 => ?_) (fun c3 => ?_)
    · rw [if_neg c3] at h
      refine g_aload_n dX1_read_36 rfl 0 rfl ?_
      refine g_rA fl_X1_9 dX1_read_37 h (fun a4 h => ?_)
      refine g_cI (ci := 8) (As := []) mv_X1_24 dX1_read_40 rfl (ok_X8_isEnded Θ a4 _ _) rfl rfl (Nat.le_of_ble_eq_true rfl) (by decide) (by decide) (by decide) h (fun x5 ω n h => ?_)
      refine G.less (B' := (0, 0)) (by decide) (by decide) ?_
      refine g_if_eq (tgt := 48) dX1_read_43 (by decide) (fun c6 => ?_) (fun c6 => ?_)
      · rw [if_pos c6] at h
        refine g_aload_n dX1_read_48 rfl 0 rfl ?_
        refine g_rA fl_X1_9 dX1_read_49 h (fun a7 h => ?_)
        refine g_bipush (v := 59) dX1_read_52 (by decide) ?_
        refine g_cI (ci := 8) (As := [.int 59]) mv_X1_31 dX1_read_54 rfl (ok_X8_takeSign Θ a7 59 _ _) rfl rfl (Nat.le_of_ble_eq_true rfl) (by decide) (by decide) (by decide) h (fun x8 ω n h => ?_)
        refine G.less (B' := (0, 0)) (by decide) (by decide) ?_
        refine g_if_ne (tgt := 62) dX1_read_57 (by decide) (fun c9 => ?_) (fun c9 => ?_)
        · rw [if_neg c9] at h
          refine g_iinc (j := 1) (v := l1 + 1) (lv' := [(1, .int (l1 + 1)), (0, .ref l0)]) dX1_read_62 rfl rfl (by decide) rfl ?_
          refine g_goto (tgt := 21) dX1_read_65 (by decide) ?_
          refine G.lsub [1, 0] rfl ?_
          exact hk_21 l0 (l1 + 1) _ _ r h
        · rw [if_pos c9] at h
          refine g_iconst (v := 0) dX1_read_60 (by decide) ?_
          cases h
          exact g_zret rfl rfl dX1_read_61 rfl
      · rw [if_neg c6] at h
        refine g_iconst (v := 1) dX1_read_46 (by decide) ?_
        cases h
        exact g_zret rfl rfl dX1_read_47 rfl
    · rw [if_pos c3] at h
      refine g_iconst (v := 0) dX1_read_34 (by decide) ?_
      cases h
      exact g_zret rfl rfl dX1_read_35 rfl
theorem ok_L_X1_read_21 (Θ : GP) : ∀ (f : Nat) (l0 : Nat) (l1 : Int32) (ω : OW) (n : Nat) (r : Out), L_X1_read_21 Θ f l0 l1 ω n = some r → GR Θ yX1_read cX1_read 2 (some .boolean) 5 (0, 0) 21 [(0, .ref l0), (1, .int l1)] [] ω n r := by
  intro f
  induction f with
  | zero =>
    intro l0 l1 ω n r h
    unfold L_X1_read_21 at h
    cases h
  | succ f ih =>
    intro l0 l1 ω n r h
    unfold L_X1_read_21 at h
    exact ok_B_X1_read_21 Θ (L_X1_read_21 Θ f) ih l0 l1 ω n r h
theorem ok_X1_read (Θ : GP) (l0 : Nat) (ω : OW) (n : Nat) : Ok Θ 5 0 0 yX1_read cX1_read 2 (some .boolean) [.ref l0] ω n (F_X1_read Θ l0 ω n) := by
  refine Ok.of (by decide +kernel) (Nat.le_of_ble_eq_true rfl) (fun r h => ?_)
  unfold F_X1_read at h
  show GR Θ yX1_read cX1_read 2 (some .boolean) 5 (0, 0) 0 [(0, .ref l0)] [] ω n r
  refine g_aload_n dX1_read_0 rfl 0 rfl ?_
  refine g_rA fl_X1_9 dX1_read_1 h (fun a10 h => ?_)
  refine g_cV (ci := 8) (As := []) mv_X1_19 dX1_read_4 rfl (ok_X8_open Θ a10 _ _) rfl rfl (Nat.le_of_ble_eq_true rfl) (by decide) (by decide) (by decide) h (fun ω n h => ?_)
  refine G.less (B' := (0, 0)) (by decide) (by decide) ?_
  refine g_aload_n dX1_read_7 rfl 0 rfl ?_
  refine g_rA fl_X1_9 dX1_read_8 h (fun a12 h => ?_)
  refine g_cI (ci := 8) (As := []) mv_X1_24 dX1_read_11 rfl (ok_X8_isEnded Θ a12 _ _) rfl rfl (Nat.le_of_ble_eq_true rfl) (by decide) (by decide) (by decide) h (fun x13 ω n h => ?_)
  refine G.less (B' := (0, 0)) (by decide) (by decide) ?_
  refine g_if_eq (tgt := 19) dX1_read_14 (by decide) (fun c14 => ?_) (fun c14 => ?_)
  · rw [if_pos c14] at h
    refine g_iconst (v := 0) dX1_read_19 (by decide) ?_
    refine g_istore_n (lv' := [(1, .int 0), (0, .ref l0)]) dX1_read_20 rfl (by decide) rfl ?_
    refine G.lsub [1, 0] rfl ?_
    exact ok_L_X1_read_21 Θ 5000 l0 0 _ _ r h
  · rw [if_neg c14] at h
    refine g_iconst (v := 1) dX1_read_17 (by decide) ?_
    cases h
    exact g_zret rfl rfl dX1_read_18 rfl
def J_X2_holds_259 (Θ : GP) (s0 : Int32) (ω : OW) (n : Nat) : RO := bz s0 (some (.inl (some (.int s0), ω, n)))
def J_X2_holds_243 (Θ : GP) (k_20 : Nat → Nat → Int32 → Int32 → Int32 → OW → Nat → RO) (l0 : Nat) (l2 : Nat) (l3 : Int32) (l4 : Int32) (l5 : Int32) (ω : OW) (n : Nat) : RO := k_20 l0 l2 l3 l4 l5 ω n
def J_X2_holds_240 (Θ : GP) (k_20 : Nat → Nat → Int32 → Int32 → Int32 → OW → Nat → RO) (l0 : Nat) (l2 : Nat) (l3 : Int32) (l5 : Int32) (s0 : Int32) (s1 : Int32) (ω : OW) (n : Nat) : RO := J_X2_holds_243 Θ k_20 l0 l2 l3 (s1 ||| s0) l5 ω n
def J_X2_holds_224 (Θ : GP) (k_20 : Nat → Nat → Int32 → Int32 → Int32 → OW → Nat → RO) (l0 : Nat) (l2 : Nat) (l3 : Int32) (l4 : Int32) (l5 : Int32) (s0 : Int32) (ω : OW) (n : Nat) : RO := if s0 = 0 then (J_X2_holds_240 Θ k_20 l0 l2 l3 l5 0 (l4 <<< ((1 : Int32) &&& 31)) ω n) else (J_X2_holds_240 Θ k_20 l0 l2 l3 l5 1 (l4 <<< ((1 : Int32) &&& 31)) ω n)
def J_X2_holds_186 (Θ : GP) (k_20 : Nat → Nat → Int32 → Int32 → Int32 → OW → Nat → RO) (k_149 : Nat → Nat → Int32 → Int32 → Int32 → Int32 → Int32 → Int32 → OW → Nat → RO) (l0 : Nat) (l2 : Nat) (l3 : Int32) (l4 : Int32) (l5 : Int32) (l6 : Int32) (l8 : Int32) (s0 : Int32) (s1 : Int32) (ω : OW) (n : Nat) : RO := k_149 l0 l2 l3 l4 (l5 + 1) l6 (s1 + s0) l8 ω n
def B_X2_holds_149 (Θ : GP) (k_20 : Nat → Nat → Int32 → Int32 → Int32 → OW → Nat → RO) (k_149 : Nat → Nat → Int32 → Int32 → Int32 → Int32 → Int32 → Int32 → OW → Nat → RO) (l0 : Nat) (l2 : Nat) (l3 : Int32) (l4 : Int32) (l5 : Int32) (l6 : Int32) (l7 : Int32) (l8 : Int32) (ω : OW) (n : Nat) : RO := if l8 < l5 then (if l6 = 4 then (if 0 ≤ l7 then (J_X2_holds_224 Θ k_20 l0 l2 l3 l4 l5 0 ω n) else (J_X2_holds_224 Θ k_20 l0 l2 l3 l4 l5 1 ω n)) else (if l7 ≤ 0 then (J_X2_holds_224 Θ k_20 l0 l2 l3 l4 l5 0 ω n) else (J_X2_holds_224 Θ k_20 l0 l2 l3 l4 l5 1 ω n))) else (rA ω l0 2 5 (fun a7 => lI ω (gI Θ) a7 l5 (fun x8 => if x8 < 0 then (lI ω (gI Θ) l2 (x8 ^^^ (-1)) (fun x10 => J_X2_holds_186 Θ k_20 k_149 l0 l2 l3 l4 l5 l6 l8 (-x10) l7 ω n)) else (lI ω (gI Θ) l2 x8 (fun x11 => J_X2_holds_186 Θ k_20 k_149 l0 l2 l3 l4 l5 l6 l8 x11 l7 ω n)))))
def L_X2_holds_149 (Θ : GP) (k_20 : Nat → Nat → Int32 → Int32 → Int32 → OW → Nat → RO) : Nat → Nat → Nat → Int32 → Int32 → Int32 → Int32 → Int32 → Int32 → OW → Nat → RO
  | 0, _, _, _, _, _, _, _, _, _, _ => none
  | f + 1, l0, l2, l3, l4, l5, l6, l7, l8, ω, n => B_X2_holds_149 Θ k_20 (L_X2_holds_149 Θ k_20 f) l0 l2 l3 l4 l5 l6 l7 l8 ω n
def B_X2_holds_20 (Θ : GP) (k_20 : Nat → Nat → Int32 → Int32 → Int32 → OW → Nat → RO) (l0 : Nat) (l2 : Nat) (l3 : Int32) (l4 : Int32) (l5 : Int32) (ω : OW) (n : Nat) : RO := if l3 ≤ l5 then (if (l4 &&& 1) = 1 then (J_X2_holds_259 Θ 1 ω n) else (J_X2_holds_259 Θ 0 ω n)) else (rA ω l0 2 5 (fun a14 => lI ω (gI Θ) a14 l5 (fun x15 => if x15 = 0 then (J_X2_holds_243 Θ k_20 l0 l2 l3 (l4 ^^^ 1) (l5 + 1) ω n) else (if x15 = 1 then (J_X2_holds_243 Θ k_20 l0 l2 l3 ((l4 >>> ((1 : Int32) &&& 31)) &&& (l4 ||| (-2))) (l5 + 1) ω n) else (if x15 = 2 then (J_X2_holds_243 Θ k_20 l0 l2 l3 ((l4 >>> ((1 : Int32) &&& 31)) ||| (l4 &&& 1)) (l5 + 1) ω n) else (if x15 = 3 then (rA ω l0 2 5 (fun a24 => lI ω (gI Θ) a24 (l5 + 1) (fun x25 => lI ω (gI Θ) l2 x25 (fun x26 => J_X2_holds_243 Θ k_20 l0 l2 l3 ((l4 <<< ((1 : Int32) &&& 31)) ||| x26) ((l5 + 1) + 1) ω n)))) else (rA ω l0 2 5 (fun a20 => lI ω (gI Θ) a20 (l5 + 1) (fun x21 => rA ω l0 2 5 (fun a22 => lI ω (gI Θ) a22 ((l5 + 1) + 1) (fun x23 => L_X2_holds_149 Θ k_20 5000 l0 l2 l3 l4 ((l5 + 1) + 2) x15 x21 (((l5 + 1) + 1) + x23) ω n)))))))))))
def L_X2_holds_20 (Θ : GP) : Nat → Nat → Nat → Int32 → Int32 → Int32 → OW → Nat → RO
  | 0, _, _, _, _, _, _, _ => none
  | f + 1, l0, l2, l3, l4, l5, ω, n => B_X2_holds_20 Θ (L_X2_holds_20 Θ f) l0 l2 l3 l4 l5 ω n
def F_X2_holds (Θ : GP) (l0 : Nat) (l1 : Int32) (l2 : Nat) (ω : OW) (n : Nat) : RO := rA ω l0 2 4 (fun a27 => lI ω (gI Θ) a27 (l1 + 1) (fun x28 => rA ω l0 2 4 (fun a29 => lI ω (gI Θ) a29 l1 (fun x30 => L_X2_holds_20 Θ 5000 l0 l2 x28 1 x30 ω n))))
theorem ok_J_X2_holds_259 (Θ : GP) (s0 : Int32) (ω : OW) (n : Nat) (r : Out) (h : J_X2_holds_259 Θ s0 ω n = some r) : GR Θ yX2_holds cX2_holds 10 (some .boolean) 1 (0, 0) 259 [] [.int s0] ω n r := by
  unfold J_X2_holds_259 at h
  obtain ⟨z1, h⟩ := bz_inv h
  cases h
  exact g_zret rfl z1 dX2_holds_259 rfl
theorem ok_J_X2_holds_243 (Θ : GP) (k_20 : Nat → Nat → Int32 → Int32 → Int32 → OW → Nat → RO) (hk_20 : ∀ l0 l2 l3 l4 l5 ω n r, k_20 l0 l2 l3 l4 l5 ω n = some r → GR Θ yX2_holds cX2_holds 10 (some .boolean) 1 (0, 0) 20 [(0, .ref l0), (2, .ref l2), (3, .int l3), (4, .int l4), (5, .int l5)] [] ω n r) (l0 : Nat) (l2 : Nat) (l3 : Int32) (l4 : Int32) (l5 : Int32) (ω : OW) (n : Nat) (r : Out) (h : J_X2_holds_243 Θ k_20 l0 l2 l3 l4 l5 ω n = some r) : GR Θ yX2_holds cX2_holds 10 (some .boolean) 1 (0, 0) 243 [(0, .ref l0), (2, .ref l2), (3, .int l3), (4, .int l4), (5, .int l5)] [] ω n r := by
  unfold J_X2_holds_243 at h
  refine g_goto (tgt := 20) dX2_holds_243 (by decide) ?_
  exact hk_20 l0 l2 l3 l4 l5 _ _ r h
theorem ok_J_X2_holds_240 (Θ : GP) (k_20 : Nat → Nat → Int32 → Int32 → Int32 → OW → Nat → RO) (hk_20 : ∀ l0 l2 l3 l4 l5 ω n r, k_20 l0 l2 l3 l4 l5 ω n = some r → GR Θ yX2_holds cX2_holds 10 (some .boolean) 1 (0, 0) 20 [(0, .ref l0), (2, .ref l2), (3, .int l3), (4, .int l4), (5, .int l5)] [] ω n r) (l0 : Nat) (l2 : Nat) (l3 : Int32) (l5 : Int32) (s0 : Int32) (s1 : Int32) (ω : OW) (n : Nat) (r : Out) (h : J_X2_holds_240 Θ k_20 l0 l2 l3 l5 s0 s1 ω n = some r) : GR Θ yX2_holds cX2_holds 10 (some .boolean) 1 (0, 0) 240 [(0, .ref l0), (2, .ref l2), (3, .int l3), (5, .int l5)] [.int s0, .int s1] ω n r := by
  unfold J_X2_holds_240 at h
  refine g_ior dX2_holds_240 ?_
  refine g_istore (lv' := [(4, .int (s1 ||| s0)), (0, .ref l0), (2, .ref l2), (3, .int l3), (5, .int l5)]) dX2_holds_241 (by decide) rfl ?_
  refine G.lsub [1, 2, 3, 0, 4] rfl ?_
  exact ok_J_X2_holds_243 Θ k_20 hk_20 l0 l2 l3 (s1 ||| s0) l5 _ _ r h
theorem ok_J_X2_holds_224 (Θ : GP) (k_20 : Nat → Nat → Int32 → Int32 → Int32 → OW → Nat → RO) (hk_20 : ∀ l0 l2 l3 l4 l5 ω n r, k_20 l0 l2 l3 l4 l5 ω n = some r → GR Θ yX2_holds cX2_holds 10 (some .boolean) 1 (0, 0) 20 [(0, .ref l0), (2, .ref l2), (3, .int l3), (4, .int l4), (5, .int l5)] [] ω n r) (l0 : Nat) (l2 : Nat) (l3 : Int32) (l4 : Int32) (l5 : Int32) (s0 : Int32) (ω : OW) (n : Nat) (r : Out) (h : J_X2_holds_224 Θ k_20 l0 l2 l3 l4 l5 s0 ω n = some r) : GR Θ yX2_holds cX2_holds 10 (some .boolean) 1 (0, 0) 224 [(0, .ref l0), (2, .ref l2), (3, .int l3), (4, .int l4), (5, .int l5)] [.int s0] ω n r := by
  unfold J_X2_holds_224 at h
  refine g_istore (lv' := [(9, .int s0), (0, .ref l0), (2, .ref l2), (3, .int l3), (4, .int l4), (5, .int l5)]) dX2_holds_224 (by decide) rfl ?_
  refine g_iload dX2_holds_226 4 rfl ?_
  refine g_iconst (v := 1) dX2_holds_228 (by decide) ?_
  refine g_ishl dX2_holds_229 ?_
  refine g_iload dX2_holds_230 0 rfl ?_
  refine g_if_eq (tgt := 239) dX2_holds_232 (by decide) (fun c2 => ?_) (fun c2 => ?_)
  · rw [if_pos c2] at h
    refine g_iconst (v := 0) dX2_holds_239 (by decide) ?_
    refine G.lsub [1, 2, 3, 5] rfl ?_
    exact ok_J_X2_holds_240 Θ k_20 hk_20 l0 l2 l3 l5 0 (l4 <<< ((1 : Int32) &&& 31)) _ _ r h
  · rw [if_neg c2] at h
    refine g_iconst (v := 1) dX2_holds_235 (by decide) ?_
    refine g_goto (tgt := 240) dX2_holds_236 (by decide) ?_
    refine G.lsub [1, 2, 3, 5] rfl ?_
    exact ok_J_X2_holds_240 Θ k_20 hk_20 l0 l2 l3 l5 1 (l4 <<< ((1 : Int32) &&& 31)) _ _ r h
theorem ok_J_X2_holds_186 (Θ : GP) (k_20 : Nat → Nat → Int32 → Int32 → Int32 → OW → Nat → RO) (k_149 : Nat → Nat → Int32 → Int32 → Int32 → Int32 → Int32 → Int32 → OW → Nat → RO) (hk_20 : ∀ l0 l2 l3 l4 l5 ω n r, k_20 l0 l2 l3 l4 l5 ω n = some r → GR Θ yX2_holds cX2_holds 10 (some .boolean) 1 (0, 0) 20 [(0, .ref l0), (2, .ref l2), (3, .int l3), (4, .int l4), (5, .int l5)] [] ω n r) (hk_149 : ∀ l0 l2 l3 l4 l5 l6 l7 l8 ω n r, k_149 l0 l2 l3 l4 l5 l6 l7 l8 ω n = some r → GR Θ yX2_holds cX2_holds 10 (some .boolean) 1 (0, 0) 149 [(0, .ref l0), (2, .ref l2), (3, .int l3), (4, .int l4), (5, .int l5), (6, .int l6), (7, .int l7), (8, .int l8)] [] ω n r) (l0 : Nat) (l2 : Nat) (l3 : Int32) (l4 : Int32) (l5 : Int32) (l6 : Int32) (l8 : Int32) (s0 : Int32) (s1 : Int32) (ω : OW) (n : Nat) (r : Out) (h : J_X2_holds_186 Θ k_20 k_149 l0 l2 l3 l4 l5 l6 l8 s0 s1 ω n = some r) : GR Θ yX2_holds cX2_holds 10 (some .boolean) 1 (0, 0) 186 [(0, .ref l0), (2, .ref l2), (3, .int l3), (4, .int l4), (5, .int l5), (6, .int l6), (8, .int l8)] [.int s0, .int s1] ω n r := by
  unfold J_X2_holds_186 at h
  refine g_iadd dX2_holds_186 ?_
  refine g_istore (lv' := [(7, .int (s1 + s0)), (0, .ref l0), (2, .ref l2), (3, .int l3), (4, .int l4), (5, .int l5), (6, .int l6), (8, .int l8)]) dX2_holds_187 (by decide) rfl ?_
  refine g_iinc (j := 5) (v := l5 + 1) (lv' := [(5, .int (l5 + 1)), (7, .int (s1 + s0)), (0, .ref l0), (2, .ref l2), (3, .int l3), (4, .int l4), (6, .int l6), (8, .int l8)]) dX2_holds_189 rfl rfl (by decide) rfl ?_
  refine g_goto (tgt := 149) dX2_holds_192 (by decide) ?_
  refine G.lsub [2, 3, 4, 5, 0, 6, 1, 7] rfl ?_
  exact hk_149 l0 l2 l3 l4 (l5 + 1) l6 (s1 + s0) l8 _ _ r h
theorem ok_B_X2_holds_149 (Θ : GP) (k_20 : Nat → Nat → Int32 → Int32 → Int32 → OW → Nat → RO) (k_149 : Nat → Nat → Int32 → Int32 → Int32 → Int32 → Int32 → Int32 → OW → Nat → RO) (hk_20 : ∀ l0 l2 l3 l4 l5 ω n r, k_20 l0 l2 l3 l4 l5 ω n = some r → GR Θ yX2_holds cX2_holds 10 (some .boolean) 1 (0, 0) 20 [(0, .ref l0), (2, .ref l2), (3, .int l3), (4, .int l4), (5, .int l5)] [] ω n r) (hk_149 : ∀ l0 l2 l3 l4 l5 l6 l7 l8 ω n r, k_149 l0 l2 l3 l4 l5 l6 l7 l8 ω n = some r → GR Θ yX2_holds cX2_holds 10 (some .boolean) 1 (0, 0) 149 [(0, .ref l0), (2, .ref l2), (3, .int l3), (4, .int l4), (5, .int l5), (6, .int l6), (7, .int l7), (8, .int l8)] [] ω n r) (l0 : Nat) (l2 : Nat) (l3 : Int32) (l4 : Int32) (l5 : Int32) (l6 : Int32) (l7 : Int32) (l8 : Int32) (ω : OW) (n : Nat) (r : Out) (h : B_X2_holds_149 Θ k_20 k_149 l0 l2 l3 l4 l5 l6 l7 l8 ω n = some r) : GR Θ yX2_holds cX2_holds 10 (some .boolean) 1 (0, 0) 149 [(0, .ref l0), (2, .ref l2), (3, .int l3), (4, .int l4), (5, .int l5), (6, .int l6), (7, .int l7), (8, .int l8)] [] ω n r := by
  unfold B_X2_holds_149 at h
  refine g_iload dX2_holds_149 4 rfl ?_
  refine g_iload dX2_holds_151 7 rfl ?_
  refine g_icmp_gt (tgt := 195) dX2_holds_153 (by decide) (fun c3 => ?_) (fun c3 => ?_)
  · rw [if_pos c3] at h
    refine g_iload dX2_holds_195 5 rfl ?_
    refine g_iconst (v := 4) dX2_holds_197 (by decide) ?_
    refine g_icmp_ne (tgt := 214) dX2_holds_198 (by decide) (fun c4 => ?_) (fun c4 => ?_)
    · rw [if_neg c4] at h
      refine g_iload dX2_holds_214 6 rfl ?_
      refine g_if_le (tgt := 223) dX2_holds_216 (by decide) (fun c5 => ?_) (fun c5 => ?_)
      · rw [if_pos c5] at h
        refine g_iconst (v := 0) dX2_holds_223 (by decide) ?_
        refine G.lsub [0, 1, 2, 3, 4] rfl ?_
        exact ok_J_X2_holds_224 Θ k_20 hk_20 l0 l2 l3 l4 l5 0 _ _ r h
      · rw [if_neg c5] at h
        refine g_iconst (v := 1) dX2_holds_219 (by decide) ?_
        refine g_goto (tgt := 224) dX2_holds_220 (by decide) ?_
        refine G.lsub [0, 1, 2, 3, 4] rfl ?_
        exact ok_J_X2_holds_224 Θ k_20 hk_20 l0 l2 l3 l4 l5 1 _ _ r h
    · rw [if_pos c4] at h
      refine g_iload dX2_holds_201 6 rfl ?_
      refine g_if_ge (tgt := 210) dX2_holds_203 (by decide) (fun c6 => ?_) (fun c6 => ?_)
      · rw [if_pos c6] at h
        refine g_iconst (v := 0) dX2_holds_210 (by decide) ?_
        refine g_goto (tgt := 224) dX2_holds_211 (by decide) ?_
        refine G.lsub [0, 1, 2, 3, 4] rfl ?_
        exact ok_J_X2_holds_224 Θ k_20 hk_20 l0 l2 l3 l4 l5 0 _ _ r h
      · rw [if_neg c6] at h
        refine g_iconst (v := 1) dX2_holds_206 (by decide) ?_
        refine g_goto (tgt := 224) dX2_holds_207 (by decide) ?_
        refine G.lsub [0, 1, 2, 3, 4] rfl ?_
        exact ok_J_X2_holds_224 Θ k_20 hk_20 l0 l2 l3 l4 l5 1 _ _ r h
  · rw [if_neg c3] at h
    refine g_aload_n dX2_holds_156 rfl 0 rfl ?_
    refine g_rA fl_X2_27 dX2_holds_157 h (fun a7 h => ?_)
    refine g_iload dX2_holds_160 4 rfl ?_
    refine g_lIi dX2_holds_162 h (fun x8 h => ?_)
    refine g_istore (lv' := [(9, .int x8), (0, .ref l0), (2, .ref l2), (3, .int l3), (4, .int l4), (5, .int l5), (6, .int l6), (7, .int l7), (8, .int l8)]) dX2_holds_163 (by decide) rfl ?_
    refine g_iload dX2_holds_165 7 rfl ?_
    refine g_iload dX2_holds_167 0 rfl ?_
    refine g_if_lt (tgt := 179) dX2_holds_169 (by decide) (fun c9 => ?_) (fun c9 => ?_)
    · rw [if_pos c9] at h
      refine g_aload_n dX2_holds_179 rfl 2 rfl ?_
      refine g_iload dX2_holds_180 0 rfl ?_
      refine g_iconst (v := (-1)) dX2_holds_182 (by decide) ?_
      refine g_ixor dX2_holds_183 ?_
      refine g_lIi dX2_holds_184 h (fun x10 h => ?_)
      refine g_ineg dX2_holds_185 ?_
      refine G.lsub [1, 2, 3, 4, 5, 6, 8] rfl ?_
      exact ok_J_X2_holds_186 Θ k_20 k_149 hk_20 hk_149 l0 l2 l3 l4 l5 l6 l8 (-x10) l7 _ _ r h
    · rw [if_neg c9] at h
      refine g_aload_n dX2_holds_172 rfl 2 rfl ?_
      refine g_iload dX2_holds_173 0 rfl ?_
      refine g_lIi dX2_holds_175 h (fun x11 h => ?_)
      refine g_goto (tgt := 186) dX2_holds_176 (by decide) ?_
      refine G.lsub [1, 2, 3, 4, 5, 6, 8] rfl ?_
      exact ok_J_X2_holds_186 Θ k_20 k_149 hk_20 hk_149 l0 l2 l3 l4 l5 l6 l8 x11 l7 _ _ r h
theorem ok_L_X2_holds_149 (Θ : GP) (k_20 : Nat → Nat → Int32 → Int32 → Int32 → OW → Nat → RO) (hk_20 : ∀ l0 l2 l3 l4 l5 ω n r, k_20 l0 l2 l3 l4 l5 ω n = some r → GR Θ yX2_holds cX2_holds 10 (some .boolean) 1 (0, 0) 20 [(0, .ref l0), (2, .ref l2), (3, .int l3), (4, .int l4), (5, .int l5)] [] ω n r) : ∀ (f : Nat) (l0 : Nat) (l2 : Nat) (l3 : Int32) (l4 : Int32) (l5 : Int32) (l6 : Int32) (l7 : Int32) (l8 : Int32) (ω : OW) (n : Nat) (r : Out), L_X2_holds_149 Θ k_20 f l0 l2 l3 l4 l5 l6 l7 l8 ω n = some r → GR Θ yX2_holds cX2_holds 10 (some .boolean) 1 (0, 0) 149 [(0, .ref l0), (2, .ref l2), (3, .int l3), (4, .int l4), (5, .int l5), (6, .int l6), (7, .int l7), (8, .int l8)] [] ω n r := by
  intro f
  induction f with
  | zero =>
    intro l0 l2 l3 l4 l5 l6 l7 l8 ω n r h
    unfold L_X2_holds_149 at h
    cases h
  | succ f ih =>
    intro l0 l2 l3 l4 l5 l6 l7 l8 ω n r h
    unfold L_X2_holds_149 at h
    exact ok_B_X2_holds_149 Θ k_20 (L_X2_holds_149 Θ k_20 f) hk_20 ih l0 l2 l3 l4 l5 l6 l7 l8 ω n r h
theorem ok_B_X2_holds_20 (Θ : GP) (k_20 : Nat → Nat → Int32 → Int32 → Int32 → OW → Nat → RO) (hk_20 : ∀ l0 l2 l3 l4 l5 ω n r, k_20 l0 l2 l3 l4 l5 ω n = some r → GR Θ yX2_holds cX2_holds 10 (some .boolean) 1 (0, 0) 20 [(0, .ref l0), (2, .ref l2), (3, .int l3), (4, .int l4), (5, .int l5)] [] ω n r) (l0 : Nat) (l2 : Nat) (l3 : Int32) (l4 : Int32) (l5 : Int32) (ω : OW) (n : Nat) (r : Out) (h : B_X2_holds_20 Θ k_20 l0 l2 l3 l4 l5 ω n = some r) : GR Θ yX2_holds cX2_holds 10 (some .boolean) 1 (0, 0) 20 [(0, .ref l0), (2, .ref l2), (3, .int l3), (4, .int l4), (5, .int l5)] [] ω n r := by
  unfold B_X2_holds_20 at h
  refine g_iload dX2_holds_20 4 rfl ?_
  refine g_iload_n dX2_holds_22 rfl 2 rfl ?_
  refine g_icmp_ge (tgt := 246) dX2_holds_23 (by decide) (fun c12 => ?_) (fun c12 => ?_)
  · rw [if_pos c12] at h
    refine g_iload dX2_holds_246 3 rfl ?_
    refine g_iconst (v := 1) dX2_holds_248 (by decide) ?_
    refine g_iand dX2_holds_249 ?_
    refine g_iconst (v := 1) dX2_holds_250 (by decide) ?_
    refine g_icmp_ne (tgt := 258) dX2_holds_251 (by decide) (fun c13 => ?_) (fun c13 => ?_)
    · rw [if_neg c13] at h
      refine g_iconst (v := 0) dX2_holds_258 (by decide) ?_
      refine G.lsub [] rfl ?_
      exact ok_J_X2_holds_259 Θ 0 _ _ r h
    · rw [if_pos c13] at h
      refine g_iconst (v := 1) dX2_holds_254 (by decide) ?_
      refine g_goto (tgt := 259) dX2_holds_255 (by decide) ?_
      refine G.lsub [] rfl ?_
      exact ok_J_X2_holds_259 Θ 1 _ _ r h
  · rw [if_neg c12] at h
    refine g_aload_n dX2_holds_26 rfl 0 rfl ?_
    refine g_rA fl_X2_27 dX2_holds_27 h (fun a14 h => ?_)
    refine g_iload dX2_holds_30 4 rfl ?_
    refine g_lIi dX2_holds_32 h (fun x15 h => ?_)
    refine g_istore (lv' := [(6, .int x15), (0, .ref l0), (2, .ref l2), (3, .int l3), (4, .int l4), (5, .int l5)]) dX2_holds_33 (by decide) rfl ?_
    refine g_iinc (j := 5) (v := l5 + 1) (lv' := [(5, .int (l5 + 1)), (6, .int x15), (0, .ref l0), (2, .ref l2), (3, .int l3), (4, .int l4)]) dX2_holds_35 rfl rfl (by decide) rfl ?_
    refine g_iload dX2_holds_38 1 rfl ?_
    refine g_if_ne (tgt := 52) dX2_holds_40 (by decide) (fun c16 => ?_) (fun c16 => ?_)
    · rw [if_neg c16] at h
      refine g_iload dX2_holds_52 1 rfl ?_
      refine g_iconst (v := 1) dX2_holds_54 (by decide) ?_
      refine g_icmp_ne (tgt := 73) dX2_holds_55 (by decide) (fun c17 => ?_) (fun c17 => ?_)
      · rw [if_neg c17] at h
        refine g_iload dX2_holds_73 1 rfl ?_
        refine g_iconst (v := 2) dX2_holds_75 (by decide) ?_
        refine g_icmp_ne (tgt := 93) dX2_holds_76 (by decide) (fun c18 => ?_) (fun c18 => ?_)
        · rw [if_neg c18] at h
          refine g_iload dX2_holds_93 1 rfl ?_
          refine g_iconst (v := 3) dX2_holds_95 (by decide) ?_
          refine g_icmp_ne (tgt := 121) dX2_holds_96 (by decide) (fun c19 => ?_) (fun c19 => ?_)
          · rw [if_neg c19] at h
            refine g_aload_n dX2_holds_121 rfl 2 rfl ?_
            refine g_rA fl_X2_27 dX2_holds_122 h (fun a20 h => ?_)
            refine g_iload dX2_holds_125 0 rfl ?_
            refine g_lIi dX2_holds_127 h (fun x21 h => ?_)
            refine g_istore (lv' := [(7, .int x21), (5, .int (l5 + 1)), (6, .int x15), (0, .ref l0), (2, .ref l2), (3, .int l3), (4, .int l4)]) dX2_holds_128 (by decide) rfl ?_
            refine g_iload dX2_holds_130 1 rfl ?_
            refine g_iconst (v := 1) dX2_holds_132 (by decide) ?_
            refine g_iadd dX2_holds_133 ?_
            refine g_aload_n dX2_holds_134 rfl 3 rfl ?_
            refine g_rA fl_X2_27 dX2_holds_135 h (fun a22 h => ?_)
            refine g_iload dX2_holds_138 1 rfl ?_
            refine g_iconst (v := 1) dX2_holds_140 (by decide) ?_
            refine g_iadd dX2_holds_141 ?_
            refine g_lIi dX2_holds_142 h (fun x23 h => ?_)
            refine g_iadd dX2_holds_143 ?_
            refine g_istore (lv' := [(8, .int (((l5 + 1) + 1) + x23)), (7, .int x21), (5, .int (l5 + 1)), (6, .int x15), (0, .ref l0), (2, .ref l2), (3, .int l3), (4, .int l4)]) dX2_holds_144 (by decide) rfl ?_
            refine g_iinc (j := 2) (v := (l5 + 1) + 2) (lv' := [(5, .int ((l5 + 1) + 2)), (8, .int (((l5 + 1) + 1) + x23)), (7, .int x21), (6, .int x15), (0, .ref l0), (2, .ref l2), (3, .int l3), (4, .int l4)]) dX2_holds_146 rfl rfl (by decide) rfl ?_
            refine G.lsub [4, 5, 6, 7, 0, 3, 2, 1] rfl ?_
            exact ok_L_X2_holds_149 Θ k_20 hk_20 5000 l0 l2 l3 l4 ((l5 + 1) + 2) x15 x21 (((l5 + 1) + 1) + x23) _ _ r h
          · rw [if_pos c19] at h
            refine g_iload dX2_holds_99 5 rfl ?_
            refine g_iconst (v := 1) dX2_holds_101 (by decide) ?_
            refine g_ishl dX2_holds_102 ?_
            refine g_aload_n dX2_holds_103 rfl 3 rfl ?_
            refine g_aload_n dX2_holds_104 rfl 2 rfl ?_
            refine g_rA fl_X2_27 dX2_holds_105 h (fun a24 h => ?_)
            refine g_iload dX2_holds_108 0 rfl ?_
            refine g_lIi dX2_holds_110 h (fun x25 h => ?_)
            refine g_lIi dX2_holds_111 h (fun x26 h => ?_)
            refine g_ior dX2_holds_112 ?_
            refine g_istore (lv' := [(4, .int ((l4 <<< ((1 : Int32) &&& 31)) ||| x26)), (5, .int (l5 + 1)), (6, .int x15), (0, .ref l0), (2, .ref l2), (3, .int l3)]) dX2_holds_113 (by decide) rfl ?_
            refine g_iinc (j := 1) (v := (l5 + 1) + 1) (lv' := [(5, .int ((l5 + 1) + 1)), (4, .int ((l4 <<< ((1 : Int32) &&& 31)) ||| x26)), (6, .int x15), (0, .ref l0), (2, .ref l2), (3, .int l3)]) dX2_holds_115 rfl rfl (by decide) rfl ?_
            refine g_goto (tgt := 243) dX2_holds_118 (by decide) ?_
            refine G.lsub [3, 4, 5, 1, 0] rfl ?_
            exact ok_J_X2_holds_243 Θ k_20 hk_20 l0 l2 l3 ((l4 <<< ((1 : Int32) &&& 31)) ||| x26) ((l5 + 1) + 1) _ _ r h
        · rw [if_pos c18] at h
          refine g_iload dX2_holds_79 5 rfl ?_
          refine g_iconst (v := 1) dX2_holds_81 (by decide) ?_
          refine g_ishr dX2_holds_82 ?_
          refine g_iload dX2_holds_83 5 rfl ?_
          refine g_iconst (v := 1) dX2_holds_85 (by decide) ?_
          refine g_iand dX2_holds_86 ?_
          refine g_ior dX2_holds_87 ?_
          refine g_istore (lv' := [(4, .int ((l4 >>> ((1 : Int32) &&& 31)) ||| (l4 &&& 1))), (5, .int (l5 + 1)), (6, .int x15), (0, .ref l0), (2, .ref l2), (3, .int l3)]) dX2_holds_88 (by decide) rfl ?_
          refine g_goto (tgt := 243) dX2_holds_90 (by decide) ?_
          refine G.lsub [3, 4, 5, 0, 1] rfl ?_
          exact ok_J_X2_holds_243 Θ k_20 hk_20 l0 l2 l3 ((l4 >>> ((1 : Int32) &&& 31)) ||| (l4 &&& 1)) (l5 + 1) _ _ r h
      · rw [if_pos c17] at h
        refine g_iload dX2_holds_58 5 rfl ?_
        refine g_iconst (v := 1) dX2_holds_60 (by decide) ?_
        refine g_ishr dX2_holds_61 ?_
        refine g_iload dX2_holds_62 5 rfl ?_
        refine g_bipush (v := (-2)) dX2_holds_64 (by decide) ?_
        refine g_ior dX2_holds_66 ?_
        refine g_iand dX2_holds_67 ?_
        refine g_istore (lv' := [(4, .int ((l4 >>> ((1 : Int32) &&& 31)) &&& (l4 ||| (-2)))), (5, .int (l5 + 1)), (6, .int x15), (0, .ref l0), (2, .ref l2), (3, .int l3)]) dX2_holds_68 (by decide) rfl ?_
        refine g_goto (tgt := 243) dX2_holds_70 (by decide) ?_
        refine G.lsub [3, 4, 5, 0, 1] rfl ?_
        exact ok_J_X2_holds_243 Θ k_20 hk_20 l0 l2 l3 ((l4 >>> ((1 : Int32) &&& 31)) &&& (l4 ||| (-2))) (l5 + 1) _ _ r h
    · rw [if_pos c16] at h
      refine g_iload dX2_holds_43 5 rfl ?_
      refine g_iconst (v := 1) dX2_holds_45 (by decide) ?_
      refine g_ixor dX2_holds_46 ?_
      refine g_istore (lv' := [(4, .int (l4 ^^^ 1)), (5, .int (l5 + 1)), (6, .int x15), (0, .ref l0), (2, .ref l2), (3, .int l3)]) dX2_holds_47 (by decide) rfl ?_
      refine g_goto (tgt := 243) dX2_holds_49 (by decide) ?_
      refine G.lsub [3, 4, 5, 0, 1] rfl ?_
      exact ok_J_X2_holds_243 Θ k_20 hk_20 l0 l2 l3 (l4 ^^^ 1) (l5 + 1) _ _ r h
theorem ok_L_X2_holds_20 (Θ : GP) : ∀ (f : Nat) (l0 : Nat) (l2 : Nat) (l3 : Int32) (l4 : Int32) (l5 : Int32) (ω : OW) (n : Nat) (r : Out), L_X2_holds_20 Θ f l0 l2 l3 l4 l5 ω n = some r → GR Θ yX2_holds cX2_holds 10 (some .boolean) 1 (0, 0) 20 [(0, .ref l0), (2, .ref l2), (3, .int l3), (4, .int l4), (5, .int l5)] [] ω n r := by
  intro f
  induction f with
  | zero =>
    intro l0 l2 l3 l4 l5 ω n r h
    unfold L_X2_holds_20 at h
    cases h
  | succ f ih =>
    intro l0 l2 l3 l4 l5 ω n r h
    unfold L_X2_holds_20 at h
    exact ok_B_X2_holds_20 Θ (L_X2_holds_20 Θ f) ih l0 l2 l3 l4 l5 ω n r h
theorem ok_X2_holds (Θ : GP) (l0 : Nat) (l1 : Int32) (l2 : Nat) (ω : OW) (n : Nat) : Ok Θ 1 0 0 yX2_holds cX2_holds 10 (some .boolean) [.ref l0, .int l1, .ref l2] ω n (F_X2_holds Θ l0 l1 l2 ω n) := by
  refine Ok.of (by decide +kernel) (Nat.le_of_ble_eq_true rfl) (fun r h => ?_)
  unfold F_X2_holds at h
  show GR Θ yX2_holds cX2_holds 10 (some .boolean) 1 (0, 0) 0 [(0, .ref l0), (1, .int l1), (2, .ref l2)] [] ω n r
  refine g_aload_n dX2_holds_0 rfl 0 rfl ?_
  refine g_rA fl_X2_24 dX2_holds_1 h (fun a27 h => ?_)
  refine g_iload_n dX2_holds_4 rfl 1 rfl ?_
  refine g_iconst (v := 1) dX2_holds_5 (by decide) ?_
  refine g_iadd dX2_holds_6 ?_
  refine g_lIi dX2_holds_7 h (fun x28 h => ?_)
  refine g_istore_n (lv' := [(3, .int x28), (0, .ref l0), (1, .int l1), (2, .ref l2)]) dX2_holds_8 rfl (by decide) rfl ?_
  refine g_iconst (v := 1) dX2_holds_9 (by decide) ?_
  refine g_istore (lv' := [(4, .int 1), (3, .int x28), (0, .ref l0), (1, .int l1), (2, .ref l2)]) dX2_holds_10 (by decide) rfl ?_
  refine g_aload_n dX2_holds_12 rfl 2 rfl ?_
  refine g_rA fl_X2_24 dX2_holds_13 h (fun a29 h => ?_)
  refine g_iload_n dX2_holds_16 rfl 3 rfl ?_
  refine g_lIi dX2_holds_17 h (fun x30 h => ?_)
  refine g_istore (lv' := [(5, .int x30), (4, .int 1), (3, .int x28), (0, .ref l0), (1, .int l1), (2, .ref l2)]) dX2_holds_18 (by decide) rfl ?_
  refine G.lsub [3, 5, 2, 1, 0] rfl ?_
  exact ok_L_X2_holds_20 Θ 5000 l0 l2 x28 1 x30 _ _ r h
def J_X2_frightsBy_68 (Θ : GP) (k_13 : Nat → Nat → Int32 → Int32 → OW → Nat → RO) (l0 : Nat) (l1 : Nat) (l2 : Int32) (l3 : Int32) (ω : OW) (n : Nat) : RO := k_13 l0 l1 l2 (l3 + 1) ω n
def J_X2_frightsBy_66 (Θ : GP) (k_13 : Nat → Nat → Int32 → Int32 → OW → Nat → RO) (l0 : Nat) (l1 : Nat) (l3 : Int32) (s0 : Int32) (s1 : Int32) (ω : OW) (n : Nat) : RO := J_X2_frightsBy_68 Θ k_13 l0 l1 (s1 + s0) l3 ω n
def B_X2_frightsBy_13 (Θ : GP) (k_13 : Nat → Nat → Int32 → Int32 → OW → Nat → RO) (l0 : Nat) (l1 : Nat) (l2 : Int32) (l3 : Int32) (ω : OW) (n : Nat) : RO := rI ω l0 2 0 (fun x1 => if x1 ≤ l3 then (some (.inl (some (.int (if 0 < l2 then l2 else 0)), ω, n))) else (rA ω l0 2 2 (fun a3 => lI ω (gI Θ) a3 l3 (fun x4 => if x4 = 2 then (J_X2_frightsBy_68 Θ k_13 l0 l1 l2 l3 ω n) else (cO ω l0 2 (kI (F_X2_holds Θ l0 l3 l1 ω n) (fun x6 ω n => if x6 = 0 then (J_X2_frightsBy_68 Θ k_13 l0 l1 l2 l3 ω n) else (rA ω l0 2 2 (fun a8 => lI ω (gI Θ) a8 l3 (fun x9 => if x9 = 0 then (rA ω l0 2 3 (fun a13 => lI ω (gI Θ) a13 l3 (fun x14 => J_X2_frightsBy_66 Θ k_13 l0 l1 l3 x14 l2 ω n))) else (rA ω l0 2 3 (fun a11 => lI ω (gI Θ) a11 l3 (fun x12 => J_X2_frightsBy_66 Θ k_13 l0 l1 l3 (-x12) l2 ω n)))))))))))))
def L_X2_frightsBy_13 (Θ : GP) : Nat → Nat → Nat → Int32 → Int32 → OW → Nat → RO
  | 0, _, _, _, _, _, _ => none
  | f + 1, l0, l1, l2, l3, ω, n => B_X2_frightsBy_13 Θ (L_X2_frightsBy_13 Θ f) l0 l1 l2 l3 ω n
def F_X2_frightsBy (Θ : GP) (l0 : Nat) (l1 : Nat) (ω : OW) (n : Nat) : RO := lI ω (gI Θ) l1 2 (fun x15 => lI ω (gI Θ) l1 3 (fun x16 => L_X2_frightsBy_13 Θ 5000 l0 l1 (x15 - (x16 / 10)) 0 ω n))
theorem ok_J_X2_frightsBy_68 (Θ : GP) (k_13 : Nat → Nat → Int32 → Int32 → OW → Nat → RO) (hk_13 : ∀ l0 l1 l2 l3 ω n r, k_13 l0 l1 l2 l3 ω n = some r → GR Θ yX2_frightsBy cX2_frightsBy 4 (some .int) 2 (0, 0) 13 [(0, .ref l0), (1, .ref l1), (2, .int l2), (3, .int l3)] [] ω n r) (l0 : Nat) (l1 : Nat) (l2 : Int32) (l3 : Int32) (ω : OW) (n : Nat) (r : Out) (h : J_X2_frightsBy_68 Θ k_13 l0 l1 l2 l3 ω n = some r) : GR Θ yX2_frightsBy cX2_frightsBy 4 (some .int) 2 (0, 0) 68 [(0, .ref l0), (1, .ref l1), (2, .int l2), (3, .int l3)] [] ω n r := by
  unfold J_X2_frightsBy_68 at h
  refine g_iinc (j := 3) (v := l3 + 1) (lv' := [(3, .int (l3 + 1)), (0, .ref l0), (1, .ref l1), (2, .int l2)]) dX2_frightsBy_68 rfl rfl (by decide) rfl ?_
  refine g_goto (tgt := 13) dX2_frightsBy_71 (by decide) ?_
  refine G.lsub [1, 2, 3, 0] rfl ?_
  exact hk_13 l0 l1 l2 (l3 + 1) _ _ r h
theorem ok_J_X2_frightsBy_66 (Θ : GP) (k_13 : Nat → Nat → Int32 → Int32 → OW → Nat → RO) (hk_13 : ∀ l0 l1 l2 l3 ω n r, k_13 l0 l1 l2 l3 ω n = some r → GR Θ yX2_frightsBy cX2_frightsBy 4 (some .int) 2 (0, 0) 13 [(0, .ref l0), (1, .ref l1), (2, .int l2), (3, .int l3)] [] ω n r) (l0 : Nat) (l1 : Nat) (l3 : Int32) (s0 : Int32) (s1 : Int32) (ω : OW) (n : Nat) (r : Out) (h : J_X2_frightsBy_66 Θ k_13 l0 l1 l3 s0 s1 ω n = some r) : GR Θ yX2_frightsBy cX2_frightsBy 4 (some .int) 2 (0, 0) 66 [(0, .ref l0), (1, .ref l1), (3, .int l3)] [.int s0, .int s1] ω n r := by
  unfold J_X2_frightsBy_66 at h
  refine g_iadd dX2_frightsBy_66 ?_
  refine g_istore_n (lv' := [(2, .int (s1 + s0)), (0, .ref l0), (1, .ref l1), (3, .int l3)]) dX2_frightsBy_67 rfl (by decide) rfl ?_
  refine G.lsub [1, 2, 0, 3] rfl ?_
  exact ok_J_X2_frightsBy_68 Θ k_13 hk_13 l0 l1 (s1 + s0) l3 _ _ r h
theorem ok_B_X2_frightsBy_13 (Θ : GP) (k_13 : Nat → Nat → Int32 → Int32 → OW → Nat → RO) (hk_13 : ∀ l0 l1 l2 l3 ω n r, k_13 l0 l1 l2 l3 ω n = some r → GR Θ yX2_frightsBy cX2_frightsBy 4 (some .int) 2 (0, 0) 13 [(0, .ref l0), (1, .ref l1), (2, .int l2), (3, .int l3)] [] ω n r) (l0 : Nat) (l1 : Nat) (l2 : Int32) (l3 : Int32) (ω : OW) (n : Nat) (r : Out) (h : B_X2_frightsBy_13 Θ k_13 l0 l1 l2 l3 ω n = some r) : GR Θ yX2_frightsBy cX2_frightsBy 4 (some .int) 2 (0, 0) 13 [(0, .ref l0), (1, .ref l1), (2, .int l2), (3, .int l3)] [] ω n r := by
  unfold B_X2_frightsBy_13 at h
  refine g_iload_n dX2_frightsBy_13 rfl 3 rfl ?_
  refine g_aload_n dX2_frightsBy_14 rfl 0 rfl ?_
  refine g_rI fl_X2_7 dX2_frightsBy_15 h (fun x1 h => ?_)
  refine g_icmp_ge (tgt := 74) dX2_frightsBy_18 (by decide) (fun c2 => ?_) (fun c2 => ?_)
  · rw [if_pos c2] at h
    refine g_iconst (v := 0) dX2_frightsBy_74 (by decide) ?_
    refine g_iload_n dX2_frightsBy_75 rfl 2 rfl ?_
    refine g_max wd_631 wd_610 wd_135 wd_611 dX2_frightsBy_76 (by decide) (Nat.le_of_ble_eq_true rfl) ?_
    cases h
    exact g_iret rfl dX2_frightsBy_79 rfl
  · rw [if_neg c2] at h
    refine g_aload_n dX2_frightsBy_21 rfl 0 rfl ?_
    refine g_rA fl_X2_17 dX2_frightsBy_22 h (fun a3 h => ?_)
    refine g_iload_n dX2_frightsBy_25 rfl 3 rfl ?_
    refine g_lIi dX2_frightsBy_26 h (fun x4 h => ?_)
    refine g_iconst (v := 2) dX2_frightsBy_27 (by decide) ?_
    refine g_icmp_eq (tgt := 68) dX2_frightsBy_28 (by decide) (fun c5 => ?_) (fun c5 => ?_)
    · rw [if_pos c5] at h
      exact ok_J_X2_frightsBy_68 Θ k_13 hk_13 l0 l1 l2 l3 _ _ r h
    · rw [if_neg c5] at h
      refine g_aload_n dX2_frightsBy_31 rfl 0 rfl ?_
      refine g_iload_n dX2_frightsBy_32 rfl 3 rfl ?_
      refine g_aload_n dX2_frightsBy_33 rfl 1 rfl ?_
      refine g_cI (ci := 2) (As := [.int l3, .ref l1]) mv_X2_30 dX2_frightsBy_34 rfl (ok_X2_holds Θ l0 l3 l1 _ _) rfl rfl (Nat.le_of_ble_eq_true rfl) (by decide) (by decide) (by decide) h (fun x6 ω n h => ?_)
      refine G.less (B' := (0, 0)) (by decide) (by decide) ?_
      refine g_if_eq (tgt := 68) dX2_frightsBy_37 (by decide) (fun c7 => ?_) (fun c7 => ?_)
      · rw [if_pos c7] at h
        exact ok_J_X2_frightsBy_68 Θ k_13 hk_13 l0 l1 l2 l3 _ _ r h
      · rw [if_neg c7] at h
        refine g_iload_n dX2_frightsBy_40 rfl 2 rfl ?_
        refine g_aload_n dX2_frightsBy_41 rfl 0 rfl ?_
        refine g_rA fl_X2_17 dX2_frightsBy_42 h (fun a8 h => ?_)
        refine g_iload_n dX2_frightsBy_45 rfl 3 rfl ?_
        refine g_lIi dX2_frightsBy_46 h (fun x9 h => ?_)
        refine g_if_ne (tgt := 59) dX2_frightsBy_47 (by decide) (fun c10 => ?_) (fun c10 => ?_)
        · rw [if_neg c10] at h
          refine g_aload_n dX2_frightsBy_59 rfl 0 rfl ?_
          refine g_rA fl_X2_21 dX2_frightsBy_60 h (fun a11 h => ?_)
          refine g_iload_n dX2_frightsBy_63 rfl 3 rfl ?_
          refine g_lIi dX2_frightsBy_64 h (fun x12 h => ?_)
          refine g_ineg dX2_frightsBy_65 ?_
          refine G.lsub [0, 1, 3] rfl ?_
          exact ok_J_X2_frightsBy_66 Θ k_13 hk_13 l0 l1 l3 (-x12) l2 _ _ r h
        · rw [if_pos c10] at h
          refine g_aload_n dX2_frightsBy_50 rfl 0 rfl ?_
          refine g_rA fl_X2_21 dX2_frightsBy_51 h (fun a13 h => ?_)
          refine g_iload_n dX2_frightsBy_54 rfl 3 rfl ?_
          refine g_lIi dX2_frightsBy_55 h (fun x14 h => ?_)
          refine g_goto (tgt := 66) dX2_frightsBy_56 (by decide) ?_
          refine G.lsub [0, 1, 3] rfl ?_
          exact ok_J_X2_frightsBy_66 Θ k_13 hk_13 l0 l1 l3 x14 l2 _ _ r h
theorem ok_L_X2_frightsBy_13 (Θ : GP) : ∀ (f : Nat) (l0 : Nat) (l1 : Nat) (l2 : Int32) (l3 : Int32) (ω : OW) (n : Nat) (r : Out), L_X2_frightsBy_13 Θ f l0 l1 l2 l3 ω n = some r → GR Θ yX2_frightsBy cX2_frightsBy 4 (some .int) 2 (0, 0) 13 [(0, .ref l0), (1, .ref l1), (2, .int l2), (3, .int l3)] [] ω n r := by
  intro f
  induction f with
  | zero =>
    intro l0 l1 l2 l3 ω n r h
    unfold L_X2_frightsBy_13 at h
    cases h
  | succ f ih =>
    intro l0 l1 l2 l3 ω n r h
    unfold L_X2_frightsBy_13 at h
    exact ok_B_X2_frightsBy_13 Θ (L_X2_frightsBy_13 Θ f) ih l0 l1 l2 l3 ω n r h
theorem ok_X2_frightsBy (Θ : GP) (l0 : Nat) (l1 : Nat) (ω : OW) (n : Nat) : Ok Θ 2 0 0 yX2_frightsBy cX2_frightsBy 4 (some .int) [.ref l0, .ref l1] ω n (F_X2_frightsBy Θ l0 l1 ω n) := by
  refine Ok.of (by decide +kernel) (Nat.le_of_ble_eq_true rfl) (fun r h => ?_)
  unfold F_X2_frightsBy at h
  show GR Θ yX2_frightsBy cX2_frightsBy 4 (some .int) 2 (0, 0) 0 [(0, .ref l0), (1, .ref l1)] [] ω n r
  refine g_aload_n dX2_frightsBy_0 rfl 1 rfl ?_
  refine g_iconst (v := 2) dX2_frightsBy_1 (by decide) ?_
  refine g_lIi dX2_frightsBy_2 h (fun x15 h => ?_)
  refine g_aload_n dX2_frightsBy_3 rfl 1 rfl ?_
  refine g_iconst (v := 3) dX2_frightsBy_4 (by decide) ?_
  refine g_lIi dX2_frightsBy_5 h (fun x16 h => ?_)
  refine g_bipush (v := 10) dX2_frightsBy_6 (by decide) ?_
  refine g_idiv dX2_frightsBy_8 (by decide) ?_
  refine g_isub dX2_frightsBy_9 ?_
  refine g_istore_n (lv' := [(2, .int (x15 - (x16 / 10))), (0, .ref l0), (1, .ref l1)]) dX2_frightsBy_10 rfl (by decide) rfl ?_
  refine g_iconst (v := 0) dX2_frightsBy_11 (by decide) ?_
  refine g_istore_n (lv' := [(3, .int 0), (2, .int (x15 - (x16 / 10))), (0, .ref l0), (1, .ref l1)]) dX2_frightsBy_12 rfl (by decide) rfl ?_
  refine G.lsub [2, 3, 1, 0] rfl ?_
  exact ok_L_X2_frightsBy_13 Θ 5000 l0 l1 (x15 - (x16 / 10)) 0 _ _ r h
def J_X2_wearsBy_40 (Θ : GP) (k_4 : Nat → Nat → Int32 → Int32 → OW → Nat → RO) (l0 : Nat) (l1 : Nat) (l2 : Int32) (l3 : Int32) (ω : OW) (n : Nat) : RO := k_4 l0 l1 l2 (l3 + 1) ω n
def B_X2_wearsBy_4 (Θ : GP) (k_4 : Nat → Nat → Int32 → Int32 → OW → Nat → RO) (l0 : Nat) (l1 : Nat) (l2 : Int32) (l3 : Int32) (ω : OW) (n : Nat) : RO := rI ω l0 2 0 (fun x1 => if x1 ≤ l3 then (some (.inl (some (.int l2), ω, n))) else (rA ω l0 2 2 (fun a3 => lI ω (gI Θ) a3 l3 (fun x4 => if x4 = 2 then (cO ω l0 2 (kI (F_X2_holds Θ l0 l3 l1 ω n) (fun x6 ω n => if x6 = 0 then (J_X2_wearsBy_40 Θ k_4 l0 l1 l2 l3 ω n) else (rA ω l0 2 3 (fun a8 => lI ω (gI Θ) a8 l3 (fun x9 => J_X2_wearsBy_40 Θ k_4 l0 l1 (l2 + x9) l3 ω n)))))) else (J_X2_wearsBy_40 Θ k_4 l0 l1 l2 l3 ω n)))))
def L_X2_wearsBy_4 (Θ : GP) : Nat → Nat → Nat → Int32 → Int32 → OW → Nat → RO
  | 0, _, _, _, _, _, _ => none
  | f + 1, l0, l1, l2, l3, ω, n => B_X2_wearsBy_4 Θ (L_X2_wearsBy_4 Θ f) l0 l1 l2 l3 ω n
def F_X2_wearsBy (Θ : GP) (l0 : Nat) (l1 : Nat) (ω : OW) (n : Nat) : RO := L_X2_wearsBy_4 Θ 5000 l0 l1 1 0 ω n
theorem ok_J_X2_wearsBy_40 (Θ : GP) (k_4 : Nat → Nat → Int32 → Int32 → OW → Nat → RO) (hk_4 : ∀ l0 l1 l2 l3 ω n r, k_4 l0 l1 l2 l3 ω n = some r → GR Θ yX2_wearsBy cX2_wearsBy 4 (some .int) 2 (0, 0) 4 [(0, .ref l0), (1, .ref l1), (2, .int l2), (3, .int l3)] [] ω n r) (l0 : Nat) (l1 : Nat) (l2 : Int32) (l3 : Int32) (ω : OW) (n : Nat) (r : Out) (h : J_X2_wearsBy_40 Θ k_4 l0 l1 l2 l3 ω n = some r) : GR Θ yX2_wearsBy cX2_wearsBy 4 (some .int) 2 (0, 0) 40 [(0, .ref l0), (1, .ref l1), (2, .int l2), (3, .int l3)] [] ω n r := by
  unfold J_X2_wearsBy_40 at h
  refine g_iinc (j := 3) (v := l3 + 1) (lv' := [(3, .int (l3 + 1)), (0, .ref l0), (1, .ref l1), (2, .int l2)]) dX2_wearsBy_40 rfl rfl (by decide) rfl ?_
  refine g_goto (tgt := 4) dX2_wearsBy_43 (by decide) ?_
  refine G.lsub [1, 2, 3, 0] rfl ?_
  exact hk_4 l0 l1 l2 (l3 + 1) _ _ r h
theorem ok_B_X2_wearsBy_4 (Θ : GP) (k_4 : Nat → Nat → Int32 → Int32 → OW → Nat → RO) (hk_4 : ∀ l0 l1 l2 l3 ω n r, k_4 l0 l1 l2 l3 ω n = some r → GR Θ yX2_wearsBy cX2_wearsBy 4 (some .int) 2 (0, 0) 4 [(0, .ref l0), (1, .ref l1), (2, .int l2), (3, .int l3)] [] ω n r) (l0 : Nat) (l1 : Nat) (l2 : Int32) (l3 : Int32) (ω : OW) (n : Nat) (r : Out) (h : B_X2_wearsBy_4 Θ k_4 l0 l1 l2 l3 ω n = some r) : GR Θ yX2_wearsBy cX2_wearsBy 4 (some .int) 2 (0, 0) 4 [(0, .ref l0), (1, .ref l1), (2, .int l2), (3, .int l3)] [] ω n r := by
  unfold B_X2_wearsBy_4 at h
  refine g_iload_n dX2_wearsBy_4 rfl 3 rfl ?_
  refine g_aload_n dX2_wearsBy_5 rfl 0 rfl ?_
  refine g_rI fl_X2_7 dX2_wearsBy_6 h (fun x1 h => ?_)
  refine g_icmp_ge (tgt := 46) dX2_wearsBy_9 (by decide) (fun c2 => ?_) (fun c2 => ?_)
  · rw [if_pos c2] at h
    refine g_iload_n dX2_wearsBy_46 rfl 2 rfl ?_
    cases h
    exact g_iret rfl dX2_wearsBy_47 rfl
  · rw [if_neg c2] at h
    refine g_aload_n dX2_wearsBy_12 rfl 0 rfl ?_
    refine g_rA fl_X2_17 dX2_wearsBy_13 h (fun a3 h => ?_)
    refine g_iload_n dX2_wearsBy_16 rfl 3 rfl ?_
    refine g_lIi dX2_wearsBy_17 h (fun x4 h => ?_)
    refine g_iconst (v := 2) dX2_wearsBy_18 (by decide) ?_
    refine g_icmp_ne (tgt := 40) dX2_wearsBy_19 (by decide) (fun c5 => ?_) (fun c5 => ?_)
    · rw [if_neg c5] at h
      exact ok_J_X2_wearsBy_40 Θ k_4 hk_4 l0 l1 l2 l3 _ _ r h
    · rw [if_pos c5] at h
      refine g_aload_n dX2_wearsBy_22 rfl 0 rfl ?_
      refine g_iload_n dX2_wearsBy_23 rfl 3 rfl ?_
      refine g_aload_n dX2_wearsBy_24 rfl 1 rfl ?_
      refine g_cI (ci := 2) (As := [.int l3, .ref l1]) mv_X2_30 dX2_wearsBy_25 rfl (ok_X2_holds Θ l0 l3 l1 _ _) rfl rfl (Nat.le_of_ble_eq_true rfl) (by decide) (by decide) (by decide) h (fun x6 ω n h => ?_)
      refine G.less (B' := (0, 0)) (by decide) (by decide) ?_
      refine g_if_eq (tgt := 40) dX2_wearsBy_28 (by decide) (fun c7 => ?_) (fun c7 => ?_)
      · rw [if_pos c7] at h
        exact ok_J_X2_wearsBy_40 Θ k_4 hk_4 l0 l1 l2 l3 _ _ r h
      · rw [if_neg c7] at h
        refine g_iload_n dX2_wearsBy_31 rfl 2 rfl ?_
        refine g_aload_n dX2_wearsBy_32 rfl 0 rfl ?_
        refine g_rA fl_X2_21 dX2_wearsBy_33 h (fun a8 h => ?_)
        refine g_iload_n dX2_wearsBy_36 rfl 3 rfl ?_
        refine g_lIi dX2_wearsBy_37 h (fun x9 h => ?_)
        refine g_iadd dX2_wearsBy_38 ?_
        refine g_istore_n (lv' := [(2, .int (l2 + x9)), (0, .ref l0), (1, .ref l1), (3, .int l3)]) dX2_wearsBy_39 rfl (by decide) rfl ?_
        refine G.lsub [1, 2, 0, 3] rfl ?_
        exact ok_J_X2_wearsBy_40 Θ k_4 hk_4 l0 l1 (l2 + x9) l3 _ _ r h
theorem ok_L_X2_wearsBy_4 (Θ : GP) : ∀ (f : Nat) (l0 : Nat) (l1 : Nat) (l2 : Int32) (l3 : Int32) (ω : OW) (n : Nat) (r : Out), L_X2_wearsBy_4 Θ f l0 l1 l2 l3 ω n = some r → GR Θ yX2_wearsBy cX2_wearsBy 4 (some .int) 2 (0, 0) 4 [(0, .ref l0), (1, .ref l1), (2, .int l2), (3, .int l3)] [] ω n r := by
  intro f
  induction f with
  | zero =>
    intro l0 l1 l2 l3 ω n r h
    unfold L_X2_wearsBy_4 at h
    cases h
  | succ f ih =>
    intro l0 l1 l2 l3 ω n r h
    unfold L_X2_wearsBy_4 at h
    exact ok_B_X2_wearsBy_4 Θ (L_X2_wearsBy_4 Θ f) ih l0 l1 l2 l3 ω n r h
theorem ok_X2_wearsBy (Θ : GP) (l0 : Nat) (l1 : Nat) (ω : OW) (n : Nat) : Ok Θ 2 0 0 yX2_wearsBy cX2_wearsBy 4 (some .int) [.ref l0, .ref l1] ω n (F_X2_wearsBy Θ l0 l1 ω n) := by
  refine Ok.of (by decide +kernel) (Nat.le_of_ble_eq_true rfl) (fun r h => ?_)
  unfold F_X2_wearsBy at h
  show GR Θ yX2_wearsBy cX2_wearsBy 4 (some .int) 2 (0, 0) 0 [(0, .ref l0), (1, .ref l1)] [] ω n r
  refine g_iconst (v := 1) dX2_wearsBy_0 (by decide) ?_
  refine g_istore_n (lv' := [(2, .int 1), (0, .ref l0), (1, .ref l1)]) dX2_wearsBy_1 rfl (by decide) rfl ?_
  refine g_iconst (v := 0) dX2_wearsBy_2 (by decide) ?_
  refine g_istore_n (lv' := [(3, .int 0), (2, .int 1), (0, .ref l0), (1, .ref l1)]) dX2_wearsBy_3 rfl (by decide) rfl ?_
  refine G.lsub [2, 3, 1, 0] rfl ?_
  exact ok_L_X2_wearsBy_4 Θ 5000 l0 l1 1 0 _ _ r h
def F_X3_write (Θ : GP) (l0 : Nat) (l1 : Int32) (ω : OW) (n : Nat) : RO := rI ω l0 3 2 (fun x1 => if x1 < 408 then (rA ω l0 3 6 (fun a3 => rI ω l0 3 2 (fun x4 => sI ω (gI Θ) a3 x4 l1 (fun ω => rI ω l0 3 2 (fun x5 => wF ω l0 3 2 (.int (x5 + 1)) (fun ω => some (.inl (some (.int 1), ω, n)))))))) else (some (.inl (some (.int 0), ω, n))))
theorem ok_X3_write (Θ : GP) (l0 : Nat) (l1 : Int32) (ω : OW) (n : Nat) : Ok Θ 1 0 0 yX3_write cX3_write 2 (some .boolean) [.ref l0, .int l1] ω n (F_X3_write Θ l0 l1 ω n) := by
  refine Ok.of (by decide +kernel) (Nat.le_of_ble_eq_true rfl) (fun r h => ?_)
  unfold F_X3_write at h
  show GR Θ yX3_write cX3_write 2 (some .boolean) 1 (0, 0) 0 [(0, .ref l0), (1, .int l1)] [] ω n r
  refine g_aload_n dX3_write_0 rfl 0 rfl ?_
  refine g_rI fl_X3_15 dX3_write_1 h (fun x1 h => ?_)
  refine g_sipush (v := 408) dX3_write_4 (by decide) ?_
  refine g_icmp_lt (tgt := 12) dX3_write_7 (by decide) (fun c2 => ?_) (fun c2 => ?_)
  · rw [if_pos c2] at h
    refine g_aload_n dX3_write_12 rfl 0 rfl ?_
    refine g_rA fl_X3_30 dX3_write_13 h (fun a3 h => ?_)
    refine g_aload_n dX3_write_16 rfl 0 rfl ?_
    refine g_rI fl_X3_15 dX3_write_17 h (fun x4 h => ?_)
    refine g_iload_n dX3_write_20 rfl 1 rfl ?_
    refine g_sIi dX3_write_21 h (fun ω h => ?_)
    refine g_aload_n dX3_write_22 rfl 0 rfl ?_
    refine g_dup dX3_write_23 rfl ?_
    refine g_rI fl_X3_15 dX3_write_24 h (fun x5 h => ?_)
    refine g_iconst (v := 1) dX3_write_27 (by decide) ?_
    refine g_iadd dX3_write_28 ?_
    refine g_wF fl_X3_15 dX3_write_29 (rfl) rfl h (fun ω h => ?_)
    refine g_iconst (v := 1) dX3_write_32 (by decide) ?_
    cases h
    exact g_zret rfl rfl dX3_write_33 rfl
  · rw [if_neg c2] at h
    refine g_iconst (v := 0) dX3_write_10 (by decide) ?_
    cases h
    exact g_zret rfl rfl dX3_write_11 rfl
def J_X3_readPart_178 (Θ : GP) (ω : OW) (n : Nat) : RO := some (.inl (some (.int 0), ω, n))
def J_X3_readPart_172 (Θ : GP) (l0 : Nat) (l1 : Int32) (s0 : Int32) (s1 : Nat) (ω : OW) (n : Nat) : RO := cO ω s1 3 (kI (F_X3_write Θ s1 s0 ω n) (fun x1 ω n => if x1 = 0 then (J_X3_readPart_178 Θ ω n) else (rA ω l0 3 6 (fun a3 => lI ω (gI Θ) a3 (l1 + 2) (fun x4 => sI ω (gI Θ) a3 (l1 + 2) (x4 + 1) (fun ω => rA ω l0 3 0 (fun a5 => cO ω a5 8 (kV (F_X8_advance Θ a5 ω n) (fun ω n => some (.inl (some (.int 1), ω, n)))))))))))
def J_X3_readPart_150 (Θ : GP) (l0 : Nat) (l1 : Int32) (l2 : Int32) (s0 : Int32) (ω : OW) (n : Nat) : RO := if s0 = (-1) then (J_X3_readPart_178 Θ ω n) else (if l2 = 0 then (J_X3_readPart_172 Θ l0 l1 s0 l0 ω n) else (J_X3_readPart_172 Θ l0 l1 (s0 ^^^ (-1)) l0 ω n))
def J_X3_readPart_36 (Θ : GP) (l0 : Nat) (s0 : Int32) (s1 : Int32) (s2 : Int32) (s3 : Nat) (ω : OW) (n : Nat) : RO := sI ω (gI Θ) s3 s2 (s1 + s0) (fun ω => rA ω l0 3 0 (fun a9 => cO ω a9 8 (kV (F_X8_advance Θ a9 ω n) (fun ω n => some (.inl (some (.int 1), ω, n))))))
def F_X3_readPart (Θ : GP) (l0 : Nat) (l1 : Int32) (l2 : Int32) (ω : OW) (n : Nat) : RO := rA ω l0 3 0 (fun a11 => cO ω a11 8 (kI (F_X8_number Θ a11 0 999 ω n) (fun x12 ω n => if x12 = (-1) then (rA ω l0 3 0 (fun a14 => cO ω a14 8 (kI (F_X8_isWord Θ a14 1886547824 ω n) (fun x15 ω n => if x15 = 0 then (rA ω l0 3 0 (fun a17 => cO ω a17 8 (kI (F_X8_isWord Θ a17 1936486260 ω n) (fun x18 ω n => if x18 = 0 then (rA ω l0 3 0 (fun a20 => cO ω a20 8 (kI (F_X8_isWord Θ a20 1785033323 ω n) (fun x21 ω n => if x21 = 0 then (rA ω l0 3 0 (fun a23 => cO ω a23 8 (kI (F_X8_isWord Θ a23 2003792494 ω n) (fun x24 ω n => if x24 = 0 then (rA ω l0 3 0 (fun a26 => cO ω a26 8 (kI (F_X8_isWord Θ a26 499917943653 ω n) (fun x27 ω n => if x27 = 0 then (rA ω l0 3 0 (fun a29 => cO ω a29 8 (kI (F_X8_isWord Θ a29 474148402789 ω n) (fun x30 ω n => if x30 = 0 then (J_X3_readPart_150 Θ l0 l1 l2 (-1) ω n) else (J_X3_readPart_150 Θ l0 l1 l2 5 ω n))))) else (J_X3_readPart_150 Θ l0 l1 l2 4 ω n))))) else (J_X3_readPart_150 Θ l0 l1 l2 3 ω n))))) else (J_X3_readPart_150 Θ l0 l1 l2 2 ω n))))) else (J_X3_readPart_150 Θ l0 l1 l2 1 ω n))))) else (J_X3_readPart_150 Θ l0 l1 l2 0 ω n))))) else (rA ω l0 3 6 (fun a32 => lI ω (gI Θ) a32 (l1 + 1) (fun x33 => if l2 = 0 then (J_X3_readPart_36 Θ l0 x12 x33 (l1 + 1) a32 ω n) else (J_X3_readPart_36 Θ l0 (-x12) x33 (l1 + 1) a32 ω n)))))))
theorem ok_J_X3_readPart_178 (Θ : GP) (ω : OW) (n : Nat) (r : Out) (h : J_X3_readPart_178 Θ ω n = some r) : GR Θ yX3_readPart cX3_readPart 5 (some .boolean) 2 (0, 0) 178 [] [] ω n r := by
  unfold J_X3_readPart_178 at h
  refine g_iconst (v := 0) dX3_readPart_178 (by decide) ?_
  cases h
  exact g_zret rfl rfl dX3_readPart_179 rfl
theorem ok_J_X3_readPart_172 (Θ : GP) (l0 : Nat) (l1 : Int32) (s0 : Int32) (s1 : Nat) (ω : OW) (n : Nat) (r : Out) (h : J_X3_readPart_172 Θ l0 l1 s0 s1 ω n = some r) : GR Θ yX3_readPart cX3_readPart 5 (some .boolean) 2 (0, 0) 172 [(0, .ref l0), (1, .int l1)] [.int s0, .ref s1] ω n r := by
  unfold J_X3_readPart_172 at h
  refine g_cI (ci := 3) (As := [.int s0]) mv_X3_94 dX3_readPart_172 rfl (ok_X3_write Θ s1 s0 _ _) rfl rfl (Nat.le_of_ble_eq_true rfl) (by decide) (by decide) (by decide) h (fun x1 ω n h => ?_)
  refine G.less (B' := (0, 0)) (by decide) (by decide) ?_
  refine g_if_ne (tgt := 180) dX3_readPart_175 (by decide) (fun c2 => ?_) (fun c2 => ?_)
  · rw [if_neg c2] at h
    refine g_aload_n dX3_readPart_180 rfl 0 rfl ?_
    refine g_rA fl_X3_30 dX3_readPart_181 h (fun a3 h => ?_)
    refine g_iload_n dX3_readPart_184 rfl 1 rfl ?_
    refine g_iconst (v := 2) dX3_readPart_185 (by decide) ?_
    refine g_iadd dX3_readPart_186 ?_
    refine g_dup2 dX3_readPart_187 rfl rfl ?_
    refine g_lIi dX3_readPart_188 h (fun x4 h => ?_)
    refine g_iconst (v := 1) dX3_readPart_189 (by decide) ?_
    refine g_iadd dX3_readPart_190 ?_
    refine g_sIi dX3_readPart_191 h (fun ω h => ?_)
    refine g_aload_n dX3_readPart_192 rfl 0 rfl ?_
    refine g_rA fl_X3_33 dX3_readPart_193 h (fun a5 h => ?_)
    refine g_cV (ci := 8) (As := []) mv_X3_81 dX3_readPart_196 rfl (ok_X8_advance Θ a5 _ _) rfl rfl (Nat.le_of_ble_eq_true rfl) (by decide) (by decide) (by decide) h (fun ω n h => ?_)
    refine G.less (B' := (0, 0)) (by decide) (by decide) ?_
    refine g_iconst (v := 1) dX3_readPart_199 (by decide) ?_
    cases h
    exact g_zret rfl rfl dX3_readPart_200 rfl
  · rw [if_pos c2] at h
    refine G.lsub [] rfl ?_
    exact ok_J_X3_readPart_178 Θ _ _ r h
theorem ok_J_X3_readPart_150 (Θ : GP) (l0 : Nat) (l1 : Int32) (l2 : Int32) (s0 : Int32) (ω : OW) (n : Nat) (r : Out) (h : J_X3_readPart_150 Θ l0 l1 l2 s0 ω n = some r) : GR Θ yX3_readPart cX3_readPart 5 (some .boolean) 2 (0, 0) 150 [(0, .ref l0), (1, .int l1), (2, .int l2)] [.int s0] ω n r := by
  unfold J_X3_readPart_150 at h
  refine g_istore (lv' := [(4, .int s0), (0, .ref l0), (1, .int l1), (2, .int l2)]) dX3_readPart_150 (by decide) rfl ?_
  refine g_iload dX3_readPart_152 0 rfl ?_
  refine g_iconst (v := (-1)) dX3_readPart_154 (by decide) ?_
  refine g_icmp_eq (tgt := 178) dX3_readPart_155 (by decide) (fun c7 => ?_) (fun c7 => ?_)
  · rw [if_pos c7] at h
    refine G.lsub [] rfl ?_
    exact ok_J_X3_readPart_178 Θ _ _ r h
  · rw [if_neg c7] at h
    refine g_aload_n dX3_readPart_158 rfl 1 rfl ?_
    refine g_iload_n dX3_readPart_159 rfl 3 rfl ?_
    refine g_if_eq (tgt := 170) dX3_readPart_160 (by decide) (fun c8 => ?_) (fun c8 => ?_)
    · rw [if_pos c8] at h
      refine g_iload dX3_readPart_170 0 rfl ?_
      refine G.lsub [1, 2] rfl ?_
      exact ok_J_X3_readPart_172 Θ l0 l1 s0 l0 _ _ r h
    · rw [if_neg c8] at h
      refine g_iload dX3_readPart_163 0 rfl ?_
      refine g_iconst (v := (-1)) dX3_readPart_165 (by decide) ?_
      refine g_ixor dX3_readPart_166 ?_
      refine g_goto (tgt := 172) dX3_readPart_167 (by decide) ?_
      refine G.lsub [1, 2] rfl ?_
      exact ok_J_X3_readPart_172 Θ l0 l1 (s0 ^^^ (-1)) l0 _ _ r h
theorem ok_J_X3_readPart_36 (Θ : GP) (l0 : Nat) (s0 : Int32) (s1 : Int32) (s2 : Int32) (s3 : Nat) (ω : OW) (n : Nat) (r : Out) (h : J_X3_readPart_36 Θ l0 s0 s1 s2 s3 ω n = some r) : GR Θ yX3_readPart cX3_readPart 5 (some .boolean) 2 (0, 0) 36 [(0, .ref l0)] [.int s0, .int s1, .int s2, .ref s3] ω n r := by
  unfold J_X3_readPart_36 at h
  refine g_iadd dX3_readPart_36 ?_
  refine g_sIi dX3_readPart_37 h (fun ω h => ?_)
  refine g_aload_n dX3_readPart_38 rfl 0 rfl ?_
  refine g_rA fl_X3_33 dX3_readPart_39 h (fun a9 h => ?_)
  refine g_cV (ci := 8) (As := []) mv_X3_81 dX3_readPart_42 rfl (ok_X8_advance Θ a9 _ _) rfl rfl (Nat.le_of_ble_eq_true rfl) (by decide) (by decide) (by decide) h (fun ω n h => ?_)
  refine G.less (B' := (0, 0)) (by decide) (by decide) ?_
  refine g_iconst (v := 1) dX3_readPart_45 (by decide) ?_
  cases h
  exact g_zret rfl rfl dX3_readPart_46 rfl
theorem ok_X3_readPart (Θ : GP) (l0 : Nat) (l1 : Int32) (l2 : Int32) (ω : OW) (n : Nat) : Ok Θ 2 0 0 yX3_readPart cX3_readPart 5 (some .boolean) [.ref l0, .int l1, .int l2] ω n (F_X3_readPart Θ l0 l1 l2 ω n) := by
  refine Ok.of (by decide +kernel) (Nat.le_of_ble_eq_true rfl) (fun r h => ?_)
  unfold F_X3_readPart at h
  show GR Θ yX3_readPart cX3_readPart 5 (some .boolean) 2 (0, 0) 0 [(0, .ref l0), (1, .int l1), (2, .int l2)] [] ω n r
  refine g_aload_n dX3_readPart_0 rfl 0 rfl ?_
  refine g_rA fl_X3_33 dX3_readPart_1 h (fun a11 h => ?_)
  refine g_iconst (v := 0) dX3_readPart_4 (by decide) ?_
  refine g_sipush (v := 999) dX3_readPart_5 (by decide) ?_
  refine g_cI (ci := 8) (As := [.int 0, .int 999]) mv_X3_77 dX3_readPart_8 rfl (ok_X8_number Θ a11 0 999 _ _) rfl rfl (Nat.le_of_ble_eq_true rfl) (by decide) (by decide) (by decide) h (fun x12 ω n h => ?_)
  refine G.less (B' := (0, 0)) (by decide) (by decide) ?_
  refine g_istore_n (lv' := [(3, .int x12), (0, .ref l0), (1, .int l1), (2, .int l2)]) dX3_readPart_11 rfl (by decide) rfl ?_
  refine g_iload_n dX3_readPart_12 rfl 0 rfl ?_
  refine g_iconst (v := (-1)) dX3_readPart_13 (by decide) ?_
  refine g_icmp_eq (tgt := 47) dX3_readPart_14 (by decide) (fun c13 => ?_) (fun c13 => ?_)
  · rw [if_pos c13] at h
    refine g_aload_n dX3_readPart_47 rfl 1 rfl ?_
    refine g_rA fl_X3_33 dX3_readPart_48 h (fun a14 h => ?_)
    refine g_ldc2_w (v := 1886547824) wd_1031 dX3_readPart_51 ?_
    refine g_cI (ci := 8) (As := [.long 1886547824]) mv_X3_101 dX3_readPart_54 rfl (ok_X8_isWord Θ a14 1886547824 _ _) rfl rfl (Nat.le_of_ble_eq_true rfl) (by decide) (by decide) (by decide) h (fun x15 ω n h => ?_)
    refine G.less (B' := (0, 0)) (by decide) (by decide) ?_
    refine g_if_eq (tgt := 64) dX3_readPart_57 (by decide) (fun c16 => ?_) (fun c16 => ?_)
    · rw [if_pos c16] at h
      refine g_aload_n dX3_readPart_64 rfl 1 rfl ?_
      refine g_rA fl_X3_33 dX3_readPart_65 h (fun a17 h => ?_)
      refine g_ldc2_w (v := 1936486260) wd_1032 dX3_readPart_68 ?_
      refine g_cI (ci := 8) (As := [.long 1936486260]) mv_X3_101 dX3_readPart_71 rfl (ok_X8_isWord Θ a17 1936486260 _ _) rfl rfl (Nat.le_of_ble_eq_true rfl) (by decide) (by decide) (by decide) h (fun x18 ω n h => ?_)
      refine G.less (B' := (0, 0)) (by decide) (by decide) ?_
      refine g_if_eq (tgt := 81) dX3_readPart_74 (by decide) (fun c19 => ?_) (fun c19 => ?_)
      · rw [if_pos c19] at h
        refine g_aload_n dX3_readPart_81 rfl 1 rfl ?_
        refine g_rA fl_X3_33 dX3_readPart_82 h (fun a20 h => ?_)
        refine g_ldc2_w (v := 1785033323) wd_1033 dX3_readPart_85 ?_
        refine g_cI (ci := 8) (As := [.long 1785033323]) mv_X3_101 dX3_readPart_88 rfl (ok_X8_isWord Θ a20 1785033323 _ _) rfl rfl (Nat.le_of_ble_eq_true rfl) (by decide) (by decide) (by decide) h (fun x21 ω n h => ?_)
        refine G.less (B' := (0, 0)) (by decide) (by decide) ?_
        refine g_if_eq (tgt := 98) dX3_readPart_91 (by decide) (fun c22 => ?_) (fun c22 => ?_)
        · rw [if_pos c22] at h
          refine g_aload_n dX3_readPart_98 rfl 1 rfl ?_
          refine g_rA fl_X3_33 dX3_readPart_99 h (fun a23 h => ?_)
          refine g_ldc2_w (v := 2003792494) wd_1034 dX3_readPart_102 ?_
          refine g_cI (ci := 8) (As := [.long 2003792494]) mv_X3_101 dX3_readPart_105 rfl (ok_X8_isWord Θ a23 2003792494 _ _) rfl rfl (Nat.le_of_ble_eq_true rfl) (by decide) (by decide) (by decide) h (fun x24 ω n h => ?_)
          refine G.less (B' := (0, 0)) (by decide) (by decide) ?_
          refine g_if_eq (tgt := 115) dX3_readPart_108 (by decide) (fun c25 => ?_) (fun c25 => ?_)
          · rw [if_pos c25] at h
            refine g_aload_n dX3_readPart_115 rfl 1 rfl ?_
            refine g_rA fl_X3_33 dX3_readPart_116 h (fun a26 h => ?_)
            refine g_ldc2_w (v := 499917943653) wd_1035 dX3_readPart_119 ?_
            refine g_cI (ci := 8) (As := [.long 499917943653]) mv_X3_101 dX3_readPart_122 rfl (ok_X8_isWord Θ a26 499917943653 _ _) rfl rfl (Nat.le_of_ble_eq_true rfl) (by decide) (by decide) (by decide) h (fun x27 ω n h => ?_)
            refine G.less (B' := (0, 0)) (by decide) (by decide) ?_
            refine g_if_eq (tgt := 132) dX3_readPart_125 (by decide) (fun c28 => ?_) (fun c28 => ?_)
            · rw [if_pos c28] at h
              refine g_aload_n dX3_readPart_132 rfl 1 rfl ?_
              refine g_rA fl_X3_33 dX3_readPart_133 h (fun a29 h => ?_)
              refine g_ldc2_w (v := 474148402789) wd_1036 dX3_readPart_136 ?_
              refine g_cI (ci := 8) (As := [.long 474148402789]) mv_X3_101 dX3_readPart_139 rfl (ok_X8_isWord Θ a29 474148402789 _ _) rfl rfl (Nat.le_of_ble_eq_true rfl) (by decide) (by decide) (by decide) h (fun x30 ω n h => ?_)
              refine G.less (B' := (0, 0)) (by decide) (by decide) ?_
              refine g_if_eq (tgt := 149) dX3_readPart_142 (by decide) (fun c31 => ?_) (fun c31 => ?_)
              · rw [if_pos c31] at h
                refine g_iconst (v := (-1)) dX3_readPart_149 (by decide) ?_
                refine G.lsub [1, 2, 3] rfl ?_
                exact ok_J_X3_readPart_150 Θ l0 l1 l2 (-1) _ _ r h
              · rw [if_neg c31] at h
                refine g_iconst (v := 5) dX3_readPart_145 (by decide) ?_
                refine g_goto (tgt := 150) dX3_readPart_146 (by decide) ?_
                refine G.lsub [1, 2, 3] rfl ?_
                exact ok_J_X3_readPart_150 Θ l0 l1 l2 5 _ _ r h
            · rw [if_neg c28] at h
              refine g_iconst (v := 4) dX3_readPart_128 (by decide) ?_
              refine g_goto (tgt := 150) dX3_readPart_129 (by decide) ?_
              refine G.lsub [1, 2, 3] rfl ?_
              exact ok_J_X3_readPart_150 Θ l0 l1 l2 4 _ _ r h
          · rw [if_neg c25] at h
            refine g_iconst (v := 3) dX3_readPart_111 (by decide) ?_
            refine g_goto (tgt := 150) dX3_readPart_112 (by decide) ?_
            refine G.lsub [1, 2, 3] rfl ?_
            exact ok_J_X3_readPart_150 Θ l0 l1 l2 3 _ _ r h
        · rw [if_neg c22] at h
          refine g_iconst (v := 2) dX3_readPart_94 (by decide) ?_
          refine g_goto (tgt := 150) dX3_readPart_95 (by decide) ?_
          refine G.lsub [1, 2, 3] rfl ?_
          exact ok_J_X3_readPart_150 Θ l0 l1 l2 2 _ _ r h
      · rw [if_neg c19] at h
        refine g_iconst (v := 1) dX3_readPart_77 (by decide) ?_
        refine g_goto (tgt := 150) dX3_readPart_78 (by decide) ?_
        refine G.lsub [1, 2, 3] rfl ?_
        exact ok_J_X3_readPart_150 Θ l0 l1 l2 1 _ _ r h
    · rw [if_neg c16] at h
      refine g_iconst (v := 0) dX3_readPart_60 (by decide) ?_
      refine g_goto (tgt := 150) dX3_readPart_61 (by decide) ?_
      refine G.lsub [1, 2, 3] rfl ?_
      exact ok_J_X3_readPart_150 Θ l0 l1 l2 0 _ _ r h
  · rw [if_neg c13] at h
    refine g_aload_n dX3_readPart_17 rfl 1 rfl ?_
    refine g_rA fl_X3_30 dX3_readPart_18 h (fun a32 h => ?_)
    refine g_iload_n dX3_readPart_21 rfl 2 rfl ?_
    refine g_iconst (v := 1) dX3_readPart_22 (by decide) ?_
    refine g_iadd dX3_readPart_23 ?_
    refine g_dup2 dX3_readPart_24 rfl rfl ?_
    refine g_lIi dX3_readPart_25 h (fun x33 h => ?_)
    refine g_iload_n dX3_readPart_26 rfl 3 rfl ?_
    refine g_if_eq (tgt := 35) dX3_readPart_27 (by decide) (fun c34 => ?_) (fun c34 => ?_)
    · rw [if_pos c34] at h
      refine g_iload_n dX3_readPart_35 rfl 0 rfl ?_
      refine G.lsub [1] rfl ?_
      exact ok_J_X3_readPart_36 Θ l0 x12 x33 (l1 + 1) a32 _ _ r h
    · rw [if_neg c34] at h
      refine g_iload_n dX3_readPart_30 rfl 0 rfl ?_
      refine g_ineg dX3_readPart_31 ?_
      refine g_goto (tgt := 36) dX3_readPart_32 (by decide) ?_
      refine G.lsub [1] rfl ?_
      exact ok_J_X3_readPart_36 Θ l0 (-x12) x33 (l1 + 1) a32 _ _ r h
def J_X3_readComparison_119 (Θ : GP) (k_35 : Nat → Int32 → Int32 → Int32 → OW → Nat → RO) (l0 : Nat) (l1 : Int32) (l2 : Int32) (l3 : Int32) (ω : OW) (n : Nat) : RO := k_35 l0 l1 l2 (l3 + 1) ω n
def J_X3_readComparison_110 (Θ : GP) (k_35 : Nat → Int32 → Int32 → Int32 → OW → Nat → RO) (l0 : Nat) (l1 : Int32) (l3 : Int32) (ω : OW) (n : Nat) : RO := rA ω l0 3 0 (fun a1 => cO ω a1 8 (kV (F_X8_advance Θ a1 ω n) (fun ω n => J_X3_readComparison_119 Θ k_35 l0 l1 1 l3 ω n)))
def B_X3_readComparison_35 (Θ : GP) (k_35 : Nat → Int32 → Int32 → Int32 → OW → Nat → RO) (l0 : Nat) (l1 : Int32) (l2 : Int32) (l3 : Int32) (ω : OW) (n : Nat) : RO := if 400 ≤ l3 then (some (.inl (some (.int 0), ω, n))) else (cO ω l0 3 (kI (F_X3_readPart Θ l0 l1 l2 ω n) (fun x4 ω n => if x4 = 0 then (some (.inl (some (.int 0), ω, n))) else (rA ω l0 3 0 (fun a6 => cO ω a6 8 (kI (F_X8_takeSign Θ a6 43 ω n) (fun x7 ω n => if x7 = 0 then (if l2 = 0 then (rA ω l0 3 0 (fun a10 => cO ω a10 8 (kI (F_X8_isSign Θ a10 62 ω n) (fun x11 ω n => if x11 = 0 then (rA ω l0 3 0 (fun a13 => cO ω a13 8 (kI (F_X8_isSign Θ a13 60 ω n) (fun x14 ω n => if x14 = 0 then (some (.inl (some (.int 0), ω, n))) else (J_X3_readComparison_110 Θ k_35 l0 l1 l3 ω n))))) else (rA ω l0 3 6 (fun a16 => sI ω (gI Θ) a16 l1 5 (fun ω => J_X3_readComparison_110 Θ k_35 l0 l1 l3 ω n))))))) else (some (.inl (some (.int 1), ω, n)))) else (J_X3_readComparison_119 Θ k_35 l0 l1 l2 l3 ω n))))))))
def L_X3_readComparison_35 (Θ : GP) : Nat → Nat → Int32 → Int32 → Int32 → OW → Nat → RO
  | 0, _, _, _, _, _, _ => none
  | f + 1, l0, l1, l2, l3, ω, n => B_X3_readComparison_35 Θ (L_X3_readComparison_35 Θ f) l0 l1 l2 l3 ω n
def J_X3_readComparison_29 (Θ : GP) (ω : OW) (n : Nat) : RO := some (.inl (some (.int 0), ω, n))
def F_X3_readComparison (Θ : GP) (l0 : Nat) (ω : OW) (n : Nat) : RO := rI ω l0 3 2 (fun x17 => cO ω l0 3 (kI (F_X3_write Θ l0 4 ω n) (fun x18 ω n => if x18 = 0 then (J_X3_readComparison_29 Θ ω n) else (cO ω l0 3 (kI (F_X3_write Θ l0 0 ω n) (fun x20 ω n => if x20 = 0 then (J_X3_readComparison_29 Θ ω n) else (cO ω l0 3 (kI (F_X3_write Θ l0 0 ω n) (fun x22 ω n => if x22 = 0 then (J_X3_readComparison_29 Θ ω n) else (L_X3_readComparison_35 Θ 5000 l0 x17 0 0 ω n))))))))))
theorem ok_J_X3_readComparison_119 (Θ : GP) (k_35 : Nat → Int32 → Int32 → Int32 → OW → Nat → RO) (hk_35 : ∀ l0 l1 l2 l3 ω n r, k_35 l0 l1 l2 l3 ω n = some r → GR Θ yX3_readComparison cX3_readComparison 4 (some .boolean) 3 (0, 0) 35 [(0, .ref l0), (1, .int l1), (2, .int l2), (3, .int l3)] [] ω n r) (l0 : Nat) (l1 : Int32) (l2 : Int32) (l3 : Int32) (ω : OW) (n : Nat) (r : Out) (h : J_X3_readComparison_119 Θ k_35 l0 l1 l2 l3 ω n = some r) : GR Θ yX3_readComparison cX3_readComparison 4 (some .boolean) 3 (0, 0) 119 [(0, .ref l0), (1, .int l1), (2, .int l2), (3, .int l3)] [] ω n r := by
  unfold J_X3_readComparison_119 at h
  refine g_iinc (j := 3) (v := l3 + 1) (lv' := [(3, .int (l3 + 1)), (0, .ref l0), (1, .int l1), (2, .int l2)]) dX3_readComparison_119 rfl rfl (by decide) rfl ?_
  refine g_goto (tgt := 35) dX3_readComparison_122 (by decide) ?_
  refine G.lsub [1, 2, 3, 0] rfl ?_
  exact hk_35 l0 l1 l2 (l3 + 1) _ _ r h
theorem ok_J_X3_readComparison_110 (Θ : GP) (k_35 : Nat → Int32 → Int32 → Int32 → OW → Nat → RO) (hk_35 : ∀ l0 l1 l2 l3 ω n r, k_35 l0 l1 l2 l3 ω n = some r → GR Θ yX3_readComparison cX3_readComparison 4 (some .boolean) 3 (0, 0) 35 [(0, .ref l0), (1, .int l1), (2, .int l2), (3, .int l3)] [] ω n r) (l0 : Nat) (l1 : Int32) (l3 : Int32) (ω : OW) (n : Nat) (r : Out) (h : J_X3_readComparison_110 Θ k_35 l0 l1 l3 ω n = some r) : GR Θ yX3_readComparison cX3_readComparison 4 (some .boolean) 3 (0, 0) 110 [(0, .ref l0), (1, .int l1), (3, .int l3)] [] ω n r := by
  unfold J_X3_readComparison_110 at h
  refine g_aload_n dX3_readComparison_110 rfl 0 rfl ?_
  refine g_rA fl_X3_33 dX3_readComparison_111 h (fun a1 h => ?_)
  refine g_cV (ci := 8) (As := []) mv_X3_81 dX3_readComparison_114 rfl (ok_X8_advance Θ a1 _ _) rfl rfl (Nat.le_of_ble_eq_true rfl) (by decide) (by decide) (by decide) h (fun ω n h => ?_)
  refine G.less (B' := (0, 0)) (by decide) (by decide) ?_
  refine g_iconst (v := 1) dX3_readComparison_117 (by decide) ?_
  refine g_istore_n (lv' := [(2, .int 1), (0, .ref l0), (1, .int l1), (3, .int l3)]) dX3_readComparison_118 rfl (by decide) rfl ?_
  refine G.lsub [1, 2, 0, 3] rfl ?_
  exact ok_J_X3_readComparison_119 Θ k_35 hk_35 l0 l1 1 l3 _ _ r h
theorem ok_B_X3_readComparison_35 (Θ : GP) (k_35 : Nat → Int32 → Int32 → Int32 → OW → Nat → RO) (hk_35 : ∀ l0 l1 l2 l3 ω n r, k_35 l0 l1 l2 l3 ω n = some r → GR Θ yX3_readComparison cX3_readComparison 4 (some .boolean) 3 (0, 0) 35 [(0, .ref l0), (1, .int l1), (2, .int l2), (3, .int l3)] [] ω n r) (l0 : Nat) (l1 : Int32) (l2 : Int32) (l3 : Int32) (ω : OW) (n : Nat) (r : Out) (h : B_X3_readComparison_35 Θ k_35 l0 l1 l2 l3 ω n = some r) : GR Θ yX3_readComparison cX3_readComparison 4 (some .boolean) 3 (0, 0) 35 [(0, .ref l0), (1, .int l1), (2, .int l2), (3, .int l3)] [] ω n r := by
  unfold B_X3_readComparison_35 at h
  refine g_iload_n dX3_readComparison_35 rfl 3 rfl ?_
  refine g_sipush (v := 400) dX3_readComparison_36 (by decide) ?_
  refine g_icmp_ge (tgt := 125) dX3_readComparison_39 (by decide) (fun c3 => ?_) (fun c3 => ?_)
  · rw [if_pos c3] at h
    refine g_iconst (v := 0) dX3_readComparison_125 (by decide) ?_
    cases h
    exact g_zret rfl rfl dX3_readComparison_126 rfl
  · rw [if_neg c3] at h
    refine g_aload_n dX3_readComparison_42 rfl 0 rfl ?_
    refine g_iload_n dX3_readComparison_43 rfl 1 rfl ?_
    refine g_iload_n dX3_readComparison_44 rfl 2 rfl ?_
    refine g_cI (ci := 3) (As := [.int l1, .int l2]) mv_X3_114 dX3_readComparison_45 rfl (ok_X3_readPart Θ l0 l1 l2 _ _) rfl rfl (Nat.le_of_ble_eq_true rfl) (by decide) (by decide) (by decide) h (fun x4 ω n h => ?_)
    refine G.less (B' := (0, 0)) (by decide) (by decide) ?_
    refine g_if_ne (tgt := 53) dX3_readComparison_48 (by decide) (fun c5 => ?_) (fun c5 => ?_)
    · rw [if_neg c5] at h
      refine g_aload_n dX3_readComparison_53 rfl 0 rfl ?_
      refine g_rA fl_X3_33 dX3_readComparison_54 h (fun a6 h => ?_)
      refine g_bipush (v := 43) dX3_readComparison_57 (by decide) ?_
      refine g_cI (ci := 8) (As := [.int 43]) mv_X3_54 dX3_readComparison_59 rfl (ok_X8_takeSign Θ a6 43 _ _) rfl rfl (Nat.le_of_ble_eq_true rfl) (by decide) (by decide) (by decide) h (fun x7 ω n h => ?_)
      refine G.less (B' := (0, 0)) (by decide) (by decide) ?_
      refine g_if_eq (tgt := 68) dX3_readComparison_62 (by decide) (fun c8 => ?_) (fun c8 => ?_)
      · rw [if_pos c8] at h
        refine g_iload_n dX3_readComparison_68 rfl 2 rfl ?_
        refine g_if_eq (tgt := 74) dX3_readComparison_69 (by decide) (fun c9 => ?_) (fun c9 => ?_)
        · rw [if_pos c9] at h
          refine g_aload_n dX3_readComparison_74 rfl 0 rfl ?_
          refine g_rA fl_X3_33 dX3_readComparison_75 h (fun a10 h => ?_)
          refine g_bipush (v := 62) dX3_readComparison_78 (by decide) ?_
          refine g_cI (ci := 8) (As := [.int 62]) mv_X3_104 dX3_readComparison_80 rfl (ok_X8_isSign Θ a10 62 _ _) rfl rfl (Nat.le_of_ble_eq_true rfl) (by decide) (by decide) (by decide) h (fun x11 ω n h => ?_)
          refine G.less (B' := (0, 0)) (by decide) (by decide) ?_
          refine g_if_eq (tgt := 96) dX3_readComparison_83 (by decide) (fun c12 => ?_) (fun c12 => ?_)
          · rw [if_pos c12] at h
            refine g_aload_n dX3_readComparison_96 rfl 0 rfl ?_
            refine g_rA fl_X3_33 dX3_readComparison_97 h (fun a13 h => ?_)
            refine g_bipush (v := 60) dX3_readComparison_100 (by decide) ?_
            refine g_cI (ci := 8) (As := [.int 60]) mv_X3_104 dX3_readComparison_102 rfl (ok_X8_isSign Θ a13 60 _ _) rfl rfl (Nat.le_of_ble_eq_true rfl) (by decide) (by decide) (by decide) h (fun x14 ω n h => ?_)
            refine G.less (B' := (0, 0)) (by decide) (by decide) ?_
            refine g_if_ne (tgt := 110) dX3_readComparison_105 (by decide) (fun c15 => ?_) (fun c15 => ?_)
            · rw [if_neg c15] at h
              refine G.lsub [0, 1, 3] rfl ?_
              exact ok_J_X3_readComparison_110 Θ k_35 hk_35 l0 l1 l3 _ _ r h
            · rw [if_pos c15] at h
              refine g_iconst (v := 0) dX3_readComparison_108 (by decide) ?_
              cases h
              exact g_zret rfl rfl dX3_readComparison_109 rfl
          · rw [if_neg c12] at h
            refine g_aload_n dX3_readComparison_86 rfl 0 rfl ?_
            refine g_rA fl_X3_30 dX3_readComparison_87 h (fun a16 h => ?_)
            refine g_iload_n dX3_readComparison_90 rfl 1 rfl ?_
            refine g_iconst (v := 5) dX3_readComparison_91 (by decide) ?_
            refine g_sIi dX3_readComparison_92 h (fun ω h => ?_)
            refine g_goto (tgt := 110) dX3_readComparison_93 (by decide) ?_
            refine G.lsub [0, 1, 3] rfl ?_
            exact ok_J_X3_readComparison_110 Θ k_35 hk_35 l0 l1 l3 _ _ r h
        · rw [if_neg c9] at h
          refine g_iconst (v := 1) dX3_readComparison_72 (by decide) ?_
          cases h
          exact g_zret rfl rfl dX3_readComparison_73 rfl
      · rw [if_neg c8] at h
        refine g_goto (tgt := 119) dX3_readComparison_65 (by decide) ?_
        exact ok_J_X3_readComparison_119 Θ k_35 hk_35 l0 l1 l2 l3 _ _ r h
    · rw [if_pos c5] at h
      refine g_iconst (v := 0) dX3_readComparison_51 (by decide) ?_
      cases h
      exact g_zret rfl rfl dX3_readComparison_52 rfl
theorem ok_L_X3_readComparison_35 (Θ : GP) : ∀ (f : Nat) (l0 : Nat) (l1 : Int32) (l2 : Int32) (l3 : Int32) (ω : OW) (n : Nat) (r : Out), L_X3_readComparison_35 Θ f l0 l1 l2 l3 ω n = some r → GR Θ yX3_readComparison cX3_readComparison 4 (some .boolean) 3 (0, 0) 35 [(0, .ref l0), (1, .int l1), (2, .int l2), (3, .int l3)] [] ω n r := by
  intro f
  induction f with
  | zero =>
    intro l0 l1 l2 l3 ω n r h
    unfold L_X3_readComparison_35 at h
    cases h
  | succ f ih =>
    intro l0 l1 l2 l3 ω n r h
    unfold L_X3_readComparison_35 at h
    exact ok_B_X3_readComparison_35 Θ (L_X3_readComparison_35 Θ f) ih l0 l1 l2 l3 ω n r h
theorem ok_J_X3_readComparison_29 (Θ : GP) (ω : OW) (n : Nat) (r : Out) (h : J_X3_readComparison_29 Θ ω n = some r) : GR Θ yX3_readComparison cX3_readComparison 4 (some .boolean) 3 (0, 0) 29 [] [] ω n r := by
  unfold J_X3_readComparison_29 at h
  refine g_iconst (v := 0) dX3_readComparison_29 (by decide) ?_
  cases h
  exact g_zret rfl rfl dX3_readComparison_30 rfl
theorem ok_X3_readComparison (Θ : GP) (l0 : Nat) (ω : OW) (n : Nat) : Ok Θ 3 0 0 yX3_readComparison cX3_readComparison 4 (some .boolean) [.ref l0] ω n (F_X3_readComparison Θ l0 ω n) := by
  refine Ok.of (by decide +kernel) (Nat.le_of_ble_eq_true rfl) (fun r h => ?_)
  unfold F_X3_readComparison at h
  show GR Θ yX3_readComparison cX3_readComparison 4 (some .boolean) 3 (0, 0) 0 [(0, .ref l0)] [] ω n r
  refine g_aload_n dX3_readComparison_0 rfl 0 rfl ?_
  refine g_rI fl_X3_15 dX3_readComparison_1 h (fun x17 h => ?_)
  refine g_istore_n (lv' := [(1, .int x17), (0, .ref l0)]) dX3_readComparison_4 rfl (by decide) rfl ?_
  refine g_aload_n dX3_readComparison_5 rfl 1 rfl ?_
  refine g_iconst (v := 4) dX3_readComparison_6 (by decide) ?_
  refine g_cI (ci := 3) (As := [.int 4]) mv_X3_94 dX3_readComparison_7 rfl (ok_X3_write Θ l0 4 _ _) rfl rfl (Nat.le_of_ble_eq_true rfl) (by decide) (by decide) (by decide) h (fun x18 ω n h => ?_)
  refine G.less (B' := (0, 0)) (by decide) (by decide) ?_
  refine g_if_eq (tgt := 29) dX3_readComparison_10 (by decide) (fun c19 => ?_) (fun c19 => ?_)
  · rw [if_pos c19] at h
    refine G.lsub [] rfl ?_
    exact ok_J_X3_readComparison_29 Θ _ _ r h
  · rw [if_neg c19] at h
    refine g_aload_n dX3_readComparison_13 rfl 1 rfl ?_
    refine g_iconst (v := 0) dX3_readComparison_14 (by decide) ?_
    refine g_cI (ci := 3) (As := [.int 0]) mv_X3_94 dX3_readComparison_15 rfl (ok_X3_write Θ l0 0 _ _) rfl rfl (Nat.le_of_ble_eq_true rfl) (by decide) (by decide) (by decide) h (fun x20 ω n h => ?_)
    refine G.less (B' := (0, 0)) (by decide) (by decide) ?_
    refine g_if_eq (tgt := 29) dX3_readComparison_18 (by decide) (fun c21 => ?_) (fun c21 => ?_)
    · rw [if_pos c21] at h
      refine G.lsub [] rfl ?_
      exact ok_J_X3_readComparison_29 Θ _ _ r h
    · rw [if_neg c21] at h
      refine g_aload_n dX3_readComparison_21 rfl 1 rfl ?_
      refine g_iconst (v := 0) dX3_readComparison_22 (by decide) ?_
      refine g_cI (ci := 3) (As := [.int 0]) mv_X3_94 dX3_readComparison_23 rfl (ok_X3_write Θ l0 0 _ _) rfl rfl (Nat.le_of_ble_eq_true rfl) (by decide) (by decide) (by decide) h (fun x22 ω n h => ?_)
      refine G.less (B' := (0, 0)) (by decide) (by decide) ?_
      refine g_if_ne (tgt := 31) dX3_readComparison_26 (by decide) (fun c23 => ?_) (fun c23 => ?_)
      · rw [if_neg c23] at h
        refine g_iconst (v := 0) dX3_readComparison_31 (by decide) ?_
        refine g_istore_n (lv' := [(2, .int 0), (1, .int x17), (0, .ref l0)]) dX3_readComparison_32 rfl (by decide) rfl ?_
        refine g_iconst (v := 0) dX3_readComparison_33 (by decide) ?_
        refine g_istore_n (lv' := [(3, .int 0), (2, .int 0), (1, .int x17), (0, .ref l0)]) dX3_readComparison_34 rfl (by decide) rfl ?_
        refine G.lsub [3, 2, 1, 0] rfl ?_
        exact ok_L_X3_readComparison_35 Θ 5000 l0 x17 0 0 _ _ r h
      · rw [if_pos c23] at h
        refine G.lsub [] rfl ?_
        exact ok_J_X3_readComparison_29 Θ _ _ r h
def F_X4_add (Θ : GP) (l0 : Nat) (l1 : Int32) (l2 : Int32) (l3 : Int32) (l4 : Int32) (ω : OW) (n : Nat) : RO := rI ω l0 4 1 (fun x1 => rA ω l0 4 2 (fun a2 => sI ω (gI Θ) a2 (x1 * 4) l1 (fun ω => rA ω l0 4 2 (fun a3 => sI ω (gI Θ) a3 ((x1 * 4) + 1) l2 (fun ω => rA ω l0 4 2 (fun a4 => sI ω (gI Θ) a4 ((x1 * 4) + 2) l3 (fun ω => rA ω l0 4 2 (fun a5 => sI ω (gI Θ) a5 ((x1 * 4) + 3) l4 (fun ω => rI ω l0 4 1 (fun x6 => wF ω l0 4 1 (.int ((x6 + 1) - (x6 + 1) / 60 * 60)) (fun ω => rI ω l0 4 0 (fun x7 => wF ω l0 4 0 (.int (if (x7 + 1) < 60 then (x7 + 1) else 60)) (fun ω => some (.inl (none, ω, n)))))))))))))))
theorem ok_X4_add (Θ : GP) (l0 : Nat) (l1 : Int32) (l2 : Int32) (l3 : Int32) (l4 : Int32) (ω : OW) (n : Nat) : Ok Θ 1 0 0 yX4_add cX4_add 6 (none : Option Jvm.ClassFile.FieldType) [.ref l0, .int l1, .int l2, .int l3, .int l4] ω n (F_X4_add Θ l0 l1 l2 l3 l4 ω n) := by
  refine Ok.of (by decide +kernel) (Nat.le_of_ble_eq_true rfl) (fun r h => ?_)
  unfold F_X4_add at h
  show GR Θ yX4_add cX4_add 6 (none : Option Jvm.ClassFile.FieldType) 1 (0, 0) 0 [(0, .ref l0), (1, .int l1), (2, .int l2), (3, .int l3), (4, .int l4)] [] ω n r
  refine g_aload_n dX4_add_0 rfl 0 rfl ?_
  refine g_rI fl_X4_15 dX4_add_1 h (fun x1 h => ?_)
  refine g_iconst (v := 4) dX4_add_4 (by decide) ?_
  refine g_imul dX4_add_5 ?_
  refine g_istore (lv' := [(5, .int (x1 * 4)), (0, .ref l0), (1, .int l1), (2, .int l2), (3, .int l3), (4, .int l4)]) dX4_add_6 (by decide) rfl ?_
  refine g_aload_n dX4_add_8 rfl 1 rfl ?_
  refine g_rA fl_X4_18 dX4_add_9 h (fun a2 h => ?_)
  refine g_iload dX4_add_12 0 rfl ?_
  refine g_iload_n dX4_add_14 rfl 2 rfl ?_
  refine g_sIi dX4_add_15 h (fun ω h => ?_)
  refine g_aload_n dX4_add_16 rfl 1 rfl ?_
  refine g_rA fl_X4_18 dX4_add_17 h (fun a3 h => ?_)
  refine g_iload dX4_add_20 0 rfl ?_
  refine g_iconst (v := 1) dX4_add_22 (by decide) ?_
  refine g_iadd dX4_add_23 ?_
  refine g_iload_n dX4_add_24 rfl 3 rfl ?_
  refine g_sIi dX4_add_25 h (fun ω h => ?_)
  refine g_aload_n dX4_add_26 rfl 1 rfl ?_
  refine g_rA fl_X4_18 dX4_add_27 h (fun a4 h => ?_)
  refine g_iload dX4_add_30 0 rfl ?_
  refine g_iconst (v := 2) dX4_add_32 (by decide) ?_
  refine g_iadd dX4_add_33 ?_
  refine g_iload_n dX4_add_34 rfl 4 rfl ?_
  refine g_sIi dX4_add_35 h (fun ω h => ?_)
  refine g_aload_n dX4_add_36 rfl 1 rfl ?_
  refine g_rA fl_X4_18 dX4_add_37 h (fun a5 h => ?_)
  refine g_iload dX4_add_40 0 rfl ?_
  refine g_iconst (v := 3) dX4_add_42 (by decide) ?_
  refine g_iadd dX4_add_43 ?_
  refine g_iload dX4_add_44 5 rfl ?_
  refine g_sIi dX4_add_46 h (fun ω h => ?_)
  refine g_aload_n dX4_add_47 rfl 1 rfl ?_
  refine g_aload_n dX4_add_48 rfl 1 rfl ?_
  refine g_rI fl_X4_15 dX4_add_49 h (fun x6 h => ?_)
  refine g_iconst (v := 1) dX4_add_52 (by decide) ?_
  refine g_iadd dX4_add_53 ?_
  refine g_bipush (v := 60) dX4_add_54 (by decide) ?_
  refine g_irem dX4_add_56 (by decide) ?_
  refine g_wF fl_X4_15 dX4_add_57 (rfl) rfl h (fun ω h => ?_)
  refine g_aload_n dX4_add_60 rfl 1 rfl ?_
  refine g_bipush (v := 60) dX4_add_61 (by decide) ?_
  refine g_aload_n dX4_add_63 rfl 1 rfl ?_
  refine g_rI fl_X4_9 dX4_add_64 h (fun x7 h => ?_)
  refine g_iconst (v := 1) dX4_add_67 (by decide) ?_
  refine g_iadd dX4_add_68 ?_
  refine g_min wd_1163 wd_617 wd_135 wd_618 dX4_add_69 (by decide) (Nat.le_of_ble_eq_true rfl) ?_
  refine g_wF fl_X4_9 dX4_add_72 (rfl) rfl h (fun ω h => ?_)
  cases h
  exact g_vret rfl dX4_add_75 rfl
def J_X4_cell_21 (Θ : GP) (ω : OW) (n : Nat) : RO := some (.inl (some (.int (-1)), ω, n))
def F_X4_cell (Θ : GP) (l0 : Nat) (l1 : Int32) (l2 : Int32) (ω : OW) (n : Nat) : RO := if l1 < 0 then (J_X4_cell_21 Θ ω n) else (rI ω l0 4 0 (fun x2 => if x2 ≤ l1 then (J_X4_cell_21 Θ ω n) else (if l2 < 0 then (J_X4_cell_21 Θ ω n) else (if l2 < 4 then (rI ω l0 4 1 (fun x6 => rA ω l0 4 2 (fun a7 => lI ω (gI Θ) a7 ((((((x6 + 60) - 1) - l1) - (((x6 + 60) - 1) - l1) / 60 * 60) * 4) + l2) (fun x8 => some (.inl (some (.int x8), ω, n)))))) else (J_X4_cell_21 Θ ω n)))))
theorem ok_J_X4_cell_21 (Θ : GP) (ω : OW) (n : Nat) (r : Out) (h : J_X4_cell_21 Θ ω n = some r) : GR Θ yX4_cell cX4_cell 4 (some .int) 1 (0, 0) 21 [] [] ω n r := by
  unfold J_X4_cell_21 at h
  refine g_iconst (v := (-1)) dX4_cell_21 (by decide) ?_
  cases h
  exact g_iret rfl dX4_cell_22 rfl
theorem ok_X4_cell (Θ : GP) (l0 : Nat) (l1 : Int32) (l2 : Int32) (ω : OW) (n : Nat) : Ok Θ 1 0 0 yX4_cell cX4_cell 4 (some .int) [.ref l0, .int l1, .int l2] ω n (F_X4_cell Θ l0 l1 l2 ω n) := by
  refine Ok.of (by decide +kernel) (Nat.le_of_ble_eq_true rfl) (fun r h => ?_)
  unfold F_X4_cell at h
  show GR Θ yX4_cell cX4_cell 4 (some .int) 1 (0, 0) 0 [(0, .ref l0), (1, .int l1), (2, .int l2)] [] ω n r
  refine g_iload_n dX4_cell_0 rfl 1 rfl ?_
  refine g_if_lt (tgt := 21) dX4_cell_1 (by decide) (fun c1 => ?_) (fun c1 => ?_)
  · rw [if_pos c1] at h
    refine G.lsub [] rfl ?_
    exact ok_J_X4_cell_21 Θ _ _ r h
  · rw [if_neg c1] at h
    refine g_iload_n dX4_cell_4 rfl 1 rfl ?_
    refine g_aload_n dX4_cell_5 rfl 0 rfl ?_
    refine g_rI fl_X4_9 dX4_cell_6 h (fun x2 h => ?_)
    refine g_icmp_ge (tgt := 21) dX4_cell_9 (by decide) (fun c3 => ?_) (fun c3 => ?_)
    · rw [if_pos c3] at h
      refine G.lsub [] rfl ?_
      exact ok_J_X4_cell_21 Θ _ _ r h
    · rw [if_neg c3] at h
      refine g_iload_n dX4_cell_12 rfl 2 rfl ?_
      refine g_if_lt (tgt := 21) dX4_cell_13 (by decide) (fun c4 => ?_) (fun c4 => ?_)
      · rw [if_pos c4] at h
        refine G.lsub [] rfl ?_
        exact ok_J_X4_cell_21 Θ _ _ r h
      · rw [if_neg c4] at h
        refine g_iload_n dX4_cell_16 rfl 2 rfl ?_
        refine g_iconst (v := 4) dX4_cell_17 (by decide) ?_
        refine g_icmp_lt (tgt := 23) dX4_cell_18 (by decide) (fun c5 => ?_) (fun c5 => ?_)
        · rw [if_pos c5] at h
          refine g_aload_n dX4_cell_23 rfl 0 rfl ?_
          refine g_rI fl_X4_15 dX4_cell_24 h (fun x6 h => ?_)
          refine g_bipush (v := 60) dX4_cell_27 (by decide) ?_
          refine g_iadd dX4_cell_29 ?_
          refine g_iconst (v := 1) dX4_cell_30 (by decide) ?_
          refine g_isub dX4_cell_31 ?_
          refine g_iload_n dX4_cell_32 rfl 1 rfl ?_
          refine g_isub dX4_cell_33 ?_
          refine g_bipush (v := 60) dX4_cell_34 (by decide) ?_
          refine g_irem dX4_cell_36 (by decide) ?_
          refine g_istore_n (lv' := [(3, .int ((((x6 + 60) - 1) - l1) - (((x6 + 60) - 1) - l1) / 60 * 60)), (0, .ref l0), (1, .int l1), (2, .int l2)]) dX4_cell_37 rfl (by decide) rfl ?_
          refine g_aload_n dX4_cell_38 rfl 1 rfl ?_
          refine g_rA fl_X4_18 dX4_cell_39 h (fun a7 h => ?_)
          refine g_iload_n dX4_cell_42 rfl 0 rfl ?_
          refine g_iconst (v := 4) dX4_cell_43 (by decide) ?_
          refine g_imul dX4_cell_44 ?_
          refine g_iload_n dX4_cell_45 rfl 3 rfl ?_
          refine g_iadd dX4_cell_46 ?_
          refine g_lIi dX4_cell_47 h (fun x8 h => ?_)
          cases h
          exact g_iret rfl dX4_cell_48 rfl
        · rw [if_neg c5] at h
          refine G.lsub [] rfl ?_
          exact ok_J_X4_cell_21 Θ _ _ r h
def F_X5_remember (Θ : GP) (l0 : Nat) (l1 : Nat) (ω : OW) (n : Nat) : RO := rA ω l0 5 2 (fun a1 => rI ω l0 5 1 (fun x2 => lA ω (gC Θ) a1 x2 (fun a3 => cO ω a3 0 (kV (F_X0_become Θ a3 l1 ω n) (fun ω n => rI ω l0 5 1 (fun x5 => wF ω l0 5 1 (.int ((x5 + 1) - (x5 + 1) / 12 * 12)) (fun ω => rI ω l0 5 0 (fun x6 => wF ω l0 5 0 (.int (if (x6 + 1) < 12 then (x6 + 1) else 12)) (fun ω => some (.inl (none, ω, n)))))))))))
theorem ok_X5_remember (Θ : GP) (l0 : Nat) (l1 : Nat) (ω : OW) (n : Nat) : Ok Θ 3 0 0 yX5_remember cX5_remember 2 (none : Option Jvm.ClassFile.FieldType) [.ref l0, .ref l1] ω n (F_X5_remember Θ l0 l1 ω n) := by
  refine Ok.of (by decide +kernel) (Nat.le_of_ble_eq_true rfl) (fun r h => ?_)
  unfold F_X5_remember at h
  show GR Θ yX5_remember cX5_remember 2 (none : Option Jvm.ClassFile.FieldType) 3 (0, 0) 0 [(0, .ref l0), (1, .ref l1)] [] ω n r
  refine g_aload_n dX5_remember_0 rfl 0 rfl ?_
  refine g_rA fl_X5_18 dX5_remember_1 h (fun a1 h => ?_)
  refine g_aload_n dX5_remember_4 rfl 0 rfl ?_
  refine g_rI fl_X5_13 dX5_remember_5 h (fun x2 h => ?_)
  refine g_lAa dX5_remember_8 h (fun a3 h => ?_)
  refine g_aload_n dX5_remember_9 rfl 1 rfl ?_
  refine g_cV (ci := 0) (As := [.ref l1]) mv_X5_25 dX5_remember_10 rfl (ok_X0_become Θ a3 l1 _ _) rfl rfl (Nat.le_of_ble_eq_true rfl) (by decide) (by decide) (by decide) h (fun ω n h => ?_)
  refine G.less (B' := (0, 0)) (by decide) (by decide) ?_
  refine g_aload_n dX5_remember_13 rfl 0 rfl ?_
  refine g_aload_n dX5_remember_14 rfl 0 rfl ?_
  refine g_rI fl_X5_13 dX5_remember_15 h (fun x5 h => ?_)
  refine g_iconst (v := 1) dX5_remember_18 (by decide) ?_
  refine g_iadd dX5_remember_19 ?_
  refine g_bipush (v := 12) dX5_remember_20 (by decide) ?_
  refine g_irem dX5_remember_22 (by decide) ?_
  refine g_wF fl_X5_13 dX5_remember_23 (rfl) rfl h (fun ω h => ?_)
  refine g_aload_n dX5_remember_26 rfl 0 rfl ?_
  refine g_bipush (v := 12) dX5_remember_27 (by decide) ?_
  refine g_aload_n dX5_remember_29 rfl 0 rfl ?_
  refine g_rI fl_X5_7 dX5_remember_30 h (fun x6 h => ?_)
  refine g_iconst (v := 1) dX5_remember_33 (by decide) ?_
  refine g_iadd dX5_remember_34 ?_
  refine g_min wd_1153 wd_617 wd_135 wd_618 dX5_remember_35 (by decide) (Nat.le_of_ble_eq_true rfl) ?_
  refine g_wF fl_X5_7 dX5_remember_38 (rfl) rfl h (fun ω h => ?_)
  cases h
  exact g_vret rfl dX5_remember_41 rfl
def F_X5_takeBack (Θ : GP) (l0 : Nat) (l1 : Nat) (ω : OW) (n : Nat) : RO := rI ω l0 5 0 (fun x1 => if x1 = 0 then (some (.inl (some (.int 0), ω, n))) else (rI ω l0 5 1 (fun x3 => wF ω l0 5 1 (.int (((x3 + 12) - 1) - ((x3 + 12) - 1) / 12 * 12)) (fun ω => rI ω l0 5 0 (fun x4 => wF ω l0 5 0 (.int (x4 - 1)) (fun ω => rA ω l0 5 2 (fun a5 => rI ω l0 5 1 (fun x6 => lA ω (gC Θ) a5 x6 (fun a7 => cO ω l1 0 (kV (F_X0_become Θ l1 a7 ω n) (fun ω n => some (.inl (some (.int 1), ω, n)))))))))))))
theorem ok_X5_takeBack (Θ : GP) (l0 : Nat) (l1 : Nat) (ω : OW) (n : Nat) : Ok Θ 3 0 0 yX5_takeBack cX5_takeBack 2 (some .boolean) [.ref l0, .ref l1] ω n (F_X5_takeBack Θ l0 l1 ω n) := by
  refine Ok.of (by decide +kernel) (Nat.le_of_ble_eq_true rfl) (fun r h => ?_)
  unfold F_X5_takeBack at h
  show GR Θ yX5_takeBack cX5_takeBack 2 (some .boolean) 3 (0, 0) 0 [(0, .ref l0), (1, .ref l1)] [] ω n r
  refine g_aload_n dX5_takeBack_0 rfl 0 rfl ?_
  refine g_rI fl_X5_7 dX5_takeBack_1 h (fun x1 h => ?_)
  refine g_if_ne (tgt := 9) dX5_takeBack_4 (by decide) (fun c2 => ?_) (fun c2 => ?_)
  · rw [if_neg c2] at h
    refine g_aload_n dX5_takeBack_9 rfl 0 rfl ?_
    refine g_aload_n dX5_takeBack_10 rfl 0 rfl ?_
    refine g_rI fl_X5_13 dX5_takeBack_11 h (fun x3 h => ?_)
    refine g_bipush (v := 12) dX5_takeBack_14 (by decide) ?_
    refine g_iadd dX5_takeBack_16 ?_
    refine g_iconst (v := 1) dX5_takeBack_17 (by decide) ?_
    refine g_isub dX5_takeBack_18 ?_
    refine g_bipush (v := 12) dX5_takeBack_19 (by decide) ?_
    refine g_irem dX5_takeBack_21 (by decide) ?_
    refine g_wF fl_X5_13 dX5_takeBack_22 (rfl) rfl h (fun ω h => ?_)
    refine g_aload_n dX5_takeBack_25 rfl 0 rfl ?_
    refine g_dup dX5_takeBack_26 rfl ?_
    refine g_rI fl_X5_7 dX5_takeBack_27 h (fun x4 h => ?_)
    refine g_iconst (v := 1) dX5_takeBack_30 (by decide) ?_
    refine g_isub dX5_takeBack_31 ?_
    refine g_wF fl_X5_7 dX5_takeBack_32 (rfl) rfl h (fun ω h => ?_)
    refine g_aload_n dX5_takeBack_35 rfl 1 rfl ?_
    refine g_aload_n dX5_takeBack_36 rfl 0 rfl ?_
    refine g_rA fl_X5_18 dX5_takeBack_37 h (fun a5 h => ?_)
    refine g_aload_n dX5_takeBack_40 rfl 0 rfl ?_
    refine g_rI fl_X5_13 dX5_takeBack_41 h (fun x6 h => ?_)
    refine g_lAa dX5_takeBack_44 h (fun a7 h => ?_)
    refine g_cV (ci := 0) (As := [.ref a7]) mv_X5_25 dX5_takeBack_45 rfl (ok_X0_become Θ l1 a7 _ _) rfl rfl (Nat.le_of_ble_eq_true rfl) (by decide) (by decide) (by decide) h (fun ω n h => ?_)
    refine G.less (B' := (0, 0)) (by decide) (by decide) ?_
    refine g_iconst (v := 1) dX5_takeBack_48 (by decide) ?_
    cases h
    exact g_zret rfl rfl dX5_takeBack_49 rfl
  · rw [if_pos c2] at h
    refine g_iconst (v := 0) dX5_takeBack_7 (by decide) ?_
    cases h
    exact g_zret rfl rfl dX5_takeBack_8 rfl
def F_X5_forget (Θ : GP) (l0 : Nat) (ω : OW) (n : Nat) : RO := wF ω l0 5 0 (.int 0) (fun ω => some (.inl (none, ω, n)))
theorem ok_X5_forget (Θ : GP) (l0 : Nat) (ω : OW) (n : Nat) : Ok Θ 1 0 0 yX5_forget cX5_forget 1 (none : Option Jvm.ClassFile.FieldType) [.ref l0] ω n (F_X5_forget Θ l0 ω n) := by
  refine Ok.of (by decide +kernel) (Nat.le_of_ble_eq_true rfl) (fun r h => ?_)
  unfold F_X5_forget at h
  show GR Θ yX5_forget cX5_forget 1 (none : Option Jvm.ClassFile.FieldType) 1 (0, 0) 0 [(0, .ref l0)] [] ω n r
  refine g_aload_n dX5_forget_0 rfl 0 rfl ?_
  refine g_iconst (v := 0) dX5_forget_1 (by decide) ?_
  refine g_wF fl_X5_7 dX5_forget_2 (rfl) rfl h (fun ω h => ?_)
  cases h
  exact g_vret rfl dX5_forget_5 rfl
def F_X6_lay (Θ : GP) (l0 : Nat) (ω : OW) (n : Nat) : RO := rA ω l0 6 0 (fun a1 => rA ω a1 0 11 (fun a2 => rA ω l0 6 1 (fun a3 => cpI ω (gI Θ) a2 0 a3 0 10 (fun ω => rA ω l0 6 0 (fun a4 => rA ω a4 0 9 (fun a5 => rA ω l0 6 2 (fun a6 => cpI ω (gI Θ) a5 0 a6 0 8 (fun ω => wF ω l0 6 6 (.int (-1)) (fun ω => some (.inl (none, ω, n)))))))))))
theorem ok_X6_lay (Θ : GP) (l0 : Nat) (ω : OW) (n : Nat) : Ok Θ 1 0 0 yX6_lay cX6_lay 1 (none : Option Jvm.ClassFile.FieldType) [.ref l0] ω n (F_X6_lay Θ l0 ω n) := by
  refine Ok.of (by decide +kernel) (Nat.le_of_ble_eq_true rfl) (fun r h => ?_)
  unfold F_X6_lay at h
  show GR Θ yX6_lay cX6_lay 1 (none : Option Jvm.ClassFile.FieldType) 1 (0, 0) 0 [(0, .ref l0)] [] ω n r
  refine g_aload_n dX6_lay_0 rfl 0 rfl ?_
  refine g_rA fl_X6_58 dX6_lay_1 h (fun a1 h => ?_)
  refine g_rA fl_X6_62 dX6_lay_4 h (fun a2 h => ?_)
  refine g_iconst (v := 0) dX6_lay_7 (by decide) ?_
  refine g_aload_n dX6_lay_8 rfl 0 rfl ?_
  refine g_rA fl_X6_9 dX6_lay_9 h (fun a3 h => ?_)
  refine g_iconst (v := 0) dX6_lay_12 (by decide) ?_
  refine g_bipush (v := 10) dX6_lay_13 (by decide) ?_
  refine g_cp wd_578 wd_580 wd_579 wd_124 dX6_lay_15 (by decide) (Nat.le_of_ble_eq_true rfl) h (fun ω h => ?_)
  refine g_aload_n dX6_lay_18 rfl 0 rfl ?_
  refine g_rA fl_X6_58 dX6_lay_19 h (fun a4 h => ?_)
  refine g_rA fl_X6_71 dX6_lay_22 h (fun a5 h => ?_)
  refine g_iconst (v := 0) dX6_lay_25 (by decide) ?_
  refine g_aload_n dX6_lay_26 rfl 0 rfl ?_
  refine g_rA fl_X6_15 dX6_lay_27 h (fun a6 h => ?_)
  refine g_iconst (v := 0) dX6_lay_30 (by decide) ?_
  refine g_bipush (v := 8) dX6_lay_31 (by decide) ?_
  refine g_cp wd_578 wd_580 wd_579 wd_124 dX6_lay_33 (by decide) (Nat.le_of_ble_eq_true rfl) h (fun ω h => ?_)
  refine g_aload_n dX6_lay_36 rfl 0 rfl ?_
  refine g_iconst (v := (-1)) dX6_lay_37 (by decide) ?_
  refine g_wF fl_X6_28 dX6_lay_38 (rfl) rfl h (fun ω h => ?_)
  cases h
  exact g_vret rfl dX6_lay_41 rfl
def J_X6_takeDown_38 (Θ : GP) (k_2 : Nat → Int32 → Int32 → OW → Nat → RO) (l0 : Nat) (l1 : Int32) (l2 : Int32) (ω : OW) (n : Nat) : RO := k_2 l0 l1 (l2 + 1) ω n
def B_X6_takeDown_2 (Θ : GP) (k_2 : Nat → Int32 → Int32 → OW → Nat → RO) (l0 : Nat) (l1 : Int32) (l2 : Int32) (ω : OW) (n : Nat) : RO := if 10 ≤ l2 then (some (.inl (none, ω, n))) else (rA ω l0 6 1 (fun a2 => lI ω (gI Θ) a2 l2 (fun x3 => if x3 < 0 then (J_X6_takeDown_38 Θ k_2 l0 l1 l2 ω n) else (rA ω l0 6 1 (fun a5 => lI ω (gI Θ) a5 l2 (fun x6 => if ((l1 >>> ((x6 : Int32) &&& 31)) &&& 1) = 1 then (rA ω l0 6 1 (fun a8 => sI ω (gI Θ) a8 l2 (-1) (fun ω => J_X6_takeDown_38 Θ k_2 l0 l1 l2 ω n))) else (J_X6_takeDown_38 Θ k_2 l0 l1 l2 ω n)))))))
def L_X6_takeDown_2 (Θ : GP) : Nat → Nat → Int32 → Int32 → OW → Nat → RO
  | 0, _, _, _, _, _ => none
  | f + 1, l0, l1, l2, ω, n => B_X6_takeDown_2 Θ (L_X6_takeDown_2 Θ f) l0 l1 l2 ω n
def F_X6_takeDown (Θ : GP) (l0 : Nat) (l1 : Int32) (ω : OW) (n : Nat) : RO := L_X6_takeDown_2 Θ 5000 l0 l1 0 ω n
theorem ok_J_X6_takeDown_38 (Θ : GP) (k_2 : Nat → Int32 → Int32 → OW → Nat → RO) (hk_2 : ∀ l0 l1 l2 ω n r, k_2 l0 l1 l2 ω n = some r → GR Θ yX6_takeDown cX6_takeDown 3 (none : Option Jvm.ClassFile.FieldType) 1 (0, 0) 2 [(0, .ref l0), (1, .int l1), (2, .int l2)] [] ω n r) (l0 : Nat) (l1 : Int32) (l2 : Int32) (ω : OW) (n : Nat) (r : Out) (h : J_X6_takeDown_38 Θ k_2 l0 l1 l2 ω n = some r) : GR Θ yX6_takeDown cX6_takeDown 3 (none : Option Jvm.ClassFile.FieldType) 1 (0, 0) 38 [(0, .ref l0), (1, .int l1), (2, .int l2)] [] ω n r := by
  unfold J_X6_takeDown_38 at h
  refine g_iinc (j := 2) (v := l2 + 1) (lv' := [(2, .int (l2 + 1)), (0, .ref l0), (1, .int l1)]) dX6_takeDown_38 rfl rfl (by decide) rfl ?_
  refine g_goto (tgt := 2) dX6_takeDown_41 (by decide) ?_
  refine G.lsub [1, 2, 0] rfl ?_
  exact hk_2 l0 l1 (l2 + 1) _ _ r h
theorem ok_B_X6_takeDown_2 (Θ : GP) (k_2 : Nat → Int32 → Int32 → OW → Nat → RO) (hk_2 : ∀ l0 l1 l2 ω n r, k_2 l0 l1 l2 ω n = some r → GR Θ yX6_takeDown cX6_takeDown 3 (none : Option Jvm.ClassFile.FieldType) 1 (0, 0) 2 [(0, .ref l0), (1, .int l1), (2, .int l2)] [] ω n r) (l0 : Nat) (l1 : Int32) (l2 : Int32) (ω : OW) (n : Nat) (r : Out) (h : B_X6_takeDown_2 Θ k_2 l0 l1 l2 ω n = some r) : GR Θ yX6_takeDown cX6_takeDown 3 (none : Option Jvm.ClassFile.FieldType) 1 (0, 0) 2 [(0, .ref l0), (1, .int l1), (2, .int l2)] [] ω n r := by
  unfold B_X6_takeDown_2 at h
  refine g_iload_n dX6_takeDown_2 rfl 2 rfl ?_
  refine g_bipush (v := 10) dX6_takeDown_3 (by decide) ?_
  refine g_icmp_ge (tgt := 44) dX6_takeDown_5 (by decide) (fun c1 => ?_) (fun c1 => ?_)
  · rw [if_pos c1] at h
    cases h
    exact g_vret rfl dX6_takeDown_44 rfl
  · rw [if_neg c1] at h
    refine g_aload_n dX6_takeDown_8 rfl 0 rfl ?_
    refine g_rA fl_X6_9 dX6_takeDown_9 h (fun a2 h => ?_)
    refine g_iload_n dX6_takeDown_12 rfl 2 rfl ?_
    refine g_lIi dX6_takeDown_13 h (fun x3 h => ?_)
    refine g_if_lt (tgt := 38) dX6_takeDown_14 (by decide) (fun c4 => ?_) (fun c4 => ?_)
    · rw [if_pos c4] at h
      exact ok_J_X6_takeDown_38 Θ k_2 hk_2 l0 l1 l2 _ _ r h
    · rw [if_neg c4] at h
      refine g_iload_n dX6_takeDown_17 rfl 1 rfl ?_
      refine g_aload_n dX6_takeDown_18 rfl 0 rfl ?_
      refine g_rA fl_X6_9 dX6_takeDown_19 h (fun a5 h => ?_)
      refine g_iload_n dX6_takeDown_22 rfl 2 rfl ?_
      refine g_lIi dX6_takeDown_23 h (fun x6 h => ?_)
      refine g_ishr dX6_takeDown_24 ?_
      refine g_iconst (v := 1) dX6_takeDown_25 (by decide) ?_
      refine g_iand dX6_takeDown_26 ?_
      refine g_iconst (v := 1) dX6_takeDown_27 (by decide) ?_
      refine g_icmp_ne (tgt := 38) dX6_takeDown_28 (by decide) (fun c7 => ?_) (fun c7 => ?_)
      · rw [if_neg c7] at h
        exact ok_J_X6_takeDown_38 Θ k_2 hk_2 l0 l1 l2 _ _ r h
      · rw [if_pos c7] at h
        refine g_aload_n dX6_takeDown_31 rfl 0 rfl ?_
        refine g_rA fl_X6_9 dX6_takeDown_32 h (fun a8 h => ?_)
        refine g_iload_n dX6_takeDown_35 rfl 2 rfl ?_
        refine g_iconst (v := (-1)) dX6_takeDown_36 (by decide) ?_
        refine g_sIi dX6_takeDown_37 h (fun ω h => ?_)
        exact ok_J_X6_takeDown_38 Θ k_2 hk_2 l0 l1 l2 _ _ r h
theorem ok_L_X6_takeDown_2 (Θ : GP) : ∀ (f : Nat) (l0 : Nat) (l1 : Int32) (l2 : Int32) (ω : OW) (n : Nat) (r : Out), L_X6_takeDown_2 Θ f l0 l1 l2 ω n = some r → GR Θ yX6_takeDown cX6_takeDown 3 (none : Option Jvm.ClassFile.FieldType) 1 (0, 0) 2 [(0, .ref l0), (1, .int l1), (2, .int l2)] [] ω n r := by
  intro f
  induction f with
  | zero =>
    intro l0 l1 l2 ω n r h
    unfold L_X6_takeDown_2 at h
    cases h
  | succ f ih =>
    intro l0 l1 l2 ω n r h
    unfold L_X6_takeDown_2 at h
    exact ok_B_X6_takeDown_2 Θ (L_X6_takeDown_2 Θ f) ih l0 l1 l2 ω n r h
theorem ok_X6_takeDown (Θ : GP) (l0 : Nat) (l1 : Int32) (ω : OW) (n : Nat) : Ok Θ 1 0 0 yX6_takeDown cX6_takeDown 3 (none : Option Jvm.ClassFile.FieldType) [.ref l0, .int l1] ω n (F_X6_takeDown Θ l0 l1 ω n) := by
  refine Ok.of (by decide +kernel) (Nat.le_of_ble_eq_true rfl) (fun r h => ?_)
  unfold F_X6_takeDown at h
  show GR Θ yX6_takeDown cX6_takeDown 3 (none : Option Jvm.ClassFile.FieldType) 1 (0, 0) 0 [(0, .ref l0), (1, .int l1)] [] ω n r
  refine g_iconst (v := 0) dX6_takeDown_0 (by decide) ?_
  refine g_istore_n (lv' := [(2, .int 0), (0, .ref l0), (1, .int l1)]) dX6_takeDown_1 rfl (by decide) rfl ?_
  refine G.lsub [1, 2, 0] rfl ?_
  exact ok_L_X6_takeDown_2 Θ 5000 l0 l1 0 _ _ r h
def F_X6_changeAbout (Θ : GP) (l0 : Nat) (l1 : Int32) (l2 : Int32) (ω : OW) (n : Nat) : RO := rA ω l0 6 1 (fun a1 => lI ω (gI Θ) a1 l1 (fun x2 => rA ω l0 6 1 (fun a3 => rA ω l0 6 1 (fun a4 => lI ω (gI Θ) a4 l2 (fun x5 => sI ω (gI Θ) a3 l1 x5 (fun ω => rA ω l0 6 1 (fun a6 => sI ω (gI Θ) a6 l2 x2 (fun ω => some (.inl (none, ω, n))))))))))
theorem ok_X6_changeAbout (Θ : GP) (l0 : Nat) (l1 : Int32) (l2 : Int32) (ω : OW) (n : Nat) : Ok Θ 1 0 0 yX6_changeAbout cX6_changeAbout 4 (none : Option Jvm.ClassFile.FieldType) [.ref l0, .int l1, .int l2] ω n (F_X6_changeAbout Θ l0 l1 l2 ω n) := by
  refine Ok.of (by decide +kernel) (Nat.le_of_ble_eq_true rfl) (fun r h => ?_)
  unfold F_X6_changeAbout at h
  show GR Θ yX6_changeAbout cX6_changeAbout 4 (none : Option Jvm.ClassFile.FieldType) 1 (0, 0) 0 [(0, .ref l0), (1, .int l1), (2, .int l2)] [] ω n r
  refine g_aload_n dX6_changeAbout_0 rfl 0 rfl ?_
  refine g_rA fl_X6_9 dX6_changeAbout_1 h (fun a1 h => ?_)
  refine g_iload_n dX6_changeAbout_4 rfl 1 rfl ?_
  refine g_lIi dX6_changeAbout_5 h (fun x2 h => ?_)
  refine g_istore_n (lv' := [(3, .int x2), (0, .ref l0), (1, .int l1), (2, .int l2)]) dX6_changeAbout_6 rfl (by decide) rfl ?_
  refine g_aload_n dX6_changeAbout_7 rfl 1 rfl ?_
  refine g_rA fl_X6_9 dX6_changeAbout_8 h (fun a3 h => ?_)
  refine g_iload_n dX6_changeAbout_11 rfl 2 rfl ?_
  refine g_aload_n dX6_changeAbout_12 rfl 1 rfl ?_
  refine g_rA fl_X6_9 dX6_changeAbout_13 h (fun a4 h => ?_)
  refine g_iload_n dX6_changeAbout_16 rfl 3 rfl ?_
  refine g_lIi dX6_changeAbout_17 h (fun x5 h => ?_)
  refine g_sIi dX6_changeAbout_18 h (fun ω h => ?_)
  refine g_aload_n dX6_changeAbout_19 rfl 1 rfl ?_
  refine g_rA fl_X6_9 dX6_changeAbout_20 h (fun a6 h => ?_)
  refine g_iload_n dX6_changeAbout_23 rfl 3 rfl ?_
  refine g_iload_n dX6_changeAbout_24 rfl 0 rfl ?_
  refine g_sIi dX6_changeAbout_25 h (fun ω h => ?_)
  cases h
  exact g_vret rfl dX6_changeAbout_26 rfl
def F_X6_boardStranger (Θ : GP) (l0 : Nat) (l1 : Int32) (l2 : Int32) (l3 : Int32) (ω : OW) (n : Nat) : RO := wF ω l0 6 3 (.int l1) (fun ω => wF ω l0 6 4 (.int l2) (fun ω => wF ω l0 6 5 (.int l3) (fun ω => some (.inl (none, ω, n)))))
theorem ok_X6_boardStranger (Θ : GP) (l0 : Nat) (l1 : Int32) (l2 : Int32) (l3 : Int32) (ω : OW) (n : Nat) : Ok Θ 1 0 0 yX6_boardStranger cX6_boardStranger 4 (none : Option Jvm.ClassFile.FieldType) [.ref l0, .int l1, .int l2, .int l3] ω n (F_X6_boardStranger Θ l0 l1 l2 l3 ω n) := by
  refine Ok.of (by decide +kernel) (Nat.le_of_ble_eq_true rfl) (fun r h => ?_)
  unfold F_X6_boardStranger at h
  show GR Θ yX6_boardStranger cX6_boardStranger 4 (none : Option Jvm.ClassFile.FieldType) 1 (0, 0) 0 [(0, .ref l0), (1, .int l1), (2, .int l2), (3, .int l3)] [] ω n r
  refine g_aload_n dX6_boardStranger_0 rfl 0 rfl ?_
  refine g_iload_n dX6_boardStranger_1 rfl 1 rfl ?_
  refine g_wF fl_X6_18 dX6_boardStranger_2 (rfl) rfl h (fun ω h => ?_)
  refine g_aload_n dX6_boardStranger_5 rfl 0 rfl ?_
  refine g_iload_n dX6_boardStranger_6 rfl 2 rfl ?_
  refine g_wF fl_X6_22 dX6_boardStranger_7 (rfl) rfl h (fun ω h => ?_)
  refine g_aload_n dX6_boardStranger_10 rfl 0 rfl ?_
  refine g_iload_n dX6_boardStranger_11 rfl 3 rfl ?_
  refine g_wF fl_X6_25 dX6_boardStranger_12 (rfl) rfl h (fun ω h => ?_)
  cases h
  exact g_vret rfl dX6_boardStranger_15 rfl
def F_X6_board (Θ : GP) (l0 : Nat) (l1 : Int32) (ω : OW) (n : Nat) : RO := rA ω l0 6 0 (fun a1 => rA ω a1 0 12 (fun a2 => lI ω (gI Θ) a2 l1 (fun x3 => rA ω l0 6 0 (fun a4 => rA ω a4 0 13 (fun a5 => lI ω (gI Θ) a5 l1 (fun x6 => rA ω l0 6 0 (fun a7 => rA ω a7 0 14 (fun a8 => lI ω (gI Θ) a8 l1 (fun x9 => cO ω l0 6 (kV (F_X6_boardStranger Θ l0 x3 x6 x9 ω n) (fun ω n => some (.inl (none, ω, n)))))))))))))
theorem ok_X6_board (Θ : GP) (l0 : Nat) (l1 : Int32) (ω : OW) (n : Nat) : Ok Θ 2 0 0 yX6_board cX6_board 2 (none : Option Jvm.ClassFile.FieldType) [.ref l0, .int l1] ω n (F_X6_board Θ l0 l1 ω n) := by
  refine Ok.of (by decide +kernel) (Nat.le_of_ble_eq_true rfl) (fun r h => ?_)
  unfold F_X6_board at h
  show GR Θ yX6_board cX6_board 2 (none : Option Jvm.ClassFile.FieldType) 2 (0, 0) 0 [(0, .ref l0), (1, .int l1)] [] ω n r
  refine g_aload_n dX6_board_0 rfl 0 rfl ?_
  refine g_aload_n dX6_board_1 rfl 0 rfl ?_
  refine g_rA fl_X6_58 dX6_board_2 h (fun a1 h => ?_)
  refine g_rA fl_X6_72 dX6_board_5 h (fun a2 h => ?_)
  refine g_iload_n dX6_board_8 rfl 1 rfl ?_
  refine g_lIi dX6_board_9 h (fun x3 h => ?_)
  refine g_aload_n dX6_board_10 rfl 0 rfl ?_
  refine g_rA fl_X6_58 dX6_board_11 h (fun a4 h => ?_)
  refine g_rA fl_X6_74 dX6_board_14 h (fun a5 h => ?_)
  refine g_iload_n dX6_board_17 rfl 1 rfl ?_
  refine g_lIi dX6_board_18 h (fun x6 h => ?_)
  refine g_aload_n dX6_board_19 rfl 0 rfl ?_
  refine g_rA fl_X6_58 dX6_board_20 h (fun a7 h => ?_)
  refine g_rA fl_X6_76 dX6_board_23 h (fun a8 h => ?_)
  refine g_iload_n dX6_board_26 rfl 1 rfl ?_
  refine g_lIi dX6_board_27 h (fun x9 h => ?_)
  refine g_cV (ci := 6) (As := [.int x3, .int x6, .int x9]) mv_X6_78 dX6_board_28 rfl (ok_X6_boardStranger Θ l0 x3 x6 x9 _ _) rfl rfl (Nat.le_of_ble_eq_true rfl) (by decide) (by decide) (by decide) h (fun ω n h => ?_)
  refine G.less (B' := (0, 0)) (by decide) (by decide) ?_
  cases h
  exact g_vret rfl dX6_board_31 rfl
def F_X6_drawJolt (Θ : GP) (l0 : Nat) (ω : OW) (n : Nat) : RO := rI ω l0 6 7 (fun x1 => wF ω l0 6 7 (.int ((1103515245 * x1) + 12345)) (fun ω => rI ω l0 6 7 (fun x2 => some (.inl (some (.int (((x2 >>> ((16 : Int32) &&& 31)) &&& 32767) - ((x2 >>> ((16 : Int32) &&& 31)) &&& 32767) / 3 * 3)), ω, n)))))
theorem ok_X6_drawJolt (Θ : GP) (l0 : Nat) (ω : OW) (n : Nat) : Ok Θ 1 0 0 yX6_drawJolt cX6_drawJolt 1 (some .int) [.ref l0] ω n (F_X6_drawJolt Θ l0 ω n) := by
  refine Ok.of (by decide +kernel) (Nat.le_of_ble_eq_true rfl) (fun r h => ?_)
  unfold F_X6_drawJolt at h
  show GR Θ yX6_drawJolt cX6_drawJolt 1 (some .int) 1 (0, 0) 0 [(0, .ref l0)] [] ω n r
  refine g_aload_n dX6_drawJolt_0 rfl 0 rfl ?_
  refine g_ldc (v := 1103515245) wd_704 dX6_drawJolt_1 ?_
  refine g_aload_n dX6_drawJolt_3 rfl 0 rfl ?_
  refine g_rI fl_X6_31 dX6_drawJolt_4 h (fun x1 h => ?_)
  refine g_imul dX6_drawJolt_7 ?_
  refine g_sipush (v := 12345) dX6_drawJolt_8 (by decide) ?_
  refine g_iadd dX6_drawJolt_11 ?_
  refine g_wF fl_X6_31 dX6_drawJolt_12 (rfl) rfl h (fun ω h => ?_)
  refine g_aload_n dX6_drawJolt_15 rfl 0 rfl ?_
  refine g_rI fl_X6_31 dX6_drawJolt_16 h (fun x2 h => ?_)
  refine g_bipush (v := 16) dX6_drawJolt_19 (by decide) ?_
  refine g_ishr dX6_drawJolt_21 ?_
  refine g_sipush (v := 32767) dX6_drawJolt_22 (by decide) ?_
  refine g_iand dX6_drawJolt_25 ?_
  refine g_iconst (v := 3) dX6_drawJolt_26 (by decide) ?_
  refine g_irem dX6_drawJolt_27 (by decide) ?_
  cases h
  exact g_iret rfl dX6_drawJolt_28 rfl
def J_X6_meet_107 (Θ : GP) (l0 : Nat) (ω : OW) (n : Nat) : RO := rA ω l0 6 14 (fun a1 => some (.inl (some (.ref a1), ω, n)))
def F_X6_meet (Θ : GP) (l0 : Nat) (l1 : Int32) (l2 : Int32) (ω : OW) (n : Nat) : RO := rA ω l0 6 1 (fun a2 => lI ω (gI Θ) a2 l1 (fun x3 => if x3 < 0 then (J_X6_meet_107 Θ l0 ω n) else (rA ω l0 6 14 (fun a5 => sI ω (gI Θ) a5 0 x3 (fun ω => rA ω l0 6 14 (fun a6 => sI ω (gI Θ) a6 1 l1 (fun ω => rA ω l0 6 14 (fun a7 => rA ω l0 6 0 (fun a8 => rA ω a8 0 8 (fun a9 => lI ω (gI Θ) a9 x3 (fun x10 => sI ω (gI Θ) a7 2 x10 (fun ω => rA ω l0 6 14 (fun a11 => rA ω l0 6 2 (fun a12 => lI ω (gI Θ) a12 x3 (fun x13 => sI ω (gI Θ) a11 3 x13 (fun ω => rA ω l0 6 14 (fun a14 => sI ω (gI Θ) a14 4 l2 (fun ω => rA ω l0 6 14 (fun a15 => rI ω l0 6 4 (fun x16 => sI ω (gI Θ) a15 5 x16 (fun ω => rA ω l0 6 14 (fun a17 => rI ω l0 6 5 (fun x18 => sI ω (gI Θ) a17 6 ((x18 >>> ((x3 : Int32) &&& 31)) &&& 1) (fun ω => rA ω l0 6 14 (fun a19 => rI ω l0 6 3 (fun x20 => rA ω l0 6 0 (fun a21 => rA ω a21 0 7 (fun a22 => lI ω (gI Θ) a22 x3 (fun x23 => sI ω (gI Θ) a19 7 ((x20 >>> ((x23 : Int32) &&& 31)) &&& 1) (fun ω => J_X6_meet_107 Θ l0 ω n))))))))))))))))))))))))))))))
theorem ok_J_X6_meet_107 (Θ : GP) (l0 : Nat) (ω : OW) (n : Nat) (r : Out) (h : J_X6_meet_107 Θ l0 ω n = some r) : GR Θ yX6_meet cX6_meet 4 (some (.array .int)) 1 (0, 0) 107 [(0, .ref l0)] [] ω n r := by
  unfold J_X6_meet_107 at h
  refine g_aload_n dX6_meet_107 rfl 0 rfl ?_
  refine g_rA fl_X6_55 dX6_meet_108 h (fun a1 h => ?_)
  cases h
  exact g_aret rfl (by first | exact Or.inl ⟨_, rfl⟩ | exact Or.inr ⟨_, rfl⟩) dX6_meet_111 rfl
theorem ok_X6_meet (Θ : GP) (l0 : Nat) (l1 : Int32) (l2 : Int32) (ω : OW) (n : Nat) : Ok Θ 1 0 0 yX6_meet cX6_meet 4 (some (.array .int)) [.ref l0, .int l1, .int l2] ω n (F_X6_meet Θ l0 l1 l2 ω n) := by
  refine Ok.of (by decide +kernel) (Nat.le_of_ble_eq_true rfl) (fun r h => ?_)
  unfold F_X6_meet at h
  show GR Θ yX6_meet cX6_meet 4 (some (.array .int)) 1 (0, 0) 0 [(0, .ref l0), (1, .int l1), (2, .int l2)] [] ω n r
  refine g_aload_n dX6_meet_0 rfl 0 rfl ?_
  refine g_rA fl_X6_9 dX6_meet_1 h (fun a2 h => ?_)
  refine g_iload_n dX6_meet_4 rfl 1 rfl ?_
  refine g_lIi dX6_meet_5 h (fun x3 h => ?_)
  refine g_istore_n (lv' := [(3, .int x3), (0, .ref l0), (1, .int l1), (2, .int l2)]) dX6_meet_6 rfl (by decide) rfl ?_
  refine g_iload_n dX6_meet_7 rfl 0 rfl ?_
  refine g_if_lt (tgt := 107) dX6_meet_8 (by decide) (fun c4 => ?_) (fun c4 => ?_)
  · rw [if_pos c4] at h
    refine G.lsub [1] rfl ?_
    exact ok_J_X6_meet_107 Θ l0 _ _ r h
  · rw [if_neg c4] at h
    refine g_aload_n dX6_meet_11 rfl 1 rfl ?_
    refine g_rA fl_X6_55 dX6_meet_12 h (fun a5 h => ?_)
    refine g_iconst (v := 0) dX6_meet_15 (by decide) ?_
    refine g_iload_n dX6_meet_16 rfl 0 rfl ?_
    refine g_sIi dX6_meet_17 h (fun ω h => ?_)
    refine g_aload_n dX6_meet_18 rfl 1 rfl ?_
    refine g_rA fl_X6_55 dX6_meet_19 h (fun a6 h => ?_)
    refine g_iconst (v := 1) dX6_meet_22 (by decide) ?_
    refine g_iload_n dX6_meet_23 rfl 2 rfl ?_
    refine g_sIi dX6_meet_24 h (fun ω h => ?_)
    refine g_aload_n dX6_meet_25 rfl 1 rfl ?_
    refine g_rA fl_X6_55 dX6_meet_26 h (fun a7 h => ?_)
    refine g_iconst (v := 2) dX6_meet_29 (by decide) ?_
    refine g_aload_n dX6_meet_30 rfl 1 rfl ?_
    refine g_rA fl_X6_58 dX6_meet_31 h (fun a8 h => ?_)
    refine g_rA fl_X6_130 dX6_meet_34 h (fun a9 h => ?_)
    refine g_iload_n dX6_meet_37 rfl 0 rfl ?_
    refine g_lIi dX6_meet_38 h (fun x10 h => ?_)
    refine g_sIi dX6_meet_39 h (fun ω h => ?_)
    refine g_aload_n dX6_meet_40 rfl 1 rfl ?_
    refine g_rA fl_X6_55 dX6_meet_41 h (fun a11 h => ?_)
    refine g_iconst (v := 3) dX6_meet_44 (by decide) ?_
    refine g_aload_n dX6_meet_45 rfl 1 rfl ?_
    refine g_rA fl_X6_15 dX6_meet_46 h (fun a12 h => ?_)
    refine g_iload_n dX6_meet_49 rfl 0 rfl ?_
    refine g_lIi dX6_meet_50 h (fun x13 h => ?_)
    refine g_sIi dX6_meet_51 h (fun ω h => ?_)
    refine g_aload_n dX6_meet_52 rfl 1 rfl ?_
    refine g_rA fl_X6_55 dX6_meet_53 h (fun a14 h => ?_)
    refine g_iconst (v := 4) dX6_meet_56 (by decide) ?_
    refine g_iload_n dX6_meet_57 rfl 3 rfl ?_
    refine g_sIi dX6_meet_58 h (fun ω h => ?_)
    refine g_aload_n dX6_meet_59 rfl 1 rfl ?_
    refine g_rA fl_X6_55 dX6_meet_60 h (fun a15 h => ?_)
    refine g_iconst (v := 5) dX6_meet_63 (by decide) ?_
    refine g_aload_n dX6_meet_64 rfl 1 rfl ?_
    refine g_rI fl_X6_22 dX6_meet_65 h (fun x16 h => ?_)
    refine g_sIi dX6_meet_68 h (fun ω h => ?_)
    refine g_aload_n dX6_meet_69 rfl 1 rfl ?_
    refine g_rA fl_X6_55 dX6_meet_70 h (fun a17 h => ?_)
    refine g_bipush (v := 6) dX6_meet_73 (by decide) ?_
    refine g_aload_n dX6_meet_75 rfl 1 rfl ?_
    refine g_rI fl_X6_25 dX6_meet_76 h (fun x18 h => ?_)
    refine g_iload_n dX6_meet_79 rfl 0 rfl ?_
    refine g_ishr dX6_meet_80 ?_
    refine g_iconst (v := 1) dX6_meet_81 (by decide) ?_
    refine g_iand dX6_meet_82 ?_
    refine g_sIi dX6_meet_83 h (fun ω h => ?_)
    refine g_aload_n dX6_meet_84 rfl 1 rfl ?_
    refine g_rA fl_X6_55 dX6_meet_85 h (fun a19 h => ?_)
    refine g_bipush (v := 7) dX6_meet_88 (by decide) ?_
    refine g_aload_n dX6_meet_90 rfl 1 rfl ?_
    refine g_rI fl_X6_18 dX6_meet_91 h (fun x20 h => ?_)
    refine g_aload_n dX6_meet_94 rfl 1 rfl ?_
    refine g_rA fl_X6_58 dX6_meet_95 h (fun a21 h => ?_)
    refine g_rA fl_X6_133 dX6_meet_98 h (fun a22 h => ?_)
    refine g_iload_n dX6_meet_101 rfl 0 rfl ?_
    refine g_lIi dX6_meet_102 h (fun x23 h => ?_)
    refine g_ishr dX6_meet_103 ?_
    refine g_iconst (v := 1) dX6_meet_104 (by decide) ?_
    refine g_iand dX6_meet_105 ?_
    refine g_sIi dX6_meet_106 h (fun ω h => ?_)
    refine G.lsub [1] rfl ?_
    exact ok_J_X6_meet_107 Θ l0 _ _ r h
def J_X6_screamsIn_158 (Θ : GP) (s0 : Int32) (ω : OW) (n : Nat) : RO := bz s0 (some (.inl (some (.int s0), ω, n)))
def J_X6_screamsIn_145 (Θ : GP) (l0 : Nat) (ω : OW) (n : Nat) : RO := rI ω l0 6 8 (fun x2 => if x2 = (-1) then (J_X6_screamsIn_158 Θ 0 ω n) else (J_X6_screamsIn_158 Θ 1 ω n))
def J_X6_screamsIn_112 (Θ : GP) (l0 : Nat) (l1 : Int32) (ω : OW) (n : Nat) : RO := rA ω l0 6 10 (fun a4 => rI ω l0 6 9 (fun x5 => sI ω (gI Θ) a4 l1 x5 (fun ω => rI ω l0 6 9 (fun x6 => rI ω l0 6 4 (fun x7 => if x6 ≤ x7 then (J_X6_screamsIn_145 Θ l0 ω n) else (rI ω l0 6 13 (fun x9 => if x9 = 0 then (wF ω l0 6 8 (.int l1) (fun ω => J_X6_screamsIn_145 Θ l0 ω n)) else (J_X6_screamsIn_145 Θ l0 ω n))))))))
def J_X6_screamsIn_107 (Θ : GP) (l0 : Nat) (l1 : Int32) (s0 : Int32) (s1 : Int32) (s2 : Int32) (s3 : Nat) (ω : OW) (n : Nat) : RO := wF ω s3 6 9 (.int (s2 + (s1 + s0))) (fun ω => J_X6_screamsIn_112 Θ l0 l1 ω n)
def J_X6_screamsIn_78 (Θ : GP) (l0 : Nat) (l1 : Int32) (s0 : Int32) (ω : OW) (n : Nat) : RO := rA ω l0 6 11 (fun a11 => sI ω (gI Θ) a11 l1 s0 (fun ω => rI ω l0 6 9 (fun x12 => rI ω l0 6 12 (fun x13 => if x13 = 0 then (J_X6_screamsIn_107 Θ l0 l1 1 s0 x12 l0 ω n) else (cO ω l0 6 (kI (F_X6_drawJolt Θ l0 ω n) (fun x15 ω n => J_X6_screamsIn_107 Θ l0 l1 x15 s0 x12 l0 ω n)))))))
def F_X6_screamsIn (Θ : GP) (l0 : Nat) (l1 : Int32) (ω : OW) (n : Nat) : RO := rI ω l0 6 8 (fun x16 => if x16 = (-1) then (rA ω l0 6 1 (fun a18 => lI ω (gI Θ) a18 l1 (fun x19 => if 0 ≤ x19 then (rA ω l0 6 1 (fun a21 => lI ω (gI Θ) a21 l1 (fun x22 => rI ω l0 6 6 (fun x23 => if x22 = x23 then (J_X6_screamsIn_78 Θ l0 l1 0 ω n) else (rA ω l0 6 0 (fun a25 => rA ω a25 0 17 (fun a26 => rI ω l0 6 9 (fun x27 => cO ω l0 6 (kA (F_X6_meet Θ l0 l1 x27 ω n) (fun a28 ω n => cO ω a26 2 (kI (F_X2_frightsBy Θ a26 a28 ω n) (fun x29 ω n => J_X6_screamsIn_78 Θ l0 l1 x29 ω n)))))))))))) else (rI ω l0 6 9 (fun x30 => rA ω l0 6 0 (fun a31 => rI ω a31 0 3 (fun x32 => wF ω l0 6 9 (.int (if 0 < (x30 - x32) then (x30 - x32) else 0)) (fun ω => J_X6_screamsIn_112 Θ l0 l1 ω n)))))))) else (some (.inl (some (.int 0), ω, n))))
theorem ok_J_X6_screamsIn_158 (Θ : GP) (s0 : Int32) (ω : OW) (n : Nat) (r : Out) (h : J_X6_screamsIn_158 Θ s0 ω n = some r) : GR Θ yX6_screamsIn cX6_screamsIn 3 (some .boolean) 3 (0, 0) 158 [] [.int s0] ω n r := by
  unfold J_X6_screamsIn_158 at h
  obtain ⟨z1, h⟩ := bz_inv h
  cases h
  exact g_zret rfl z1 dX6_screamsIn_158 rfl
theorem ok_J_X6_screamsIn_145 (Θ : GP) (l0 : Nat) (ω : OW) (n : Nat) (r : Out) (h : J_X6_screamsIn_145 Θ l0 ω n = some r) : GR Θ yX6_screamsIn cX6_screamsIn 3 (some .boolean) 3 (0, 0) 145 [(0, .ref l0)] [] ω n r := by
  unfold J_X6_screamsIn_145 at h
  refine g_aload_n dX6_screamsIn_145 rfl 0 rfl ?_
  refine g_rI fl_X6_34 dX6_screamsIn_146 h (fun x2 h => ?_)
  refine g_iconst (v := (-1)) dX6_screamsIn_149 (by decide) ?_
  refine g_icmp_eq (tgt := 157) dX6_screamsIn_150 (by decide) (fun c3 => ?_) (fun c3 => ?_)
  · rw [if_pos c3] at h
    refine g_iconst (v := 0) dX6_screamsIn_157 (by decide) ?_
    refine G.lsub [] rfl ?_
    exact ok_J_X6_screamsIn_158 Θ 0 _ _ r h
  · rw [if_neg c3] at h
    refine g_iconst (v := 1) dX6_screamsIn_153 (by decide) ?_
    refine g_goto (tgt := 158) dX6_screamsIn_154 (by decide) ?_
    refine G.lsub [] rfl ?_
    exact ok_J_X6_screamsIn_158 Θ 1 _ _ r h
theorem ok_J_X6_screamsIn_112 (Θ : GP) (l0 : Nat) (l1 : Int32) (ω : OW) (n : Nat) (r : Out) (h : J_X6_screamsIn_112 Θ l0 l1 ω n = some r) : GR Θ yX6_screamsIn cX6_screamsIn 3 (some .boolean) 3 (0, 0) 112 [(0, .ref l0), (1, .int l1)] [] ω n r := by
  unfold J_X6_screamsIn_112 at h
  refine g_aload_n dX6_screamsIn_112 rfl 0 rfl ?_
  refine g_rA fl_X6_40 dX6_screamsIn_113 h (fun a4 h => ?_)
  refine g_iload_n dX6_screamsIn_116 rfl 1 rfl ?_
  refine g_aload_n dX6_screamsIn_117 rfl 0 rfl ?_
  refine g_rI fl_X6_37 dX6_screamsIn_118 h (fun x5 h => ?_)
  refine g_sIi dX6_screamsIn_121 h (fun ω h => ?_)
  refine g_aload_n dX6_screamsIn_122 rfl 0 rfl ?_
  refine g_rI fl_X6_37 dX6_screamsIn_123 h (fun x6 h => ?_)
  refine g_aload_n dX6_screamsIn_126 rfl 0 rfl ?_
  refine g_rI fl_X6_22 dX6_screamsIn_127 h (fun x7 h => ?_)
  refine g_icmp_le (tgt := 145) dX6_screamsIn_130 (by decide) (fun c8 => ?_) (fun c8 => ?_)
  · rw [if_pos c8] at h
    refine G.lsub [0] rfl ?_
    exact ok_J_X6_screamsIn_145 Θ l0 _ _ r h
  · rw [if_neg c8] at h
    refine g_aload_n dX6_screamsIn_133 rfl 0 rfl ?_
    refine g_rI fl_X6_50 dX6_screamsIn_134 h (fun x9 h => ?_)
    refine g_if_ne (tgt := 145) dX6_screamsIn_137 (by decide) (fun c10 => ?_) (fun c10 => ?_)
    · rw [if_neg c10] at h
      refine G.lsub [0] rfl ?_
      exact ok_J_X6_screamsIn_145 Θ l0 _ _ r h
    · rw [if_pos c10] at h
      refine g_aload_n dX6_screamsIn_140 rfl 0 rfl ?_
      refine g_iload_n dX6_screamsIn_141 rfl 1 rfl ?_
      refine g_wF fl_X6_34 dX6_screamsIn_142 (rfl) rfl h (fun ω h => ?_)
      refine G.lsub [0] rfl ?_
      exact ok_J_X6_screamsIn_145 Θ l0 _ _ r h
theorem ok_J_X6_screamsIn_107 (Θ : GP) (l0 : Nat) (l1 : Int32) (s0 : Int32) (s1 : Int32) (s2 : Int32) (s3 : Nat) (ω : OW) (n : Nat) (r : Out) (h : J_X6_screamsIn_107 Θ l0 l1 s0 s1 s2 s3 ω n = some r) : GR Θ yX6_screamsIn cX6_screamsIn 3 (some .boolean) 3 (0, 0) 107 [(0, .ref l0), (1, .int l1)] [.int s0, .int s1, .int s2, .ref s3] ω n r := by
  unfold J_X6_screamsIn_107 at h
  refine g_iadd dX6_screamsIn_107 ?_
  refine g_iadd dX6_screamsIn_108 ?_
  refine g_wF fl_X6_37 dX6_screamsIn_109 (rfl) rfl h (fun ω h => ?_)
  exact ok_J_X6_screamsIn_112 Θ l0 l1 _ _ r h
theorem ok_J_X6_screamsIn_78 (Θ : GP) (l0 : Nat) (l1 : Int32) (s0 : Int32) (ω : OW) (n : Nat) (r : Out) (h : J_X6_screamsIn_78 Θ l0 l1 s0 ω n = some r) : GR Θ yX6_screamsIn cX6_screamsIn 3 (some .boolean) 3 (0, 0) 78 [(0, .ref l0), (1, .int l1)] [.int s0] ω n r := by
  unfold J_X6_screamsIn_78 at h
  refine g_istore_n (lv' := [(2, .int s0), (0, .ref l0), (1, .int l1)]) dX6_screamsIn_78 rfl (by decide) rfl ?_
  refine g_aload_n dX6_screamsIn_79 rfl 1 rfl ?_
  refine g_rA fl_X6_43 dX6_screamsIn_80 h (fun a11 h => ?_)
  refine g_iload_n dX6_screamsIn_83 rfl 2 rfl ?_
  refine g_iload_n dX6_screamsIn_84 rfl 0 rfl ?_
  refine g_sIi dX6_screamsIn_85 h (fun ω h => ?_)
  refine g_aload_n dX6_screamsIn_86 rfl 1 rfl ?_
  refine g_dup dX6_screamsIn_87 rfl ?_
  refine g_rI fl_X6_37 dX6_screamsIn_88 h (fun x12 h => ?_)
  refine g_iload_n dX6_screamsIn_91 rfl 0 rfl ?_
  refine g_aload_n dX6_screamsIn_92 rfl 1 rfl ?_
  refine g_rI fl_X6_46 dX6_screamsIn_93 h (fun x13 h => ?_)
  refine g_if_eq (tgt := 106) dX6_screamsIn_96 (by decide) (fun c14 => ?_) (fun c14 => ?_)
  · rw [if_pos c14] at h
    refine g_iconst (v := 1) dX6_screamsIn_106 (by decide) ?_
    refine G.lsub [1, 2] rfl ?_
    exact ok_J_X6_screamsIn_107 Θ l0 l1 1 s0 x12 l0 _ _ r h
  · rw [if_neg c14] at h
    refine g_aload_n dX6_screamsIn_99 rfl 1 rfl ?_
    refine g_cI (ci := 6) (As := []) mv_X6_120 dX6_screamsIn_100 rfl (ok_X6_drawJolt Θ l0 _ _) rfl rfl (Nat.le_of_ble_eq_true rfl) (by decide) (by decide) (by decide) h (fun x15 ω n h => ?_)
    refine G.less (B' := (0, 0)) (by decide) (by decide) ?_
    refine g_goto (tgt := 107) dX6_screamsIn_103 (by decide) ?_
    refine G.lsub [1, 2] rfl ?_
    exact ok_J_X6_screamsIn_107 Θ l0 l1 x15 s0 x12 l0 _ _ r h
theorem ok_X6_screamsIn (Θ : GP) (l0 : Nat) (l1 : Int32) (ω : OW) (n : Nat) : Ok Θ 3 0 0 yX6_screamsIn cX6_screamsIn 3 (some .boolean) [.ref l0, .int l1] ω n (F_X6_screamsIn Θ l0 l1 ω n) := by
  refine Ok.of (by decide +kernel) (Nat.le_of_ble_eq_true rfl) (fun r h => ?_)
  unfold F_X6_screamsIn at h
  show GR Θ yX6_screamsIn cX6_screamsIn 3 (some .boolean) 3 (0, 0) 0 [(0, .ref l0), (1, .int l1)] [] ω n r
  refine g_aload_n dX6_screamsIn_0 rfl 0 rfl ?_
  refine g_rI fl_X6_34 dX6_screamsIn_1 h (fun x16 h => ?_)
  refine g_iconst (v := (-1)) dX6_screamsIn_4 (by decide) ?_
  refine g_icmp_eq (tgt := 10) dX6_screamsIn_5 (by decide) (fun c17 => ?_) (fun c17 => ?_)
  · rw [if_pos c17] at h
    refine g_aload_n dX6_screamsIn_10 rfl 0 rfl ?_
    refine g_rA fl_X6_9 dX6_screamsIn_11 h (fun a18 h => ?_)
    refine g_iload_n dX6_screamsIn_14 rfl 1 rfl ?_
    refine g_lIi dX6_screamsIn_15 h (fun x19 h => ?_)
    refine g_if_ge (tgt := 42) dX6_screamsIn_16 (by decide) (fun c20 => ?_) (fun c20 => ?_)
    · rw [if_pos c20] at h
      refine g_aload_n dX6_screamsIn_42 rfl 0 rfl ?_
      refine g_rA fl_X6_9 dX6_screamsIn_43 h (fun a21 h => ?_)
      refine g_iload_n dX6_screamsIn_46 rfl 1 rfl ?_
      refine g_lIi dX6_screamsIn_47 h (fun x22 h => ?_)
      refine g_aload_n dX6_screamsIn_48 rfl 0 rfl ?_
      refine g_rI fl_X6_28 dX6_screamsIn_49 h (fun x23 h => ?_)
      refine g_icmp_ne (tgt := 59) dX6_screamsIn_52 (by decide) (fun c24 => ?_) (fun c24 => ?_)
      · rw [if_neg c24] at h
        refine g_aload_n dX6_screamsIn_59 rfl 0 rfl ?_
        refine g_rA fl_X6_58 dX6_screamsIn_60 h (fun a25 h => ?_)
        refine g_rA fl_X6_108 dX6_screamsIn_63 h (fun a26 h => ?_)
        refine g_aload_n dX6_screamsIn_66 rfl 0 rfl ?_
        refine g_iload_n dX6_screamsIn_67 rfl 1 rfl ?_
        refine g_aload_n dX6_screamsIn_68 rfl 0 rfl ?_
        refine g_rI fl_X6_37 dX6_screamsIn_69 h (fun x27 h => ?_)
        refine g_cA (ci := 6) (As := [.int l1, .int x27]) mv_X6_112 dX6_screamsIn_72 rfl (ok_X6_meet Θ l0 l1 x27 _ _) rfl rfl (Nat.le_of_ble_eq_true rfl) (by decide) (by decide) (by decide) h (fun a28 ω n h => ?_)
        refine G.less (B' := (0, 0)) (by decide) (by decide) ?_
        refine g_cI (ci := 2) (As := [.ref a28]) mv_X6_116 dX6_screamsIn_75 rfl (ok_X2_frightsBy Θ a26 a28 _ _) rfl rfl (Nat.le_of_ble_eq_true rfl) (by decide) (by decide) (by decide) h (fun x29 ω n h => ?_)
        refine G.less (B' := (0, 0)) (by decide) (by decide) ?_
        exact ok_J_X6_screamsIn_78 Θ l0 l1 x29 _ _ r h
      · rw [if_pos c24] at h
        refine g_iconst (v := 0) dX6_screamsIn_55 (by decide) ?_
        refine g_goto (tgt := 78) dX6_screamsIn_56 (by decide) ?_
        exact ok_J_X6_screamsIn_78 Θ l0 l1 0 _ _ r h
    · rw [if_neg c20] at h
      refine g_aload_n dX6_screamsIn_19 rfl 0 rfl ?_
      refine g_iconst (v := 0) dX6_screamsIn_20 (by decide) ?_
      refine g_aload_n dX6_screamsIn_21 rfl 0 rfl ?_
      refine g_rI fl_X6_37 dX6_screamsIn_22 h (fun x30 h => ?_)
      refine g_aload_n dX6_screamsIn_25 rfl 0 rfl ?_
      refine g_rA fl_X6_58 dX6_screamsIn_26 h (fun a31 h => ?_)
      refine g_rI fl_X6_99 dX6_screamsIn_29 h (fun x32 h => ?_)
      refine g_isub dX6_screamsIn_32 ?_
      refine g_max wd_697 wd_610 wd_135 wd_611 dX6_screamsIn_33 (by decide) (Nat.le_of_ble_eq_true rfl) ?_
      refine g_wF fl_X6_37 dX6_screamsIn_36 (rfl) rfl h (fun ω h => ?_)
      refine g_goto (tgt := 112) dX6_screamsIn_39 (by decide) ?_
      exact ok_J_X6_screamsIn_112 Θ l0 l1 _ _ r h
  · rw [if_neg c17] at h
    refine g_iconst (v := 0) dX6_screamsIn_8 (by decide) ?_
    cases h
    exact g_zret rfl rfl dX6_screamsIn_9 rfl
def F_X6_start (Θ : GP) (l0 : Nat) (ω : OW) (n : Nat) : RO := wF ω l0 6 8 (.int (-1)) (fun ω => wF ω l0 6 9 (.int 0) (fun ω => wF ω l0 6 12 (.int 0) (fun ω => wF ω l0 6 13 (.int 0) (fun ω => rA ω l0 6 10 (fun a1 => kV (F_J7_fill_53178 Θ a1 (-1) ω n) (fun ω n => rA ω l0 6 11 (fun a3 => kV (F_J7_fill_53178 Θ a3 0 ω n) (fun ω n => some (.inl (none, ω, n))))))))))
theorem ok_X6_start (Θ : GP) (l0 : Nat) (ω : OW) (n : Nat) : Ok Θ 2 0 0 yX6_start cX6_start 1 (none : Option Jvm.ClassFile.FieldType) [.ref l0] ω n (F_X6_start Θ l0 ω n) := by
  refine Ok.of (by decide +kernel) (Nat.le_of_ble_eq_true rfl) (fun r h => ?_)
  unfold F_X6_start at h
  show GR Θ yX6_start cX6_start 1 (none : Option Jvm.ClassFile.FieldType) 2 (0, 0) 0 [(0, .ref l0)] [] ω n r
  refine g_aload_n dX6_start_0 rfl 0 rfl ?_
  refine g_iconst (v := (-1)) dX6_start_1 (by decide) ?_
  refine g_wF fl_X6_34 dX6_start_2 (rfl) rfl h (fun ω h => ?_)
  refine g_aload_n dX6_start_5 rfl 0 rfl ?_
  refine g_iconst (v := 0) dX6_start_6 (by decide) ?_
  refine g_wF fl_X6_37 dX6_start_7 (rfl) rfl h (fun ω h => ?_)
  refine g_aload_n dX6_start_10 rfl 0 rfl ?_
  refine g_iconst (v := 0) dX6_start_11 (by decide) ?_
  refine g_wF fl_X6_46 dX6_start_12 (rfl) rfl h (fun ω h => ?_)
  refine g_aload_n dX6_start_15 rfl 0 rfl ?_
  refine g_iconst (v := 0) dX6_start_16 (by decide) ?_
  refine g_wF fl_X6_50 dX6_start_17 (rfl) rfl h (fun ω h => ?_)
  refine g_aload_n dX6_start_20 rfl 0 rfl ?_
  refine g_rA fl_X6_40 dX6_start_21 h (fun a1 h => ?_)
  refine g_iconst (v := (-1)) dX6_start_24 (by decide) ?_
  refine g_sV (As := [.ref a1, .int (-1)]) ms_X6_93 dX6_start_25 (ok_J7_fill_53178 Θ a1 (-1) _ _) rfl rfl (Nat.le_of_ble_eq_true rfl) (by decide) (by decide) (by decide) h (fun ω n h => ?_)
  refine G.less (B' := (0, 0)) (by decide) (by decide) ?_
  refine g_aload_n dX6_start_28 rfl 0 rfl ?_
  refine g_rA fl_X6_43 dX6_start_29 h (fun a3 h => ?_)
  refine g_iconst (v := 0) dX6_start_32 (by decide) ?_
  refine g_sV (As := [.ref a3, .int 0]) ms_X6_93 dX6_start_33 (ok_J7_fill_53178 Θ a3 0 _ _) rfl rfl (Nat.le_of_ble_eq_true rfl) (by decide) (by decide) (by decide) h (fun ω n h => ?_)
  refine G.less (B' := (0, 0)) (by decide) (by decide) ?_
  cases h
  exact g_vret rfl dX6_start_36 rfl
def J_X6_go_42 (Θ : GP) (ω : OW) (n : Nat) : RO := some (.inl (none, ω, n))
def B_X6_go_16 (Θ : GP) (k_16 : Nat → Int32 → OW → Nat → RO) (l0 : Nat) (l3 : Int32) (ω : OW) (n : Nat) : RO := if 10 ≤ l3 then (J_X6_go_42 Θ ω n) else (rI ω l0 6 8 (fun x2 => if x2 = (-1) then (cO ω l0 6 (kI (F_X6_screamsIn Θ l0 l3 ω n) (fun x4 ω n => k_16 l0 (l3 + 1) ω n))) else (J_X6_go_42 Θ ω n)))
def L_X6_go_16 (Θ : GP) : Nat → Nat → Int32 → OW → Nat → RO
  | 0, _, _, _, _ => none
  | f + 1, l0, l3, ω, n => B_X6_go_16 Θ (L_X6_go_16 Θ f) l0 l3 ω n
def F_X6_go (Θ : GP) (l0 : Nat) (l1 : Int32) (l2 : Int32) (ω : OW) (n : Nat) : RO := cO ω l0 6 (kV (F_X6_start Θ l0 ω n) (fun ω n => bz l1 (wF ω l0 6 12 (.int l1) (fun ω => bz l2 (wF ω l0 6 13 (.int l2) (fun ω => L_X6_go_16 Θ 5000 l0 0 ω n))))))
theorem ok_J_X6_go_42 (Θ : GP) (ω : OW) (n : Nat) (r : Out) (h : J_X6_go_42 Θ ω n = some r) : GR Θ yX6_go cX6_go 4 (none : Option Jvm.ClassFile.FieldType) 4 (0, 0) 42 [] [] ω n r := by
  unfold J_X6_go_42 at h
  cases h
  exact g_vret rfl dX6_go_42 rfl
theorem ok_B_X6_go_16 (Θ : GP) (k_16 : Nat → Int32 → OW → Nat → RO) (hk_16 : ∀ l0 l3 ω n r, k_16 l0 l3 ω n = some r → GR Θ yX6_go cX6_go 4 (none : Option Jvm.ClassFile.FieldType) 4 (0, 0) 16 [(0, .ref l0), (3, .int l3)] [] ω n r) (l0 : Nat) (l3 : Int32) (ω : OW) (n : Nat) (r : Out) (h : B_X6_go_16 Θ k_16 l0 l3 ω n = some r) : GR Θ yX6_go cX6_go 4 (none : Option Jvm.ClassFile.FieldType) 4 (0, 0) 16 [(0, .ref l0), (3, .int l3)] [] ω n r := by
  unfold B_X6_go_16 at h
  refine g_iload_n dX6_go_16 rfl 1 rfl ?_
  refine g_bipush (v := 10) dX6_go_17 (by decide) ?_
  refine g_icmp_ge (tgt := 42) dX6_go_19 (by decide) (fun c1 => ?_) (fun c1 => ?_)
  · rw [if_pos c1] at h
    refine G.lsub [] rfl ?_
    exact ok_J_X6_go_42 Θ _ _ r h
  · rw [if_neg c1] at h
    refine g_aload_n dX6_go_22 rfl 0 rfl ?_
    refine g_rI fl_X6_34 dX6_go_23 h (fun x2 h => ?_)
    refine g_iconst (v := (-1)) dX6_go_26 (by decide) ?_
    refine g_icmp_ne (tgt := 42) dX6_go_27 (by decide) (fun c3 => ?_) (fun c3 => ?_)
    · rw [if_neg c3] at h
      refine G.lsub [] rfl ?_
      exact ok_J_X6_go_42 Θ _ _ r h
    · rw [if_pos c3] at h
      refine g_aload_n dX6_go_30 rfl 0 rfl ?_
      refine g_iload_n dX6_go_31 rfl 1 rfl ?_
      refine g_cI (ci := 6) (As := [.int l3]) mv_X6_89 dX6_go_32 rfl (ok_X6_screamsIn Θ l0 l3 _ _) rfl rfl (Nat.le_of_ble_eq_true rfl) (by decide) (by decide) (by decide) h (fun x4 ω n h => ?_)
      refine G.less (B' := (0, 0)) (by decide) (by decide) ?_
      refine g_pop dX6_go_35 rfl ?_
      refine g_iinc (j := 1) (v := l3 + 1) (lv' := [(3, .int (l3 + 1)), (0, .ref l0)]) dX6_go_36 rfl rfl (by decide) rfl ?_
      refine g_goto (tgt := 16) dX6_go_39 (by decide) ?_
      refine G.lsub [1, 0] rfl ?_
      exact hk_16 l0 (l3 + 1) _ _ r h
theorem ok_L_X6_go_16 (Θ : GP) : ∀ (f : Nat) (l0 : Nat) (l3 : Int32) (ω : OW) (n : Nat) (r : Out), L_X6_go_16 Θ f l0 l3 ω n = some r → GR Θ yX6_go cX6_go 4 (none : Option Jvm.ClassFile.FieldType) 4 (0, 0) 16 [(0, .ref l0), (3, .int l3)] [] ω n r := by
  intro f
  induction f with
  | zero =>
    intro l0 l3 ω n r h
    unfold L_X6_go_16 at h
    cases h
  | succ f ih =>
    intro l0 l3 ω n r h
    unfold L_X6_go_16 at h
    exact ok_B_X6_go_16 Θ (L_X6_go_16 Θ f) ih l0 l3 ω n r h
theorem ok_X6_go (Θ : GP) (l0 : Nat) (l1 : Int32) (l2 : Int32) (ω : OW) (n : Nat) : Ok Θ 4 0 0 yX6_go cX6_go 4 (none : Option Jvm.ClassFile.FieldType) [.ref l0, .int l1, .int l2] ω n (F_X6_go Θ l0 l1 l2 ω n) := by
  refine Ok.of (by decide +kernel) (Nat.le_of_ble_eq_true rfl) (fun r h => ?_)
  unfold F_X6_go at h
  show GR Θ yX6_go cX6_go 4 (none : Option Jvm.ClassFile.FieldType) 4 (0, 0) 0 [(0, .ref l0), (1, .int l1), (2, .int l2)] [] ω n r
  refine g_aload_n dX6_go_0 rfl 0 rfl ?_
  refine g_cV (ci := 6) (As := []) mv_X6_86 dX6_go_1 rfl (ok_X6_start Θ l0 _ _) rfl rfl (Nat.le_of_ble_eq_true rfl) (by decide) (by decide) (by decide) h (fun ω n h => ?_)
  refine G.less (B' := (0, 0)) (by decide) (by decide) ?_
  refine g_aload_n dX6_go_4 rfl 0 rfl ?_
  refine g_iload_n dX6_go_5 rfl 1 rfl ?_
  obtain ⟨z6, z6f, h⟩ := bz_invF h
  refine g_wF fl_X6_46 dX6_go_6 (z6) z6f h (fun ω h => ?_)
  refine g_aload_n dX6_go_9 rfl 0 rfl ?_
  refine g_iload_n dX6_go_10 rfl 2 rfl ?_
  obtain ⟨z7, z7f, h⟩ := bz_invF h
  refine g_wF fl_X6_50 dX6_go_11 (z7) z7f h (fun ω h => ?_)
  refine g_iconst (v := 0) dX6_go_14 (by decide) ?_
  refine g_istore_n (lv' := [(3, .int 0), (0, .ref l0), (1, .int l1), (2, .int l2)]) dX6_go_15 rfl (by decide) rfl ?_
  refine G.lsub [1, 0] rfl ?_
  exact ok_L_X6_go_16 Θ 5000 l0 0 _ _ r h
def F_X6_straightOn (Θ : GP) (l0 : Nat) (ω : OW) (n : Nat) : RO := cO ω l0 6 (kV (F_X6_go Θ l0 0 0 ω n) (fun ω n => some (.inl (none, ω, n))))
theorem ok_X6_straightOn (Θ : GP) (l0 : Nat) (ω : OW) (n : Nat) : Ok Θ 5 0 0 yX6_straightOn cX6_straightOn 1 (none : Option Jvm.ClassFile.FieldType) [.ref l0] ω n (F_X6_straightOn Θ l0 ω n) := by
  refine Ok.of (by decide +kernel) (Nat.le_of_ble_eq_true rfl) (fun r h => ?_)
  unfold F_X6_straightOn at h
  show GR Θ yX6_straightOn cX6_straightOn 1 (none : Option Jvm.ClassFile.FieldType) 5 (0, 0) 0 [(0, .ref l0)] [] ω n r
  refine g_aload_n dX6_straightOn_0 rfl 0 rfl ?_
  refine g_iconst (v := 0) dX6_straightOn_1 (by decide) ?_
  refine g_iconst (v := 0) dX6_straightOn_2 (by decide) ?_
  refine g_cV (ci := 6) (As := [.int 0, .int 0]) mv_X6_82 dX6_straightOn_3 rfl (ok_X6_go Θ l0 0 0 _ _) rfl rfl (Nat.le_of_ble_eq_true rfl) (by decide) (by decide) (by decide) h (fun ω n h => ?_)
  refine G.less (B' := (0, 0)) (by decide) (by decide) ?_
  cases h
  exact g_vret rfl dX6_straightOn_6 rfl
def F_X6_byDraws (Θ : GP) (l0 : Nat) (ω : OW) (n : Nat) : RO := cO ω l0 6 (kV (F_X6_go Θ l0 1 0 ω n) (fun ω n => some (.inl (none, ω, n))))
theorem ok_X6_byDraws (Θ : GP) (l0 : Nat) (ω : OW) (n : Nat) : Ok Θ 5 0 0 yX6_byDraws cX6_byDraws 1 (none : Option Jvm.ClassFile.FieldType) [.ref l0] ω n (F_X6_byDraws Θ l0 ω n) := by
  refine Ok.of (by decide +kernel) (Nat.le_of_ble_eq_true rfl) (fun r h => ?_)
  unfold F_X6_byDraws at h
  show GR Θ yX6_byDraws cX6_byDraws 1 (none : Option Jvm.ClassFile.FieldType) 5 (0, 0) 0 [(0, .ref l0)] [] ω n r
  refine g_aload_n dX6_byDraws_0 rfl 0 rfl ?_
  refine g_iconst (v := 1) dX6_byDraws_1 (by decide) ?_
  refine g_iconst (v := 0) dX6_byDraws_2 (by decide) ?_
  refine g_cV (ci := 6) (As := [.int 1, .int 0]) mv_X6_82 dX6_byDraws_3 rfl (ok_X6_go Θ l0 1 0 _ _) rfl rfl (Nat.le_of_ble_eq_true rfl) (by decide) (by decide) (by decide) h (fun ω n h => ?_)
  refine G.less (B' := (0, 0)) (by decide) (by decide) ?_
  cases h
  exact g_vret rfl dX6_byDraws_6 rfl
def F_X6_toTheEnd (Θ : GP) (l0 : Nat) (ω : OW) (n : Nat) : RO := cO ω l0 6 (kV (F_X6_go Θ l0 0 1 ω n) (fun ω n => some (.inl (none, ω, n))))
theorem ok_X6_toTheEnd (Θ : GP) (l0 : Nat) (ω : OW) (n : Nat) : Ok Θ 5 0 0 yX6_toTheEnd cX6_toTheEnd 1 (none : Option Jvm.ClassFile.FieldType) [.ref l0] ω n (F_X6_toTheEnd Θ l0 ω n) := by
  refine Ok.of (by decide +kernel) (Nat.le_of_ble_eq_true rfl) (fun r h => ?_)
  unfold F_X6_toTheEnd at h
  show GR Θ yX6_toTheEnd cX6_toTheEnd 1 (none : Option Jvm.ClassFile.FieldType) 5 (0, 0) 0 [(0, .ref l0)] [] ω n r
  refine g_aload_n dX6_toTheEnd_0 rfl 0 rfl ?_
  refine g_iconst (v := 0) dX6_toTheEnd_1 (by decide) ?_
  refine g_iconst (v := 1) dX6_toTheEnd_2 (by decide) ?_
  refine g_cV (ci := 6) (As := [.int 0, .int 1]) mv_X6_82 dX6_toTheEnd_3 rfl (ok_X6_go Θ l0 0 1 _ _) rfl rfl (Nat.le_of_ble_eq_true rfl) (by decide) (by decide) (by decide) h (fun ω n h => ?_)
  refine G.less (B' := (0, 0)) (by decide) (by decide) ?_
  cases h
  exact g_vret rfl dX6_toTheEnd_6 rfl
def J_X6_hear_34 (Θ : GP) (ω : OW) (n : Nat) : RO := some (.inl (none, ω, n))
def F_X6_hear (Θ : GP) (l0 : Nat) (l1 : Int32) (l2 : Int32) (ω : OW) (n : Nat) : RO := rI ω l0 6 8 (fun x1 => if x1 = (-1) then (rI ω l0 6 9 (fun x3 => wF ω l0 6 9 (.int (x3 + l2)) (fun ω => rI ω l0 6 9 (fun x4 => rI ω l0 6 4 (fun x5 => if x4 ≤ x5 then (J_X6_hear_34 Θ ω n) else (wF ω l0 6 8 (.int l1) (fun ω => J_X6_hear_34 Θ ω n))))))) else (J_X6_hear_34 Θ ω n))
theorem ok_J_X6_hear_34 (Θ : GP) (ω : OW) (n : Nat) (r : Out) (h : J_X6_hear_34 Θ ω n = some r) : GR Θ yX6_hear cX6_hear 3 (none : Option Jvm.ClassFile.FieldType) 1 (0, 0) 34 [] [] ω n r := by
  unfold J_X6_hear_34 at h
  cases h
  exact g_vret rfl dX6_hear_34 rfl
theorem ok_X6_hear (Θ : GP) (l0 : Nat) (l1 : Int32) (l2 : Int32) (ω : OW) (n : Nat) : Ok Θ 1 0 0 yX6_hear cX6_hear 3 (none : Option Jvm.ClassFile.FieldType) [.ref l0, .int l1, .int l2] ω n (F_X6_hear Θ l0 l1 l2 ω n) := by
  refine Ok.of (by decide +kernel) (Nat.le_of_ble_eq_true rfl) (fun r h => ?_)
  unfold F_X6_hear at h
  show GR Θ yX6_hear cX6_hear 3 (none : Option Jvm.ClassFile.FieldType) 1 (0, 0) 0 [(0, .ref l0), (1, .int l1), (2, .int l2)] [] ω n r
  refine g_aload_n dX6_hear_0 rfl 0 rfl ?_
  refine g_rI fl_X6_34 dX6_hear_1 h (fun x1 h => ?_)
  refine g_iconst (v := (-1)) dX6_hear_4 (by decide) ?_
  refine g_icmp_ne (tgt := 34) dX6_hear_5 (by decide) (fun c2 => ?_) (fun c2 => ?_)
  · rw [if_neg c2] at h
    refine G.lsub [] rfl ?_
    exact ok_J_X6_hear_34 Θ _ _ r h
  · rw [if_pos c2] at h
    refine g_aload_n dX6_hear_8 rfl 0 rfl ?_
    refine g_dup dX6_hear_9 rfl ?_
    refine g_rI fl_X6_37 dX6_hear_10 h (fun x3 h => ?_)
    refine g_iload_n dX6_hear_13 rfl 2 rfl ?_
    refine g_iadd dX6_hear_14 ?_
    refine g_wF fl_X6_37 dX6_hear_15 (rfl) rfl h (fun ω h => ?_)
    refine g_aload_n dX6_hear_18 rfl 0 rfl ?_
    refine g_rI fl_X6_37 dX6_hear_19 h (fun x4 h => ?_)
    refine g_aload_n dX6_hear_22 rfl 0 rfl ?_
    refine g_rI fl_X6_22 dX6_hear_23 h (fun x5 h => ?_)
    refine g_icmp_le (tgt := 34) dX6_hear_26 (by decide) (fun c6 => ?_) (fun c6 => ?_)
    · rw [if_pos c6] at h
      refine G.lsub [] rfl ?_
      exact ok_J_X6_hear_34 Θ _ _ r h
    · rw [if_neg c6] at h
      refine g_aload_n dX6_hear_29 rfl 0 rfl ?_
      refine g_iload_n dX6_hear_30 rfl 1 rfl ?_
      refine g_wF fl_X6_34 dX6_hear_31 (rfl) rfl h (fun ω h => ?_)
      refine G.lsub [] rfl ?_
      exact ok_J_X6_hear_34 Θ _ _ r h
def J_X6_wearOn_136 (Θ : GP) (ω : OW) (n : Nat) : RO := some (.inl (none, ω, n))
def J_X6_wearOn_126 (Θ : GP) (k_84 : Nat → Int32 → OW → Nat → RO) (l0 : Nat) (l2 : Int32) (s0 : Int32) (s1 : Int32) (s2 : Nat) (ω : OW) (n : Nat) : RO := wF ω s2 6 5 (.int (s1 ||| s0)) (fun ω => k_84 l0 (l2 + 1) ω n)
def B_X6_wearOn_84 (Θ : GP) (k_84 : Nat → Int32 → OW → Nat → RO) (l0 : Nat) (l2 : Int32) (ω : OW) (n : Nat) : RO := if 10 ≤ l2 then (J_X6_wearOn_136 Θ ω n) else (rA ω l0 6 10 (fun a2 => lI ω (gI Θ) a2 l2 (fun x3 => if x3 = (-1) then (J_X6_wearOn_136 Θ ω n) else (rI ω l0 6 5 (fun x5 => rA ω l0 6 1 (fun a6 => lI ω (gI Θ) a6 l2 (fun x7 => if x7 < 0 then (J_X6_wearOn_126 Θ k_84 l0 l2 0 x5 l0 ω n) else (rA ω l0 6 1 (fun a9 => lI ω (gI Θ) a9 l2 (fun x10 => J_X6_wearOn_126 Θ k_84 l0 l2 (1 <<< ((x10 : Int32) &&& 31)) x5 l0 ω n))))))))))
def L_X6_wearOn_84 (Θ : GP) : Nat → Nat → Int32 → OW → Nat → RO
  | 0, _, _, _, _ => none
  | f + 1, l0, l2, ω, n => B_X6_wearOn_84 Θ (L_X6_wearOn_84 Θ f) l0 l2 ω n
def J_X6_wearOn_82 (Θ : GP) (l0 : Nat) (ω : OW) (n : Nat) : RO := L_X6_wearOn_84 Θ 5000 l0 0 ω n
def J_X6_wearOn_69 (Θ : GP) (k_4 : Nat → Int32 → Int32 → OW → Nat → RO) (l0 : Nat) (l2 : Int32) (ω : OW) (n : Nat) : RO := rA ω l0 6 10 (fun a11 => lI ω (gI Θ) a11 l2 (fun x12 => k_4 l0 x12 (l2 + 1) ω n))
def B_X6_wearOn_4 (Θ : GP) (k_4 : Nat → Int32 → Int32 → OW → Nat → RO) (l0 : Nat) (l1 : Int32) (l2 : Int32) (ω : OW) (n : Nat) : RO := if 10 ≤ l2 then (J_X6_wearOn_82 Θ l0 ω n) else (rA ω l0 6 10 (fun a14 => lI ω (gI Θ) a14 l2 (fun x15 => if x15 = (-1) then (J_X6_wearOn_82 Θ l0 ω n) else (rA ω l0 6 1 (fun a17 => lI ω (gI Θ) a17 l2 (fun x18 => if x18 < 0 then (J_X6_wearOn_69 Θ k_4 l0 l2 ω n) else (rA ω l0 6 0 (fun a20 => rA ω a20 0 17 (fun a21 => cO ω l0 6 (kA (F_X6_meet Θ l0 l2 l1 ω n) (fun a22 ω n => cO ω a21 2 (kI (F_X2_wearsBy Θ a21 a22 ω n) (fun x23 ω n => rA ω l0 6 2 (fun a24 => rA ω l0 6 2 (fun a25 => lI ω (gI Θ) a25 x18 (fun x26 => sI ω (gI Θ) a24 x18 (if (x26 + x23) < 99 then (x26 + x23) else 99) (fun ω => J_X6_wearOn_69 Θ k_4 l0 l2 ω n)))))))))))))))))
def L_X6_wearOn_4 (Θ : GP) : Nat → Nat → Int32 → Int32 → OW → Nat → RO
  | 0, _, _, _, _, _ => none
  | f + 1, l0, l1, l2, ω, n => B_X6_wearOn_4 Θ (L_X6_wearOn_4 Θ f) l0 l1 l2 ω n
def F_X6_wearOn (Θ : GP) (l0 : Nat) (ω : OW) (n : Nat) : RO := L_X6_wearOn_4 Θ 5000 l0 0 0 ω n
theorem ok_J_X6_wearOn_136 (Θ : GP) (ω : OW) (n : Nat) (r : Out) (h : J_X6_wearOn_136 Θ ω n = some r) : GR Θ yX6_wearOn cX6_wearOn 5 (none : Option Jvm.ClassFile.FieldType) 3 (0, 0) 136 [] [] ω n r := by
  unfold J_X6_wearOn_136 at h
  cases h
  exact g_vret rfl dX6_wearOn_136 rfl
theorem ok_J_X6_wearOn_126 (Θ : GP) (k_84 : Nat → Int32 → OW → Nat → RO) (hk_84 : ∀ l0 l2 ω n r, k_84 l0 l2 ω n = some r → GR Θ yX6_wearOn cX6_wearOn 5 (none : Option Jvm.ClassFile.FieldType) 3 (0, 0) 84 [(0, .ref l0), (2, .int l2)] [] ω n r) (l0 : Nat) (l2 : Int32) (s0 : Int32) (s1 : Int32) (s2 : Nat) (ω : OW) (n : Nat) (r : Out) (h : J_X6_wearOn_126 Θ k_84 l0 l2 s0 s1 s2 ω n = some r) : GR Θ yX6_wearOn cX6_wearOn 5 (none : Option Jvm.ClassFile.FieldType) 3 (0, 0) 126 [(0, .ref l0), (2, .int l2)] [.int s0, .int s1, .ref s2] ω n r := by
  unfold J_X6_wearOn_126 at h
  refine g_ior dX6_wearOn_126 ?_
  refine g_wF fl_X6_25 dX6_wearOn_127 (rfl) rfl h (fun ω h => ?_)
  refine g_iinc (j := 1) (v := l2 + 1) (lv' := [(2, .int (l2 + 1)), (0, .ref l0)]) dX6_wearOn_130 rfl rfl (by decide) rfl ?_
  refine g_goto (tgt := 84) dX6_wearOn_133 (by decide) ?_
  refine G.lsub [1, 0] rfl ?_
  exact hk_84 l0 (l2 + 1) _ _ r h
theorem ok_B_X6_wearOn_84 (Θ : GP) (k_84 : Nat → Int32 → OW → Nat → RO) (hk_84 : ∀ l0 l2 ω n r, k_84 l0 l2 ω n = some r → GR Θ yX6_wearOn cX6_wearOn 5 (none : Option Jvm.ClassFile.FieldType) 3 (0, 0) 84 [(0, .ref l0), (2, .int l2)] [] ω n r) (l0 : Nat) (l2 : Int32) (ω : OW) (n : Nat) (r : Out) (h : B_X6_wearOn_84 Θ k_84 l0 l2 ω n = some r) : GR Θ yX6_wearOn cX6_wearOn 5 (none : Option Jvm.ClassFile.FieldType) 3 (0, 0) 84 [(0, .ref l0), (2, .int l2)] [] ω n r := by
  unfold B_X6_wearOn_84 at h
  refine g_iload_n dX6_wearOn_84 rfl 1 rfl ?_
  refine g_bipush (v := 10) dX6_wearOn_85 (by decide) ?_
  refine g_icmp_ge (tgt := 136) dX6_wearOn_87 (by decide) (fun c1 => ?_) (fun c1 => ?_)
  · rw [if_pos c1] at h
    refine G.lsub [] rfl ?_
    exact ok_J_X6_wearOn_136 Θ _ _ r h
  · rw [if_neg c1] at h
    refine g_aload_n dX6_wearOn_90 rfl 0 rfl ?_
    refine g_rA fl_X6_40 dX6_wearOn_91 h (fun a2 h => ?_)
    refine g_iload_n dX6_wearOn_94 rfl 1 rfl ?_
    refine g_lIi dX6_wearOn_95 h (fun x3 h => ?_)
    refine g_iconst (v := (-1)) dX6_wearOn_96 (by decide) ?_
    refine g_icmp_eq (tgt := 136) dX6_wearOn_97 (by decide) (fun c4 => ?_) (fun c4 => ?_)
    · rw [if_pos c4] at h
      refine G.lsub [] rfl ?_
      exact ok_J_X6_wearOn_136 Θ _ _ r h
    · rw [if_neg c4] at h
      refine g_aload_n dX6_wearOn_100 rfl 0 rfl ?_
      refine g_dup dX6_wearOn_101 rfl ?_
      refine g_rI fl_X6_25 dX6_wearOn_102 h (fun x5 h => ?_)
      refine g_aload_n dX6_wearOn_105 rfl 0 rfl ?_
      refine g_rA fl_X6_9 dX6_wearOn_106 h (fun a6 h => ?_)
      refine g_iload_n dX6_wearOn_109 rfl 1 rfl ?_
      refine g_lIi dX6_wearOn_110 h (fun x7 h => ?_)
      refine g_if_lt (tgt := 125) dX6_wearOn_111 (by decide) (fun c8 => ?_) (fun c8 => ?_)
      · rw [if_pos c8] at h
        refine g_iconst (v := 0) dX6_wearOn_125 (by decide) ?_
        exact ok_J_X6_wearOn_126 Θ k_84 hk_84 l0 l2 0 x5 l0 _ _ r h
      · rw [if_neg c8] at h
        refine g_iconst (v := 1) dX6_wearOn_114 (by decide) ?_
        refine g_aload_n dX6_wearOn_115 rfl 0 rfl ?_
        refine g_rA fl_X6_9 dX6_wearOn_116 h (fun a9 h => ?_)
        refine g_iload_n dX6_wearOn_119 rfl 1 rfl ?_
        refine g_lIi dX6_wearOn_120 h (fun x10 h => ?_)
        refine g_ishl dX6_wearOn_121 ?_
        refine g_goto (tgt := 126) dX6_wearOn_122 (by decide) ?_
        exact ok_J_X6_wearOn_126 Θ k_84 hk_84 l0 l2 (1 <<< ((x10 : Int32) &&& 31)) x5 l0 _ _ r h
theorem ok_L_X6_wearOn_84 (Θ : GP) : ∀ (f : Nat) (l0 : Nat) (l2 : Int32) (ω : OW) (n : Nat) (r : Out), L_X6_wearOn_84 Θ f l0 l2 ω n = some r → GR Θ yX6_wearOn cX6_wearOn 5 (none : Option Jvm.ClassFile.FieldType) 3 (0, 0) 84 [(0, .ref l0), (2, .int l2)] [] ω n r := by
  intro f
  induction f with
  | zero =>
    intro l0 l2 ω n r h
    unfold L_X6_wearOn_84 at h
    cases h
  | succ f ih =>
    intro l0 l2 ω n r h
    unfold L_X6_wearOn_84 at h
    exact ok_B_X6_wearOn_84 Θ (L_X6_wearOn_84 Θ f) ih l0 l2 ω n r h
theorem ok_J_X6_wearOn_82 (Θ : GP) (l0 : Nat) (ω : OW) (n : Nat) (r : Out) (h : J_X6_wearOn_82 Θ l0 ω n = some r) : GR Θ yX6_wearOn cX6_wearOn 5 (none : Option Jvm.ClassFile.FieldType) 3 (0, 0) 82 [(0, .ref l0)] [] ω n r := by
  unfold J_X6_wearOn_82 at h
  refine g_iconst (v := 0) dX6_wearOn_82 (by decide) ?_
  refine g_istore_n (lv' := [(2, .int 0), (0, .ref l0)]) dX6_wearOn_83 rfl (by decide) rfl ?_
  refine G.lsub [1, 0] rfl ?_
  exact ok_L_X6_wearOn_84 Θ 5000 l0 0 _ _ r h
theorem ok_J_X6_wearOn_69 (Θ : GP) (k_4 : Nat → Int32 → Int32 → OW → Nat → RO) (hk_4 : ∀ l0 l1 l2 ω n r, k_4 l0 l1 l2 ω n = some r → GR Θ yX6_wearOn cX6_wearOn 5 (none : Option Jvm.ClassFile.FieldType) 3 (0, 0) 4 [(0, .ref l0), (1, .int l1), (2, .int l2)] [] ω n r) (l0 : Nat) (l2 : Int32) (ω : OW) (n : Nat) (r : Out) (h : J_X6_wearOn_69 Θ k_4 l0 l2 ω n = some r) : GR Θ yX6_wearOn cX6_wearOn 5 (none : Option Jvm.ClassFile.FieldType) 3 (0, 0) 69 [(0, .ref l0), (2, .int l2)] [] ω n r := by
  unfold J_X6_wearOn_69 at h
  refine g_aload_n dX6_wearOn_69 rfl 0 rfl ?_
  refine g_rA fl_X6_40 dX6_wearOn_70 h (fun a11 h => ?_)
  refine g_iload_n dX6_wearOn_73 rfl 1 rfl ?_
  refine g_lIi dX6_wearOn_74 h (fun x12 h => ?_)
  refine g_istore_n (lv' := [(1, .int x12), (0, .ref l0), (2, .int l2)]) dX6_wearOn_75 rfl (by decide) rfl ?_
  refine g_iinc (j := 2) (v := l2 + 1) (lv' := [(2, .int (l2 + 1)), (1, .int x12), (0, .ref l0)]) dX6_wearOn_76 rfl rfl (by decide) rfl ?_
  refine g_goto (tgt := 4) dX6_wearOn_79 (by decide) ?_
  refine G.lsub [2, 1, 0] rfl ?_
  exact hk_4 l0 x12 (l2 + 1) _ _ r h
theorem ok_B_X6_wearOn_4 (Θ : GP) (k_4 : Nat → Int32 → Int32 → OW → Nat → RO) (hk_4 : ∀ l0 l1 l2 ω n r, k_4 l0 l1 l2 ω n = some r → GR Θ yX6_wearOn cX6_wearOn 5 (none : Option Jvm.ClassFile.FieldType) 3 (0, 0) 4 [(0, .ref l0), (1, .int l1), (2, .int l2)] [] ω n r) (l0 : Nat) (l1 : Int32) (l2 : Int32) (ω : OW) (n : Nat) (r : Out) (h : B_X6_wearOn_4 Θ k_4 l0 l1 l2 ω n = some r) : GR Θ yX6_wearOn cX6_wearOn 5 (none : Option Jvm.ClassFile.FieldType) 3 (0, 0) 4 [(0, .ref l0), (1, .int l1), (2, .int l2)] [] ω n r := by
  unfold B_X6_wearOn_4 at h
  refine g_iload_n dX6_wearOn_4 rfl 2 rfl ?_
  refine g_bipush (v := 10) dX6_wearOn_5 (by decide) ?_
  refine g_icmp_ge (tgt := 82) dX6_wearOn_7 (by decide) (fun c13 => ?_) (fun c13 => ?_)
  · rw [if_pos c13] at h
    refine G.lsub [0] rfl ?_
    exact ok_J_X6_wearOn_82 Θ l0 _ _ r h
  · rw [if_neg c13] at h
    refine g_aload_n dX6_wearOn_10 rfl 0 rfl ?_
    refine g_rA fl_X6_40 dX6_wearOn_11 h (fun a14 h => ?_)
    refine g_iload_n dX6_wearOn_14 rfl 2 rfl ?_
    refine g_lIi dX6_wearOn_15 h (fun x15 h => ?_)
    refine g_iconst (v := (-1)) dX6_wearOn_16 (by decide) ?_
    refine g_icmp_eq (tgt := 82) dX6_wearOn_17 (by decide) (fun c16 => ?_) (fun c16 => ?_)
    · rw [if_pos c16] at h
      refine G.lsub [0] rfl ?_
      exact ok_J_X6_wearOn_82 Θ l0 _ _ r h
    · rw [if_neg c16] at h
      refine g_aload_n dX6_wearOn_20 rfl 0 rfl ?_
      refine g_rA fl_X6_9 dX6_wearOn_21 h (fun a17 h => ?_)
      refine g_iload_n dX6_wearOn_24 rfl 2 rfl ?_
      refine g_lIi dX6_wearOn_25 h (fun x18 h => ?_)
      refine g_istore_n (lv' := [(3, .int x18), (0, .ref l0), (1, .int l1), (2, .int l2)]) dX6_wearOn_26 rfl (by decide) rfl ?_
      refine g_iload_n dX6_wearOn_27 rfl 0 rfl ?_
      refine g_if_lt (tgt := 69) dX6_wearOn_28 (by decide) (fun c19 => ?_) (fun c19 => ?_)
      · rw [if_pos c19] at h
        refine G.lsub [1, 3] rfl ?_
        exact ok_J_X6_wearOn_69 Θ k_4 hk_4 l0 l2 _ _ r h
      · rw [if_neg c19] at h
        refine g_aload_n dX6_wearOn_31 rfl 1 rfl ?_
        refine g_rA fl_X6_58 dX6_wearOn_32 h (fun a20 h => ?_)
        refine g_rA fl_X6_108 dX6_wearOn_35 h (fun a21 h => ?_)
        refine g_aload_n dX6_wearOn_38 rfl 1 rfl ?_
        refine g_iload_n dX6_wearOn_39 rfl 3 rfl ?_
        refine g_iload_n dX6_wearOn_40 rfl 2 rfl ?_
        refine g_cA (ci := 6) (As := [.int l2, .int l1]) mv_X6_112 dX6_wearOn_41 rfl (ok_X6_meet Θ l0 l2 l1 _ _) rfl rfl (Nat.le_of_ble_eq_true rfl) (by decide) (by decide) (by decide) h (fun a22 ω n h => ?_)
        refine G.less (B' := (0, 0)) (by decide) (by decide) ?_
        refine g_cI (ci := 2) (As := [.ref a22]) mv_X6_124 dX6_wearOn_44 rfl (ok_X2_wearsBy Θ a21 a22 _ _) rfl rfl (Nat.le_of_ble_eq_true rfl) (by decide) (by decide) (by decide) h (fun x23 ω n h => ?_)
        refine G.less (B' := (0, 0)) (by decide) (by decide) ?_
        refine g_istore (lv' := [(4, .int x23), (3, .int x18), (0, .ref l0), (1, .int l1), (2, .int l2)]) dX6_wearOn_47 (by decide) rfl ?_
        refine g_aload_n dX6_wearOn_49 rfl 2 rfl ?_
        refine g_rA fl_X6_15 dX6_wearOn_50 h (fun a24 h => ?_)
        refine g_iload_n dX6_wearOn_53 rfl 1 rfl ?_
        refine g_bipush (v := 99) dX6_wearOn_54 (by decide) ?_
        refine g_aload_n dX6_wearOn_56 rfl 2 rfl ?_
        refine g_rA fl_X6_15 dX6_wearOn_57 h (fun a25 h => ?_)
        refine g_iload_n dX6_wearOn_60 rfl 1 rfl ?_
        refine g_lIi dX6_wearOn_61 h (fun x26 h => ?_)
        refine g_iload dX6_wearOn_62 0 rfl ?_
        refine g_iadd dX6_wearOn_64 ?_
        refine g_min wd_725 wd_617 wd_135 wd_618 dX6_wearOn_65 (by decide) (Nat.le_of_ble_eq_true rfl) ?_
        refine g_sIi dX6_wearOn_68 h (fun ω h => ?_)
        refine G.lsub [2, 4] rfl ?_
        exact ok_J_X6_wearOn_69 Θ k_4 hk_4 l0 l2 _ _ r h
theorem ok_L_X6_wearOn_4 (Θ : GP) : ∀ (f : Nat) (l0 : Nat) (l1 : Int32) (l2 : Int32) (ω : OW) (n : Nat) (r : Out), L_X6_wearOn_4 Θ f l0 l1 l2 ω n = some r → GR Θ yX6_wearOn cX6_wearOn 5 (none : Option Jvm.ClassFile.FieldType) 3 (0, 0) 4 [(0, .ref l0), (1, .int l1), (2, .int l2)] [] ω n r := by
  intro f
  induction f with
  | zero =>
    intro l0 l1 l2 ω n r h
    unfold L_X6_wearOn_4 at h
    cases h
  | succ f ih =>
    intro l0 l1 l2 ω n r h
    unfold L_X6_wearOn_4 at h
    exact ok_B_X6_wearOn_4 Θ (L_X6_wearOn_4 Θ f) ih l0 l1 l2 ω n r h
theorem ok_X6_wearOn (Θ : GP) (l0 : Nat) (ω : OW) (n : Nat) : Ok Θ 3 0 0 yX6_wearOn cX6_wearOn 5 (none : Option Jvm.ClassFile.FieldType) [.ref l0] ω n (F_X6_wearOn Θ l0 ω n) := by
  refine Ok.of (by decide +kernel) (Nat.le_of_ble_eq_true rfl) (fun r h => ?_)
  unfold F_X6_wearOn at h
  show GR Θ yX6_wearOn cX6_wearOn 5 (none : Option Jvm.ClassFile.FieldType) 3 (0, 0) 0 [(0, .ref l0)] [] ω n r
  refine g_iconst (v := 0) dX6_wearOn_0 (by decide) ?_
  refine g_istore_n (lv' := [(1, .int 0), (0, .ref l0)]) dX6_wearOn_1 rfl (by decide) rfl ?_
  refine g_iconst (v := 0) dX6_wearOn_2 (by decide) ?_
  refine g_istore_n (lv' := [(2, .int 0), (1, .int 0), (0, .ref l0)]) dX6_wearOn_3 rfl (by decide) rfl ?_
  refine G.lsub [2, 1, 0] rfl ?_
  exact ok_L_X6_wearOn_4 Θ 5000 l0 0 0 _ _ r h
def J_X8_byteAt_22 (Θ : GP) (s0 : Int32) (ω : OW) (n : Nat) : RO := some (.inl (some (.int s0), ω, n))
def J_X8_byteAt_21 (Θ : GP) (ω : OW) (n : Nat) : RO := J_X8_byteAt_22 Θ (-1) ω n
def F_X8_byteAt (Θ : GP) (l0 : Nat) (l1 : Int32) (ω : OW) (n : Nat) : RO := if l1 < 0 then (J_X8_byteAt_21 Θ ω n) else (rI ω l0 8 0 (fun x2 => if x2 ≤ l1 then (J_X8_byteAt_21 Θ ω n) else (rA ω l0 8 5 (fun a4 => lI ω (gI Θ) a4 l1 (fun x5 => J_X8_byteAt_22 Θ x5 ω n)))))
theorem ok_J_X8_byteAt_22 (Θ : GP) (s0 : Int32) (ω : OW) (n : Nat) (r : Out) (h : J_X8_byteAt_22 Θ s0 ω n = some r) : GR Θ yX8_byteAt cX8_byteAt 2 (some .int) 1 (0, 0) 22 [] [.int s0] ω n r := by
  unfold J_X8_byteAt_22 at h
  cases h
  exact g_iret rfl dX8_byteAt_22 rfl
theorem ok_J_X8_byteAt_21 (Θ : GP) (ω : OW) (n : Nat) (r : Out) (h : J_X8_byteAt_21 Θ ω n = some r) : GR Θ yX8_byteAt cX8_byteAt 2 (some .int) 1 (0, 0) 21 [] [] ω n r := by
  unfold J_X8_byteAt_21 at h
  refine g_iconst (v := (-1)) dX8_byteAt_21 (by decide) ?_
  exact ok_J_X8_byteAt_22 Θ (-1) _ _ r h
theorem ok_X8_byteAt (Θ : GP) (l0 : Nat) (l1 : Int32) (ω : OW) (n : Nat) : Ok Θ 1 0 0 yX8_byteAt cX8_byteAt 2 (some .int) [.ref l0, .int l1] ω n (F_X8_byteAt Θ l0 l1 ω n) := by
  refine Ok.of (by decide +kernel) (Nat.le_of_ble_eq_true rfl) (fun r h => ?_)
  unfold F_X8_byteAt at h
  show GR Θ yX8_byteAt cX8_byteAt 2 (some .int) 1 (0, 0) 0 [(0, .ref l0), (1, .int l1)] [] ω n r
  refine g_iload_n dX8_byteAt_0 rfl 1 rfl ?_
  refine g_if_lt (tgt := 21) dX8_byteAt_1 (by decide) (fun c1 => ?_) (fun c1 => ?_)
  · rw [if_pos c1] at h
    refine G.lsub [] rfl ?_
    exact ok_J_X8_byteAt_21 Θ _ _ r h
  · rw [if_neg c1] at h
    refine g_iload_n dX8_byteAt_4 rfl 1 rfl ?_
    refine g_aload_n dX8_byteAt_5 rfl 0 rfl ?_
    refine g_rI fl_X8_9 dX8_byteAt_6 h (fun x2 h => ?_)
    refine g_icmp_ge (tgt := 21) dX8_byteAt_9 (by decide) (fun c3 => ?_) (fun c3 => ?_)
    · rw [if_pos c3] at h
      refine G.lsub [] rfl ?_
      exact ok_J_X8_byteAt_21 Θ _ _ r h
    · rw [if_neg c3] at h
      refine g_aload_n dX8_byteAt_12 rfl 0 rfl ?_
      refine g_rA fl_X8_28 dX8_byteAt_13 h (fun a4 h => ?_)
      refine g_iload_n dX8_byteAt_16 rfl 1 rfl ?_
      refine g_lIi dX8_byteAt_17 h (fun x5 h => ?_)
      refine g_goto (tgt := 22) dX8_byteAt_18 (by decide) ?_
      refine G.lsub [] rfl ?_
      exact ok_J_X8_byteAt_22 Θ x5 _ _ r h
def J_X7_sift_109 (Θ : GP) (k_3 : Nat → Nat → Int32 → Nat → Int32 → OW → Nat → RO) (k_52 : Nat → Nat → Int32 → Nat → Int32 → Int32 → OW → Nat → RO) (l0 : Nat) (l1 : Nat) (l2 : Int32) (l3 : Nat) (l4 : Int32) (l5 : Int32) (ω : OW) (n : Nat) : RO := k_52 l0 l1 l2 l3 l4 (l5 + 2) ω n
def J_X7_sift_101 (Θ : GP) (k_3 : Nat → Nat → Int32 → Nat → Int32 → OW → Nat → RO) (k_52 : Nat → Nat → Int32 → Nat → Int32 → Int32 → OW → Nat → RO) (l0 : Nat) (l1 : Nat) (l2 : Int32) (l3 : Nat) (l4 : Int32) (l5 : Int32) (ω : OW) (n : Nat) : RO := rA ω l0 7 0 (fun a1 => sI ω (gZ Θ) a1 l4 (vp_nar .boolean 0) (fun ω => J_X7_sift_109 Θ k_3 k_52 l0 l1 l2 l3 l4 l5 ω n))
def B_X7_sift_52 (Θ : GP) (k_3 : Nat → Nat → Int32 → Nat → Int32 → OW → Nat → RO) (k_52 : Nat → Nat → Int32 → Nat → Int32 → Int32 → OW → Nat → RO) (l0 : Nat) (l1 : Nat) (l2 : Int32) (l3 : Nat) (l4 : Int32) (l5 : Int32) (ω : OW) (n : Nat) : RO := rI ω l3 8 0 (fun x2 => if x2 ≤ (l5 + 1) then (k_3 l0 l1 l2 l3 (l4 + 1) ω n) else (cO ω l3 8 (kI (F_X8_byteAt Θ l3 l5 ω n) (fun x4 ω n => if x4 < 0 then (J_X7_sift_101 Θ k_3 k_52 l0 l1 l2 l3 l4 l5 ω n) else (if 10 ≤ x4 then (J_X7_sift_101 Θ k_3 k_52 l0 l1 l2 l3 l4 l5 ω n) else (rA ω l1 6 11 (fun a7 => lI ω (gI Θ) a7 x4 (fun x8 => cO ω l3 8 (kI (F_X8_byteAt Θ l3 (l5 + 1) ω n) (fun x9 ω n => if x8 = x9 then (J_X7_sift_109 Θ k_3 k_52 l0 l1 l2 l3 l4 l5 ω n) else (J_X7_sift_101 Θ k_3 k_52 l0 l1 l2 l3 l4 l5 ω n)))))))))))
def L_X7_sift_52 (Θ : GP) (k_3 : Nat → Nat → Int32 → Nat → Int32 → OW → Nat → RO) : Nat → Nat → Nat → Int32 → Nat → Int32 → Int32 → OW → Nat → RO
  | 0, _, _, _, _, _, _, _, _ => none
  | f + 1, l0, l1, l2, l3, l4, l5, ω, n => B_X7_sift_52 Θ k_3 (L_X7_sift_52 Θ k_3 f) l0 l1 l2 l3 l4 l5 ω n
def B_X7_sift_3 (Θ : GP) (k_3 : Nat → Nat → Int32 → Nat → Int32 → OW → Nat → RO) (l0 : Nat) (l1 : Nat) (l2 : Int32) (l3 : Nat) (l4 : Int32) (ω : OW) (n : Nat) : RO := if 64 ≤ l4 then (some (.inl (none, ω, n))) else (cO ω l1 6 (kV (F_X6_boardStranger Θ l1 l4 l2 0 ω n) (fun ω n => cO ω l1 6 (kV (F_X6_toTheEnd Θ l1 ω n) (fun ω n => rA ω l1 6 11 (fun a14 => rA ω l0 7 1 (fun a15 => cpI ω (gI Θ) a14 0 a15 (l4 * 10) 10 (fun ω => rA ω l0 7 0 (fun a16 => sI ω (gZ Θ) a16 l4 (vp_nar .boolean 1) (fun ω => L_X7_sift_52 Θ k_3 5000 l0 l1 l2 l3 l4 0 ω n))))))))))
def L_X7_sift_3 (Θ : GP) : Nat → Nat → Nat → Int32 → Nat → Int32 → OW → Nat → RO
  | 0, _, _, _, _, _, _, _ => none
  | f + 1, l0, l1, l2, l3, l4, ω, n => B_X7_sift_3 Θ (L_X7_sift_3 Θ f) l0 l1 l2 l3 l4 ω n
def F_X7_sift (Θ : GP) (l0 : Nat) (l1 : Nat) (l2 : Int32) (l3 : Nat) (ω : OW) (n : Nat) : RO := L_X7_sift_3 Θ 5000 l0 l1 l2 l3 0 ω n
theorem ok_J_X7_sift_109 (Θ : GP) (k_3 : Nat → Nat → Int32 → Nat → Int32 → OW → Nat → RO) (k_52 : Nat → Nat → Int32 → Nat → Int32 → Int32 → OW → Nat → RO) (hk_3 : ∀ l0 l1 l2 l3 l4 ω n r, k_3 l0 l1 l2 l3 l4 ω n = some r → GR Θ yX7_sift cX7_sift 7 (none : Option Jvm.ClassFile.FieldType) 6 (0, 0) 3 [(0, .ref l0), (1, .ref l1), (2, .int l2), (3, .ref l3), (4, .int l4)] [] ω n r) (hk_52 : ∀ l0 l1 l2 l3 l4 l5 ω n r, k_52 l0 l1 l2 l3 l4 l5 ω n = some r → GR Θ yX7_sift cX7_sift 7 (none : Option Jvm.ClassFile.FieldType) 6 (0, 0) 52 [(0, .ref l0), (1, .ref l1), (2, .int l2), (3, .ref l3), (4, .int l4), (5, .int l5)] [] ω n r) (l0 : Nat) (l1 : Nat) (l2 : Int32) (l3 : Nat) (l4 : Int32) (l5 : Int32) (ω : OW) (n : Nat) (r : Out) (h : J_X7_sift_109 Θ k_3 k_52 l0 l1 l2 l3 l4 l5 ω n = some r) : GR Θ yX7_sift cX7_sift 7 (none : Option Jvm.ClassFile.FieldType) 6 (0, 0) 109 [(0, .ref l0), (1, .ref l1), (2, .int l2), (3, .ref l3), (4, .int l4), (5, .int l5)] [] ω n r := by
  unfold J_X7_sift_109 at h
  refine g_iinc (j := 5) (v := l5 + 2) (lv' := [(5, .int (l5 + 2)), (0, .ref l0), (1, .ref l1), (2, .int l2), (3, .ref l3), (4, .int l4)]) dX7_sift_109 rfl rfl (by decide) rfl ?_
  refine g_goto (tgt := 52) dX7_sift_112 (by decide) ?_
  refine G.lsub [1, 2, 3, 4, 5, 0] rfl ?_
  exact hk_52 l0 l1 l2 l3 l4 (l5 + 2) _ _ r h
theorem ok_J_X7_sift_101 (Θ : GP) (k_3 : Nat → Nat → Int32 → Nat → Int32 → OW → Nat → RO) (k_52 : Nat → Nat → Int32 → Nat → Int32 → Int32 → OW → Nat → RO) (hk_3 : ∀ l0 l1 l2 l3 l4 ω n r, k_3 l0 l1 l2 l3 l4 ω n = some r → GR Θ yX7_sift cX7_sift 7 (none : Option Jvm.ClassFile.FieldType) 6 (0, 0) 3 [(0, .ref l0), (1, .ref l1), (2, .int l2), (3, .ref l3), (4, .int l4)] [] ω n r) (hk_52 : ∀ l0 l1 l2 l3 l4 l5 ω n r, k_52 l0 l1 l2 l3 l4 l5 ω n = some r → GR Θ yX7_sift cX7_sift 7 (none : Option Jvm.ClassFile.FieldType) 6 (0, 0) 52 [(0, .ref l0), (1, .ref l1), (2, .int l2), (3, .ref l3), (4, .int l4), (5, .int l5)] [] ω n r) (l0 : Nat) (l1 : Nat) (l2 : Int32) (l3 : Nat) (l4 : Int32) (l5 : Int32) (ω : OW) (n : Nat) (r : Out) (h : J_X7_sift_101 Θ k_3 k_52 l0 l1 l2 l3 l4 l5 ω n = some r) : GR Θ yX7_sift cX7_sift 7 (none : Option Jvm.ClassFile.FieldType) 6 (0, 0) 101 [(0, .ref l0), (1, .ref l1), (2, .int l2), (3, .ref l3), (4, .int l4), (5, .int l5)] [] ω n r := by
  unfold J_X7_sift_101 at h
  refine g_aload_n dX7_sift_101 rfl 0 rfl ?_
  refine g_rA fl_X7_13 dX7_sift_102 h (fun a1 h => ?_)
  refine g_iload dX7_sift_105 4 rfl ?_
  refine g_iconst (v := 0) dX7_sift_107 (by decide) ?_
  refine g_sIz dX7_sift_108 h (fun ω h => ?_)
  exact ok_J_X7_sift_109 Θ k_3 k_52 hk_3 hk_52 l0 l1 l2 l3 l4 l5 _ _ r h
theorem ok_B_X7_sift_52 (Θ : GP) (k_3 : Nat → Nat → Int32 → Nat → Int32 → OW → Nat → RO) (k_52 : Nat → Nat → Int32 → Nat → Int32 → Int32 → OW → Nat → RO) (hk_3 : ∀ l0 l1 l2 l3 l4 ω n r, k_3 l0 l1 l2 l3 l4 ω n = some r → GR Θ yX7_sift cX7_sift 7 (none : Option Jvm.ClassFile.FieldType) 6 (0, 0) 3 [(0, .ref l0), (1, .ref l1), (2, .int l2), (3, .ref l3), (4, .int l4)] [] ω n r) (hk_52 : ∀ l0 l1 l2 l3 l4 l5 ω n r, k_52 l0 l1 l2 l3 l4 l5 ω n = some r → GR Θ yX7_sift cX7_sift 7 (none : Option Jvm.ClassFile.FieldType) 6 (0, 0) 52 [(0, .ref l0), (1, .ref l1), (2, .int l2), (3, .ref l3), (4, .int l4), (5, .int l5)] [] ω n r) (l0 : Nat) (l1 : Nat) (l2 : Int32) (l3 : Nat) (l4 : Int32) (l5 : Int32) (ω : OW) (n : Nat) (r : Out) (h : B_X7_sift_52 Θ k_3 k_52 l0 l1 l2 l3 l4 l5 ω n = some r) : GR Θ yX7_sift cX7_sift 7 (none : Option Jvm.ClassFile.FieldType) 6 (0, 0) 52 [(0, .ref l0), (1, .ref l1), (2, .int l2), (3, .ref l3), (4, .int l4), (5, .int l5)] [] ω n r := by
  unfold B_X7_sift_52 at h
  refine g_iload dX7_sift_52 5 rfl ?_
  refine g_iconst (v := 1) dX7_sift_54 (by decide) ?_
  refine g_iadd dX7_sift_55 ?_
  refine g_aload_n dX7_sift_56 rfl 3 rfl ?_
  refine g_rI fl_X7_40 dX7_sift_57 h (fun x2 h => ?_)
  refine g_icmp_ge (tgt := 115) dX7_sift_60 (by decide) (fun c3 => ?_) (fun c3 => ?_)
  · rw [if_pos c3] at h
    refine g_iinc (j := 4) (v := l4 + 1) (lv' := [(4, .int (l4 + 1)), (0, .ref l0), (1, .ref l1), (2, .int l2), (3, .ref l3), (5, .int l5)]) dX7_sift_115 rfl rfl (by decide) rfl ?_
    refine g_goto (tgt := 3) dX7_sift_118 (by decide) ?_
    refine G.lsub [1, 2, 3, 4, 0] rfl ?_
    exact hk_3 l0 l1 l2 l3 (l4 + 1) _ _ r h
  · rw [if_neg c3] at h
    refine g_aload_n dX7_sift_63 rfl 3 rfl ?_
    refine g_iload dX7_sift_64 5 rfl ?_
    refine g_cI (ci := 8) (As := [.int l5]) mv_X7_46 dX7_sift_66 rfl (ok_X8_byteAt Θ l3 l5 _ _) rfl rfl (Nat.le_of_ble_eq_true rfl) (by decide) (by decide) (by decide) h (fun x4 ω n h => ?_)
    refine G.less (B' := (0, 0)) (by decide) (by decide) ?_
    refine g_istore (lv' := [(6, .int x4), (0, .ref l0), (1, .ref l1), (2, .int l2), (3, .ref l3), (4, .int l4), (5, .int l5)]) dX7_sift_69 (by decide) rfl ?_
    refine g_iload dX7_sift_71 0 rfl ?_
    refine g_if_lt (tgt := 101) dX7_sift_73 (by decide) (fun c5 => ?_) (fun c5 => ?_)
    · rw [if_pos c5] at h
      refine G.lsub [1, 2, 3, 4, 5, 6] rfl ?_
      exact ok_J_X7_sift_101 Θ k_3 k_52 hk_3 hk_52 l0 l1 l2 l3 l4 l5 _ _ r h
    · rw [if_neg c5] at h
      refine g_iload dX7_sift_76 0 rfl ?_
      refine g_bipush (v := 10) dX7_sift_78 (by decide) ?_
      refine g_icmp_ge (tgt := 101) dX7_sift_80 (by decide) (fun c6 => ?_) (fun c6 => ?_)
      · rw [if_pos c6] at h
        refine G.lsub [1, 2, 3, 4, 5, 6] rfl ?_
        exact ok_J_X7_sift_101 Θ k_3 k_52 hk_3 hk_52 l0 l1 l2 l3 l4 l5 _ _ r h
      · rw [if_neg c6] at h
        refine g_aload_n dX7_sift_83 rfl 2 rfl ?_
        refine g_rA fl_X7_33 dX7_sift_84 h (fun a7 h => ?_)
        refine g_iload dX7_sift_87 0 rfl ?_
        refine g_lIi dX7_sift_89 h (fun x8 h => ?_)
        refine g_aload_n dX7_sift_90 rfl 4 rfl ?_
        refine g_iload dX7_sift_91 6 rfl ?_
        refine g_iconst (v := 1) dX7_sift_93 (by decide) ?_
        refine g_iadd dX7_sift_94 ?_
        refine g_cI (ci := 8) (As := [.int (l5 + 1)]) mv_X7_46 dX7_sift_95 rfl (ok_X8_byteAt Θ l3 (l5 + 1) _ _) rfl rfl (Nat.le_of_ble_eq_true rfl) (by decide) (by decide) (by decide) h (fun x9 ω n h => ?_)
        refine G.less (B' := (0, 0)) (by decide) (by decide) ?_
        refine g_icmp_eq (tgt := 109) dX7_sift_98 (by decide) (fun c10 => ?_) (fun c10 => ?_)
        · rw [if_pos c10] at h
          refine G.lsub [1, 2, 3, 4, 5, 6] rfl ?_
          exact ok_J_X7_sift_109 Θ k_3 k_52 hk_3 hk_52 l0 l1 l2 l3 l4 l5 _ _ r h
        · rw [if_neg c10] at h
          refine G.lsub [1, 2, 3, 4, 5, 6] rfl ?_
          exact ok_J_X7_sift_101 Θ k_3 k_52 hk_3 hk_52 l0 l1 l2 l3 l4 l5 _ _ r h
theorem ok_L_X7_sift_52 (Θ : GP) (k_3 : Nat → Nat → Int32 → Nat → Int32 → OW → Nat → RO) (hk_3 : ∀ l0 l1 l2 l3 l4 ω n r, k_3 l0 l1 l2 l3 l4 ω n = some r → GR Θ yX7_sift cX7_sift 7 (none : Option Jvm.ClassFile.FieldType) 6 (0, 0) 3 [(0, .ref l0), (1, .ref l1), (2, .int l2), (3, .ref l3), (4, .int l4)] [] ω n r) : ∀ (f : Nat) (l0 : Nat) (l1 : Nat) (l2 : Int32) (l3 : Nat) (l4 : Int32) (l5 : Int32) (ω : OW) (n : Nat) (r : Out), L_X7_sift_52 Θ k_3 f l0 l1 l2 l3 l4 l5 ω n = some r → GR Θ yX7_sift cX7_sift 7 (none : Option Jvm.ClassFile.FieldType) 6 (0, 0) 52 [(0, .ref l0), (1, .ref l1), (2, .int l2), (3, .ref l3), (4, .int l4), (5, .int l5)] [] ω n r := by
  intro f
  induction f with
  | zero =>
    intro l0 l1 l2 l3 l4 l5 ω n r h
    unfold L_X7_sift_52 at h
    cases h
  | succ f ih =>
    intro l0 l1 l2 l3 l4 l5 ω n r h
    unfold L_X7_sift_52 at h
    exact ok_B_X7_sift_52 Θ k_3 (L_X7_sift_52 Θ k_3 f) hk_3 ih l0 l1 l2 l3 l4 l5 ω n r h
theorem ok_B_X7_sift_3 (Θ : GP) (k_3 : Nat → Nat → Int32 → Nat → Int32 → OW → Nat → RO) (hk_3 : ∀ l0 l1 l2 l3 l4 ω n r, k_3 l0 l1 l2 l3 l4 ω n = some r → GR Θ yX7_sift cX7_sift 7 (none : Option Jvm.ClassFile.FieldType) 6 (0, 0) 3 [(0, .ref l0), (1, .ref l1), (2, .int l2), (3, .ref l3), (4, .int l4)] [] ω n r) (l0 : Nat) (l1 : Nat) (l2 : Int32) (l3 : Nat) (l4 : Int32) (ω : OW) (n : Nat) (r : Out) (h : B_X7_sift_3 Θ k_3 l0 l1 l2 l3 l4 ω n = some r) : GR Θ yX7_sift cX7_sift 7 (none : Option Jvm.ClassFile.FieldType) 6 (0, 0) 3 [(0, .ref l0), (1, .ref l1), (2, .int l2), (3, .ref l3), (4, .int l4)] [] ω n r := by
  unfold B_X7_sift_3 at h
  refine g_iload dX7_sift_3 4 rfl ?_
  refine g_bipush (v := 64) dX7_sift_5 (by decide) ?_
  refine g_icmp_ge (tgt := 121) dX7_sift_7 (by decide) (fun c11 => ?_) (fun c11 => ?_)
  · rw [if_pos c11] at h
    cases h
    exact g_vret rfl dX7_sift_121 rfl
  · rw [if_neg c11] at h
    refine g_aload_n dX7_sift_10 rfl 1 rfl ?_
    refine g_iload dX7_sift_11 4 rfl ?_
    refine g_iload_n dX7_sift_13 rfl 2 rfl ?_
    refine g_iconst (v := 0) dX7_sift_14 (by decide) ?_
    refine g_cV (ci := 6) (As := [.int l4, .int l2, .int 0]) mv_X7_24 dX7_sift_15 rfl (ok_X6_boardStranger Θ l1 l4 l2 0 _ _) rfl rfl (Nat.le_of_ble_eq_true rfl) (by decide) (by decide) (by decide) h (fun ω n h => ?_)
    refine G.less (B' := (0, 0)) (by decide) (by decide) ?_
    refine g_aload_n dX7_sift_18 rfl 1 rfl ?_
    refine g_cV (ci := 6) (As := []) mv_X7_30 dX7_sift_19 rfl (ok_X6_toTheEnd Θ l1 _ _) rfl rfl (Nat.le_of_ble_eq_true rfl) (by decide) (by decide) (by decide) h (fun ω n h => ?_)
    refine G.less (B' := (0, 0)) (by decide) (by decide) ?_
    refine g_aload_n dX7_sift_22 rfl 1 rfl ?_
    refine g_rA fl_X7_33 dX7_sift_23 h (fun a14 h => ?_)
    refine g_iconst (v := 0) dX7_sift_26 (by decide) ?_
    refine g_aload_n dX7_sift_27 rfl 0 rfl ?_
    refine g_rA fl_X7_17 dX7_sift_28 h (fun a15 h => ?_)
    refine g_iload dX7_sift_31 4 rfl ?_
    refine g_bipush (v := 10) dX7_sift_33 (by decide) ?_
    refine g_imul dX7_sift_35 ?_
    refine g_bipush (v := 10) dX7_sift_36 (by decide) ?_
    refine g_cp wd_1283 wd_580 wd_579 wd_124 dX7_sift_38 (by decide) (Nat.le_of_ble_eq_true rfl) h (fun ω h => ?_)
    refine g_aload_n dX7_sift_41 rfl 0 rfl ?_
    refine g_rA fl_X7_13 dX7_sift_42 h (fun a16 h => ?_)
    refine g_iload dX7_sift_45 4 rfl ?_
    refine g_iconst (v := 1) dX7_sift_47 (by decide) ?_
    refine g_sIz dX7_sift_48 h (fun ω h => ?_)
    refine g_iconst (v := 0) dX7_sift_49 (by decide) ?_
    refine g_istore (lv' := [(5, .int 0), (0, .ref l0), (1, .ref l1), (2, .int l2), (3, .ref l3), (4, .int l4)]) dX7_sift_50 (by decide) rfl ?_
    refine G.lsub [1, 2, 3, 4, 5, 0] rfl ?_
    exact ok_L_X7_sift_52 Θ k_3 hk_3 5000 l0 l1 l2 l3 l4 0 _ _ r h
theorem ok_L_X7_sift_3 (Θ : GP) : ∀ (f : Nat) (l0 : Nat) (l1 : Nat) (l2 : Int32) (l3 : Nat) (l4 : Int32) (ω : OW) (n : Nat) (r : Out), L_X7_sift_3 Θ f l0 l1 l2 l3 l4 ω n = some r → GR Θ yX7_sift cX7_sift 7 (none : Option Jvm.ClassFile.FieldType) 6 (0, 0) 3 [(0, .ref l0), (1, .ref l1), (2, .int l2), (3, .ref l3), (4, .int l4)] [] ω n r := by
  intro f
  induction f with
  | zero =>
    intro l0 l1 l2 l3 l4 ω n r h
    unfold L_X7_sift_3 at h
    cases h
  | succ f ih =>
    intro l0 l1 l2 l3 l4 ω n r h
    unfold L_X7_sift_3 at h
    exact ok_B_X7_sift_3 Θ (L_X7_sift_3 Θ f) ih l0 l1 l2 l3 l4 ω n r h
theorem ok_X7_sift (Θ : GP) (l0 : Nat) (l1 : Nat) (l2 : Int32) (l3 : Nat) (ω : OW) (n : Nat) : Ok Θ 6 0 0 yX7_sift cX7_sift 7 (none : Option Jvm.ClassFile.FieldType) [.ref l0, .ref l1, .int l2, .ref l3] ω n (F_X7_sift Θ l0 l1 l2 l3 ω n) := by
  refine Ok.of (by decide +kernel) (Nat.le_of_ble_eq_true rfl) (fun r h => ?_)
  unfold F_X7_sift at h
  show GR Θ yX7_sift cX7_sift 7 (none : Option Jvm.ClassFile.FieldType) 6 (0, 0) 0 [(0, .ref l0), (1, .ref l1), (2, .int l2), (3, .ref l3)] [] ω n r
  refine g_iconst (v := 0) dX7_sift_0 (by decide) ?_
  refine g_istore (lv' := [(4, .int 0), (0, .ref l0), (1, .ref l1), (2, .int l2), (3, .ref l3)]) dX7_sift_1 (by decide) rfl ?_
  refine G.lsub [1, 2, 3, 4, 0] rfl ?_
  exact ok_L_X7_sift_3 Θ 5000 l0 l1 l2 l3 0 _ _ r h
def J_X7_howMany_25 (Θ : GP) (k_4 : Nat → Int32 → Int32 → OW → Nat → RO) (l0 : Nat) (l2 : Int32) (s0 : Int32) (s1 : Int32) (ω : OW) (n : Nat) : RO := k_4 l0 (s1 + s0) (l2 + 1) ω n
def B_X7_howMany_4 (Θ : GP) (k_4 : Nat → Int32 → Int32 → OW → Nat → RO) (l0 : Nat) (l1 : Int32) (l2 : Int32) (ω : OW) (n : Nat) : RO := if 64 ≤ l2 then (some (.inl (some (.int l1), ω, n))) else (rA ω l0 7 0 (fun a2 => lI ω (gZ Θ) a2 l2 (fun x3 => if x3 = 0 then (J_X7_howMany_25 Θ k_4 l0 l2 0 l1 ω n) else (J_X7_howMany_25 Θ k_4 l0 l2 1 l1 ω n))))
def L_X7_howMany_4 (Θ : GP) : Nat → Nat → Int32 → Int32 → OW → Nat → RO
  | 0, _, _, _, _, _ => none
  | f + 1, l0, l1, l2, ω, n => B_X7_howMany_4 Θ (L_X7_howMany_4 Θ f) l0 l1 l2 ω n
def F_X7_howMany (Θ : GP) (l0 : Nat) (ω : OW) (n : Nat) : RO := L_X7_howMany_4 Θ 5000 l0 0 0 ω n
theorem ok_J_X7_howMany_25 (Θ : GP) (k_4 : Nat → Int32 → Int32 → OW → Nat → RO) (hk_4 : ∀ l0 l1 l2 ω n r, k_4 l0 l1 l2 ω n = some r → GR Θ yX7_howMany cX7_howMany 3 (some .int) 1 (0, 0) 4 [(0, .ref l0), (1, .int l1), (2, .int l2)] [] ω n r) (l0 : Nat) (l2 : Int32) (s0 : Int32) (s1 : Int32) (ω : OW) (n : Nat) (r : Out) (h : J_X7_howMany_25 Θ k_4 l0 l2 s0 s1 ω n = some r) : GR Θ yX7_howMany cX7_howMany 3 (some .int) 1 (0, 0) 25 [(0, .ref l0), (2, .int l2)] [.int s0, .int s1] ω n r := by
  unfold J_X7_howMany_25 at h
  refine g_iadd dX7_howMany_25 ?_
  refine g_istore_n (lv' := [(1, .int (s1 + s0)), (0, .ref l0), (2, .int l2)]) dX7_howMany_26 rfl (by decide) rfl ?_
  refine g_iinc (j := 2) (v := l2 + 1) (lv' := [(2, .int (l2 + 1)), (1, .int (s1 + s0)), (0, .ref l0)]) dX7_howMany_27 rfl rfl (by decide) rfl ?_
  refine g_goto (tgt := 4) dX7_howMany_30 (by decide) ?_
  refine G.lsub [2, 1, 0] rfl ?_
  exact hk_4 l0 (s1 + s0) (l2 + 1) _ _ r h
theorem ok_B_X7_howMany_4 (Θ : GP) (k_4 : Nat → Int32 → Int32 → OW → Nat → RO) (hk_4 : ∀ l0 l1 l2 ω n r, k_4 l0 l1 l2 ω n = some r → GR Θ yX7_howMany cX7_howMany 3 (some .int) 1 (0, 0) 4 [(0, .ref l0), (1, .int l1), (2, .int l2)] [] ω n r) (l0 : Nat) (l1 : Int32) (l2 : Int32) (ω : OW) (n : Nat) (r : Out) (h : B_X7_howMany_4 Θ k_4 l0 l1 l2 ω n = some r) : GR Θ yX7_howMany cX7_howMany 3 (some .int) 1 (0, 0) 4 [(0, .ref l0), (1, .int l1), (2, .int l2)] [] ω n r := by
  unfold B_X7_howMany_4 at h
  refine g_iload_n dX7_howMany_4 rfl 2 rfl ?_
  refine g_bipush (v := 64) dX7_howMany_5 (by decide) ?_
  refine g_icmp_ge (tgt := 33) dX7_howMany_7 (by decide) (fun c1 => ?_) (fun c1 => ?_)
  · rw [if_pos c1] at h
    refine g_iload_n dX7_howMany_33 rfl 1 rfl ?_
    cases h
    exact g_iret rfl dX7_howMany_34 rfl
  · rw [if_neg c1] at h
    refine g_iload_n dX7_howMany_10 rfl 1 rfl ?_
    refine g_aload_n dX7_howMany_11 rfl 0 rfl ?_
    refine g_rA fl_X7_13 dX7_howMany_12 h (fun a2 h => ?_)
    refine g_iload_n dX7_howMany_15 rfl 2 rfl ?_
    refine g_lIz dX7_howMany_16 h (fun x3 h => ?_)
    refine g_if_eq (tgt := 24) dX7_howMany_17 (by decide) (fun c4 => ?_) (fun c4 => ?_)
    · rw [if_pos c4] at h
      refine g_iconst (v := 0) dX7_howMany_24 (by decide) ?_
      refine G.lsub [0, 2] rfl ?_
      exact ok_J_X7_howMany_25 Θ k_4 hk_4 l0 l2 0 l1 _ _ r h
    · rw [if_neg c4] at h
      refine g_iconst (v := 1) dX7_howMany_20 (by decide) ?_
      refine g_goto (tgt := 25) dX7_howMany_21 (by decide) ?_
      refine G.lsub [0, 2] rfl ?_
      exact ok_J_X7_howMany_25 Θ k_4 hk_4 l0 l2 1 l1 _ _ r h
theorem ok_L_X7_howMany_4 (Θ : GP) : ∀ (f : Nat) (l0 : Nat) (l1 : Int32) (l2 : Int32) (ω : OW) (n : Nat) (r : Out), L_X7_howMany_4 Θ f l0 l1 l2 ω n = some r → GR Θ yX7_howMany cX7_howMany 3 (some .int) 1 (0, 0) 4 [(0, .ref l0), (1, .int l1), (2, .int l2)] [] ω n r := by
  intro f
  induction f with
  | zero =>
    intro l0 l1 l2 ω n r h
    unfold L_X7_howMany_4 at h
    cases h
  | succ f ih =>
    intro l0 l1 l2 ω n r h
    unfold L_X7_howMany_4 at h
    exact ok_B_X7_howMany_4 Θ (L_X7_howMany_4 Θ f) ih l0 l1 l2 ω n r h
theorem ok_X7_howMany (Θ : GP) (l0 : Nat) (ω : OW) (n : Nat) : Ok Θ 1 0 0 yX7_howMany cX7_howMany 3 (some .int) [.ref l0] ω n (F_X7_howMany Θ l0 ω n) := by
  refine Ok.of (by decide +kernel) (Nat.le_of_ble_eq_true rfl) (fun r h => ?_)
  unfold F_X7_howMany at h
  show GR Θ yX7_howMany cX7_howMany 3 (some .int) 1 (0, 0) 0 [(0, .ref l0)] [] ω n r
  refine g_iconst (v := 0) dX7_howMany_0 (by decide) ?_
  refine g_istore_n (lv' := [(1, .int 0), (0, .ref l0)]) dX7_howMany_1 rfl (by decide) rfl ?_
  refine g_iconst (v := 0) dX7_howMany_2 (by decide) ?_
  refine g_istore_n (lv' := [(2, .int 0), (1, .int 0), (0, .ref l0)]) dX7_howMany_3 rfl (by decide) rfl ?_
  refine G.lsub [2, 1, 0] rfl ?_
  exact ok_L_X7_howMany_4 Θ 5000 l0 0 0 _ _ r h
def J_X7_deedsOfAll_43 (Θ : GP) (s0 : Int32) (ω : OW) (n : Nat) : RO := some (.inl (some (.int s0), ω, n))
def J_X7_deedsOfAll_28 (Θ : GP) (k_7 : Nat → Int32 → Int32 → Int32 → OW → Nat → RO) (l0 : Nat) (l1 : Int32) (l2 : Int32) (l3 : Int32) (ω : OW) (n : Nat) : RO := k_7 l0 l1 l2 (l3 + 1) ω n
def B_X7_deedsOfAll_7 (Θ : GP) (k_7 : Nat → Int32 → Int32 → Int32 → OW → Nat → RO) (l0 : Nat) (l1 : Int32) (l2 : Int32) (l3 : Int32) (ω : OW) (n : Nat) : RO := if 64 ≤ l3 then (if l2 = 0 then (J_X7_deedsOfAll_43 Θ 0 ω n) else (J_X7_deedsOfAll_43 Θ l1 ω n)) else (rA ω l0 7 0 (fun a3 => lI ω (gZ Θ) a3 l3 (fun x4 => if x4 = 0 then (J_X7_deedsOfAll_28 Θ k_7 l0 l1 l2 l3 ω n) else (J_X7_deedsOfAll_28 Θ k_7 l0 (l1 &&& l3) 1 l3 ω n))))
def L_X7_deedsOfAll_7 (Θ : GP) : Nat → Nat → Int32 → Int32 → Int32 → OW → Nat → RO
  | 0, _, _, _, _, _, _ => none
  | f + 1, l0, l1, l2, l3, ω, n => B_X7_deedsOfAll_7 Θ (L_X7_deedsOfAll_7 Θ f) l0 l1 l2 l3 ω n
def F_X7_deedsOfAll (Θ : GP) (l0 : Nat) (ω : OW) (n : Nat) : RO := L_X7_deedsOfAll_7 Θ 5000 l0 63 0 0 ω n
theorem ok_J_X7_deedsOfAll_43 (Θ : GP) (s0 : Int32) (ω : OW) (n : Nat) (r : Out) (h : J_X7_deedsOfAll_43 Θ s0 ω n = some r) : GR Θ yX7_deedsOfAll cX7_deedsOfAll 4 (some .int) 1 (0, 0) 43 [] [.int s0] ω n r := by
  unfold J_X7_deedsOfAll_43 at h
  cases h
  exact g_iret rfl dX7_deedsOfAll_43 rfl
theorem ok_J_X7_deedsOfAll_28 (Θ : GP) (k_7 : Nat → Int32 → Int32 → Int32 → OW → Nat → RO) (hk_7 : ∀ l0 l1 l2 l3 ω n r, k_7 l0 l1 l2 l3 ω n = some r → GR Θ yX7_deedsOfAll cX7_deedsOfAll 4 (some .int) 1 (0, 0) 7 [(0, .ref l0), (1, .int l1), (2, .int l2), (3, .int l3)] [] ω n r) (l0 : Nat) (l1 : Int32) (l2 : Int32) (l3 : Int32) (ω : OW) (n : Nat) (r : Out) (h : J_X7_deedsOfAll_28 Θ k_7 l0 l1 l2 l3 ω n = some r) : GR Θ yX7_deedsOfAll cX7_deedsOfAll 4 (some .int) 1 (0, 0) 28 [(0, .ref l0), (1, .int l1), (2, .int l2), (3, .int l3)] [] ω n r := by
  unfold J_X7_deedsOfAll_28 at h
  refine g_iinc (j := 3) (v := l3 + 1) (lv' := [(3, .int (l3 + 1)), (0, .ref l0), (1, .int l1), (2, .int l2)]) dX7_deedsOfAll_28 rfl rfl (by decide) rfl ?_
  refine g_goto (tgt := 7) dX7_deedsOfAll_31 (by decide) ?_
  refine G.lsub [1, 2, 3, 0] rfl ?_
  exact hk_7 l0 l1 l2 (l3 + 1) _ _ r h
theorem ok_B_X7_deedsOfAll_7 (Θ : GP) (k_7 : Nat → Int32 → Int32 → Int32 → OW → Nat → RO) (hk_7 : ∀ l0 l1 l2 l3 ω n r, k_7 l0 l1 l2 l3 ω n = some r → GR Θ yX7_deedsOfAll cX7_deedsOfAll 4 (some .int) 1 (0, 0) 7 [(0, .ref l0), (1, .int l1), (2, .int l2), (3, .int l3)] [] ω n r) (l0 : Nat) (l1 : Int32) (l2 : Int32) (l3 : Int32) (ω : OW) (n : Nat) (r : Out) (h : B_X7_deedsOfAll_7 Θ k_7 l0 l1 l2 l3 ω n = some r) : GR Θ yX7_deedsOfAll cX7_deedsOfAll 4 (some .int) 1 (0, 0) 7 [(0, .ref l0), (1, .int l1), (2, .int l2), (3, .int l3)] [] ω n r := by
  unfold B_X7_deedsOfAll_7 at h
  refine g_iload_n dX7_deedsOfAll_7 rfl 3 rfl ?_
  refine g_bipush (v := 64) dX7_deedsOfAll_8 (by decide) ?_
  refine g_icmp_ge (tgt := 34) dX7_deedsOfAll_10 (by decide) (fun c1 => ?_) (fun c1 => ?_)
  · rw [if_pos c1] at h
    refine g_iload_n dX7_deedsOfAll_34 rfl 2 rfl ?_
    refine g_if_eq (tgt := 42) dX7_deedsOfAll_35 (by decide) (fun c2 => ?_) (fun c2 => ?_)
    · rw [if_pos c2] at h
      refine g_iconst (v := 0) dX7_deedsOfAll_42 (by decide) ?_
      refine G.lsub [] rfl ?_
      exact ok_J_X7_deedsOfAll_43 Θ 0 _ _ r h
    · rw [if_neg c2] at h
      refine g_iload_n dX7_deedsOfAll_38 rfl 1 rfl ?_
      refine g_goto (tgt := 43) dX7_deedsOfAll_39 (by decide) ?_
      refine G.lsub [] rfl ?_
      exact ok_J_X7_deedsOfAll_43 Θ l1 _ _ r h
  · rw [if_neg c1] at h
    refine g_aload_n dX7_deedsOfAll_13 rfl 0 rfl ?_
    refine g_rA fl_X7_13 dX7_deedsOfAll_14 h (fun a3 h => ?_)
    refine g_iload_n dX7_deedsOfAll_17 rfl 3 rfl ?_
    refine g_lIz dX7_deedsOfAll_18 h (fun x4 h => ?_)
    refine g_if_eq (tgt := 28) dX7_deedsOfAll_19 (by decide) (fun c5 => ?_) (fun c5 => ?_)
    · rw [if_pos c5] at h
      exact ok_J_X7_deedsOfAll_28 Θ k_7 hk_7 l0 l1 l2 l3 _ _ r h
    · rw [if_neg c5] at h
      refine g_iload_n dX7_deedsOfAll_22 rfl 1 rfl ?_
      refine g_iload_n dX7_deedsOfAll_23 rfl 3 rfl ?_
      refine g_iand dX7_deedsOfAll_24 ?_
      refine g_istore_n (lv' := [(1, .int (l1 &&& l3)), (0, .ref l0), (2, .int l2), (3, .int l3)]) dX7_deedsOfAll_25 rfl (by decide) rfl ?_
      refine g_iconst (v := 1) dX7_deedsOfAll_26 (by decide) ?_
      refine g_istore_n (lv' := [(2, .int 1), (1, .int (l1 &&& l3)), (0, .ref l0), (3, .int l3)]) dX7_deedsOfAll_27 rfl (by decide) rfl ?_
      refine G.lsub [2, 1, 0, 3] rfl ?_
      exact ok_J_X7_deedsOfAll_28 Θ k_7 hk_7 l0 (l1 &&& l3) 1 l3 _ _ r h
theorem ok_L_X7_deedsOfAll_7 (Θ : GP) : ∀ (f : Nat) (l0 : Nat) (l1 : Int32) (l2 : Int32) (l3 : Int32) (ω : OW) (n : Nat) (r : Out), L_X7_deedsOfAll_7 Θ f l0 l1 l2 l3 ω n = some r → GR Θ yX7_deedsOfAll cX7_deedsOfAll 4 (some .int) 1 (0, 0) 7 [(0, .ref l0), (1, .int l1), (2, .int l2), (3, .int l3)] [] ω n r := by
  intro f
  induction f with
  | zero =>
    intro l0 l1 l2 l3 ω n r h
    unfold L_X7_deedsOfAll_7 at h
    cases h
  | succ f ih =>
    intro l0 l1 l2 l3 ω n r h
    unfold L_X7_deedsOfAll_7 at h
    exact ok_B_X7_deedsOfAll_7 Θ (L_X7_deedsOfAll_7 Θ f) ih l0 l1 l2 l3 ω n r h
theorem ok_X7_deedsOfAll (Θ : GP) (l0 : Nat) (ω : OW) (n : Nat) : Ok Θ 1 0 0 yX7_deedsOfAll cX7_deedsOfAll 4 (some .int) [.ref l0] ω n (F_X7_deedsOfAll Θ l0 ω n) := by
  refine Ok.of (by decide +kernel) (Nat.le_of_ble_eq_true rfl) (fun r h => ?_)
  unfold F_X7_deedsOfAll at h
  show GR Θ yX7_deedsOfAll cX7_deedsOfAll 4 (some .int) 1 (0, 0) 0 [(0, .ref l0)] [] ω n r
  refine g_bipush (v := 63) dX7_deedsOfAll_0 (by decide) ?_
  refine g_istore_n (lv' := [(1, .int 63), (0, .ref l0)]) dX7_deedsOfAll_2 rfl (by decide) rfl ?_
  refine g_iconst (v := 0) dX7_deedsOfAll_3 (by decide) ?_
  refine g_istore_n (lv' := [(2, .int 0), (1, .int 63), (0, .ref l0)]) dX7_deedsOfAll_4 rfl (by decide) rfl ?_
  refine g_iconst (v := 0) dX7_deedsOfAll_5 (by decide) ?_
  refine g_istore_n (lv' := [(3, .int 0), (2, .int 0), (1, .int 63), (0, .ref l0)]) dX7_deedsOfAll_6 rfl (by decide) rfl ?_
  refine G.lsub [3, 2, 1, 0] rfl ?_
  exact ok_L_X7_deedsOfAll_7 Θ 5000 l0 63 0 0 _ _ r h
def J_X7_greatestPart_76 (Θ : GP) (k_12 : Nat → Int32 → Int32 → Int32 → OW → Nat → RO) (l0 : Nat) (l1 : Int32) (l2 : Int32) (l3 : Int32) (ω : OW) (n : Nat) : RO := k_12 l0 l1 l2 (l3 + 1) ω n
def B_X7_greatestPart_12 (Θ : GP) (k_12 : Nat → Int32 → Int32 → Int32 → OW → Nat → RO) (l0 : Nat) (l1 : Int32) (l2 : Int32) (l3 : Int32) (ω : OW) (n : Nat) : RO := if 64 ≤ l3 then (some (.inl (some (.int l2), ω, n))) else (rA ω l0 7 1 (fun a2 => lI ω (gI Θ) a2 ((l3 * 10) + l1) (fun x3 => rA ω l0 7 0 (fun a4 => lI ω (gZ Θ) a4 l3 (fun x5 => if x5 = 0 then (J_X7_greatestPart_76 Θ k_12 l0 l1 l2 l3 ω n) else (if x3 < 0 then (J_X7_greatestPart_76 Θ k_12 l0 l1 l2 l3 ω n) else (if 380 < x3 then (J_X7_greatestPart_76 Θ k_12 l0 l1 l2 l3 ω n) else (rA ω l0 7 2 (fun a9 => lI ω (gI Θ) a9 x3 (fun x10 => sI ω (gI Θ) a9 x3 (x10 + 1) (fun ω => rA ω l0 7 2 (fun a11 => lI ω (gI Θ) a11 x3 (fun x12 => J_X7_greatestPart_76 Θ k_12 l0 l1 (if l2 < x12 then x12 else l2) l3 ω n)))))))))))))
def L_X7_greatestPart_12 (Θ : GP) : Nat → Nat → Int32 → Int32 → Int32 → OW → Nat → RO
  | 0, _, _, _, _, _, _ => none
  | f + 1, l0, l1, l2, l3, ω, n => B_X7_greatestPart_12 Θ (L_X7_greatestPart_12 Θ f) l0 l1 l2 l3 ω n
def F_X7_greatestPart (Θ : GP) (l0 : Nat) (l1 : Int32) (ω : OW) (n : Nat) : RO := rA ω l0 7 2 (fun a13 => kV (F_J7_fill_53178 Θ a13 0 ω n) (fun ω n => L_X7_greatestPart_12 Θ 5000 l0 l1 0 0 ω n))
theorem ok_J_X7_greatestPart_76 (Θ : GP) (k_12 : Nat → Int32 → Int32 → Int32 → OW → Nat → RO) (hk_12 : ∀ l0 l1 l2 l3 ω n r, k_12 l0 l1 l2 l3 ω n = some r → GR Θ yX7_greatestPart cX7_greatestPart 5 (some .int) 2 (0, 0) 12 [(0, .ref l0), (1, .int l1), (2, .int l2), (3, .int l3)] [] ω n r) (l0 : Nat) (l1 : Int32) (l2 : Int32) (l3 : Int32) (ω : OW) (n : Nat) (r : Out) (h : J_X7_greatestPart_76 Θ k_12 l0 l1 l2 l3 ω n = some r) : GR Θ yX7_greatestPart cX7_greatestPart 5 (some .int) 2 (0, 0) 76 [(0, .ref l0), (1, .int l1), (2, .int l2), (3, .int l3)] [] ω n r := by
  unfold J_X7_greatestPart_76 at h
  refine g_iinc (j := 3) (v := l3 + 1) (lv' := [(3, .int (l3 + 1)), (0, .ref l0), (1, .int l1), (2, .int l2)]) dX7_greatestPart_76 rfl rfl (by decide) rfl ?_
  refine g_goto (tgt := 12) dX7_greatestPart_79 (by decide) ?_
  refine G.lsub [1, 2, 3, 0] rfl ?_
  exact hk_12 l0 l1 l2 (l3 + 1) _ _ r h
theorem ok_B_X7_greatestPart_12 (Θ : GP) (k_12 : Nat → Int32 → Int32 → Int32 → OW → Nat → RO) (hk_12 : ∀ l0 l1 l2 l3 ω n r, k_12 l0 l1 l2 l3 ω n = some r → GR Θ yX7_greatestPart cX7_greatestPart 5 (some .int) 2 (0, 0) 12 [(0, .ref l0), (1, .int l1), (2, .int l2), (3, .int l3)] [] ω n r) (l0 : Nat) (l1 : Int32) (l2 : Int32) (l3 : Int32) (ω : OW) (n : Nat) (r : Out) (h : B_X7_greatestPart_12 Θ k_12 l0 l1 l2 l3 ω n = some r) : GR Θ yX7_greatestPart cX7_greatestPart 5 (some .int) 2 (0, 0) 12 [(0, .ref l0), (1, .int l1), (2, .int l2), (3, .int l3)] [] ω n r := by
  unfold B_X7_greatestPart_12 at h
  refine g_iload_n dX7_greatestPart_12 rfl 3 rfl ?_
  refine g_bipush (v := 64) dX7_greatestPart_13 (by decide) ?_
  refine g_icmp_ge (tgt := 82) dX7_greatestPart_15 (by decide) (fun c1 => ?_) (fun c1 => ?_)
  · rw [if_pos c1] at h
    refine g_iload_n dX7_greatestPart_82 rfl 2 rfl ?_
    cases h
    exact g_iret rfl dX7_greatestPart_83 rfl
  · rw [if_neg c1] at h
    refine g_aload_n dX7_greatestPart_18 rfl 0 rfl ?_
    refine g_rA fl_X7_17 dX7_greatestPart_19 h (fun a2 h => ?_)
    refine g_iload_n dX7_greatestPart_22 rfl 3 rfl ?_
    refine g_bipush (v := 10) dX7_greatestPart_23 (by decide) ?_
    refine g_imul dX7_greatestPart_25 ?_
    refine g_iload_n dX7_greatestPart_26 rfl 1 rfl ?_
    refine g_iadd dX7_greatestPart_27 ?_
    refine g_lIi dX7_greatestPart_28 h (fun x3 h => ?_)
    refine g_istore (lv' := [(4, .int x3), (0, .ref l0), (1, .int l1), (2, .int l2), (3, .int l3)]) dX7_greatestPart_29 (by decide) rfl ?_
    refine g_aload_n dX7_greatestPart_31 rfl 1 rfl ?_
    refine g_rA fl_X7_13 dX7_greatestPart_32 h (fun a4 h => ?_)
    refine g_iload_n dX7_greatestPart_35 rfl 4 rfl ?_
    refine g_lIz dX7_greatestPart_36 h (fun x5 h => ?_)
    refine g_if_eq (tgt := 76) dX7_greatestPart_37 (by decide) (fun c6 => ?_) (fun c6 => ?_)
    · rw [if_pos c6] at h
      refine G.lsub [1, 2, 3, 4] rfl ?_
      exact ok_J_X7_greatestPart_76 Θ k_12 hk_12 l0 l1 l2 l3 _ _ r h
    · rw [if_neg c6] at h
      refine g_iload dX7_greatestPart_40 0 rfl ?_
      refine g_if_lt (tgt := 76) dX7_greatestPart_42 (by decide) (fun c7 => ?_) (fun c7 => ?_)
      · rw [if_pos c7] at h
        refine G.lsub [1, 2, 3, 4] rfl ?_
        exact ok_J_X7_greatestPart_76 Θ k_12 hk_12 l0 l1 l2 l3 _ _ r h
      · rw [if_neg c7] at h
        refine g_iload dX7_greatestPart_45 0 rfl ?_
        refine g_sipush (v := 380) dX7_greatestPart_47 (by decide) ?_
        refine g_icmp_gt (tgt := 76) dX7_greatestPart_50 (by decide) (fun c8 => ?_) (fun c8 => ?_)
        · rw [if_pos c8] at h
          refine G.lsub [1, 2, 3, 4] rfl ?_
          exact ok_J_X7_greatestPart_76 Θ k_12 hk_12 l0 l1 l2 l3 _ _ r h
        · rw [if_neg c8] at h
          refine g_aload_n dX7_greatestPart_53 rfl 1 rfl ?_
          refine g_rA fl_X7_21 dX7_greatestPart_54 h (fun a9 h => ?_)
          refine g_iload dX7_greatestPart_57 0 rfl ?_
          refine g_dup2 dX7_greatestPart_59 rfl rfl ?_
          refine g_lIi dX7_greatestPart_60 h (fun x10 h => ?_)
          refine g_iconst (v := 1) dX7_greatestPart_61 (by decide) ?_
          refine g_iadd dX7_greatestPart_62 ?_
          refine g_sIi dX7_greatestPart_63 h (fun ω h => ?_)
          refine g_iload_n dX7_greatestPart_64 rfl 3 rfl ?_
          refine g_aload_n dX7_greatestPart_65 rfl 1 rfl ?_
          refine g_rA fl_X7_21 dX7_greatestPart_66 h (fun a11 h => ?_)
          refine g_iload dX7_greatestPart_69 0 rfl ?_
          refine g_lIi dX7_greatestPart_71 h (fun x12 h => ?_)
          refine g_max wd_1314 wd_610 wd_135 wd_611 dX7_greatestPart_72 (by decide) (Nat.le_of_ble_eq_true rfl) ?_
          refine g_istore_n (lv' := [(2, .int (if l2 < x12 then x12 else l2)), (4, .int x3), (0, .ref l0), (1, .int l1), (3, .int l3)]) dX7_greatestPart_75 rfl (by decide) rfl ?_
          refine G.lsub [2, 3, 0, 4] rfl ?_
          exact ok_J_X7_greatestPart_76 Θ k_12 hk_12 l0 l1 (if l2 < x12 then x12 else l2) l3 _ _ r h
theorem ok_L_X7_greatestPart_12 (Θ : GP) : ∀ (f : Nat) (l0 : Nat) (l1 : Int32) (l2 : Int32) (l3 : Int32) (ω : OW) (n : Nat) (r : Out), L_X7_greatestPart_12 Θ f l0 l1 l2 l3 ω n = some r → GR Θ yX7_greatestPart cX7_greatestPart 5 (some .int) 2 (0, 0) 12 [(0, .ref l0), (1, .int l1), (2, .int l2), (3, .int l3)] [] ω n r := by
  intro f
  induction f with
  | zero =>
    intro l0 l1 l2 l3 ω n r h
    unfold L_X7_greatestPart_12 at h
    cases h
  | succ f ih =>
    intro l0 l1 l2 l3 ω n r h
    unfold L_X7_greatestPart_12 at h
    exact ok_B_X7_greatestPart_12 Θ (L_X7_greatestPart_12 Θ f) ih l0 l1 l2 l3 ω n r h
theorem ok_X7_greatestPart (Θ : GP) (l0 : Nat) (l1 : Int32) (ω : OW) (n : Nat) : Ok Θ 2 0 0 yX7_greatestPart cX7_greatestPart 5 (some .int) [.ref l0, .int l1] ω n (F_X7_greatestPart Θ l0 l1 ω n) := by
  refine Ok.of (by decide +kernel) (Nat.le_of_ble_eq_true rfl) (fun r h => ?_)
  unfold F_X7_greatestPart at h
  show GR Θ yX7_greatestPart cX7_greatestPart 5 (some .int) 2 (0, 0) 0 [(0, .ref l0), (1, .int l1)] [] ω n r
  refine g_aload_n dX7_greatestPart_0 rfl 0 rfl ?_
  refine g_rA fl_X7_21 dX7_greatestPart_1 h (fun a13 h => ?_)
  refine g_iconst (v := 0) dX7_greatestPart_4 (by decide) ?_
  refine g_sV (As := [.ref a13, .int 0]) ms_X7_57 dX7_greatestPart_5 (ok_J7_fill_53178 Θ a13 0 _ _) rfl rfl (Nat.le_of_ble_eq_true rfl) (by decide) (by decide) (by decide) h (fun ω n h => ?_)
  refine G.less (B' := (0, 0)) (by decide) (by decide) ?_
  refine g_iconst (v := 0) dX7_greatestPart_8 (by decide) ?_
  refine g_istore_n (lv' := [(2, .int 0), (0, .ref l0), (1, .int l1)]) dX7_greatestPart_9 rfl (by decide) rfl ?_
  refine g_iconst (v := 0) dX7_greatestPart_10 (by decide) ?_
  refine g_istore_n (lv' := [(3, .int 0), (2, .int 0), (0, .ref l0), (1, .int l1)]) dX7_greatestPart_11 rfl (by decide) rfl ?_
  refine G.lsub [2, 3, 1, 0] rfl ?_
  exact ok_L_X7_greatestPart_12 Θ 5000 l0 l1 0 0 _ _ r h
def J_X7_bestSlot_56 (Θ : GP) (k_17 : Nat → Nat → Int32 → Int32 → Int32 → OW → Nat → RO) (l0 : Nat) (l1 : Nat) (l2 : Int32) (l3 : Int32) (l4 : Int32) (ω : OW) (n : Nat) : RO := k_17 l0 l1 l2 l3 (l4 + 1) ω n
def J_X7_bestSlot_50 (Θ : GP) (k_17 : Nat → Nat → Int32 → Int32 → Int32 → OW → Nat → RO) (l0 : Nat) (l1 : Nat) (l4 : Int32) (l5 : Int32) (ω : OW) (n : Nat) : RO := J_X7_bestSlot_56 Θ k_17 l0 l1 l4 l5 l4 ω n
def B_X7_bestSlot_17 (Θ : GP) (k_17 : Nat → Nat → Int32 → Int32 → Int32 → OW → Nat → RO) (l0 : Nat) (l1 : Nat) (l2 : Int32) (l3 : Int32) (l4 : Int32) (ω : OW) (n : Nat) : RO := if 10 ≤ l4 then (some (.inl (some (.int l2), ω, n))) else (lI ω (gI Θ) l1 l4 (fun x2 => if x2 < 0 then (J_X7_bestSlot_56 Θ k_17 l0 l1 l2 l3 l4 ω n) else (cO ω l0 7 (kI (F_X7_greatestPart Θ l0 l4 ω n) (fun x4 ω n => if l2 = (-1) then (J_X7_bestSlot_50 Θ k_17 l0 l1 l4 x4 ω n) else (if l3 ≤ x4 then (J_X7_bestSlot_56 Θ k_17 l0 l1 l2 l3 l4 ω n) else (J_X7_bestSlot_50 Θ k_17 l0 l1 l4 x4 ω n)))))))
def L_X7_bestSlot_17 (Θ : GP) : Nat → Nat → Nat → Int32 → Int32 → Int32 → OW → Nat → RO
  | 0, _, _, _, _, _, _, _ => none
  | f + 1, l0, l1, l2, l3, l4, ω, n => B_X7_bestSlot_17 Θ (L_X7_bestSlot_17 Θ f) l0 l1 l2 l3 l4 ω n
def F_X7_bestSlot (Θ : GP) (l0 : Nat) (l1 : Nat) (ω : OW) (n : Nat) : RO := cO ω l0 7 (kI (F_X7_howMany Θ l0 ω n) (fun x7 ω n => if 2 ≤ x7 then (L_X7_bestSlot_17 Θ 5000 l0 l1 (-1) 0 0 ω n) else (some (.inl (some (.int (-1)), ω, n)))))
theorem ok_J_X7_bestSlot_56 (Θ : GP) (k_17 : Nat → Nat → Int32 → Int32 → Int32 → OW → Nat → RO) (hk_17 : ∀ l0 l1 l2 l3 l4 ω n r, k_17 l0 l1 l2 l3 l4 ω n = some r → GR Θ yX7_bestSlot cX7_bestSlot 6 (some .int) 3 (0, 0) 17 [(0, .ref l0), (1, .ref l1), (2, .int l2), (3, .int l3), (4, .int l4)] [] ω n r) (l0 : Nat) (l1 : Nat) (l2 : Int32) (l3 : Int32) (l4 : Int32) (ω : OW) (n : Nat) (r : Out) (h : J_X7_bestSlot_56 Θ k_17 l0 l1 l2 l3 l4 ω n = some r) : GR Θ yX7_bestSlot cX7_bestSlot 6 (some .int) 3 (0, 0) 56 [(0, .ref l0), (1, .ref l1), (2, .int l2), (3, .int l3), (4, .int l4)] [] ω n r := by
  unfold J_X7_bestSlot_56 at h
  refine g_iinc (j := 4) (v := l4 + 1) (lv' := [(4, .int (l4 + 1)), (0, .ref l0), (1, .ref l1), (2, .int l2), (3, .int l3)]) dX7_bestSlot_56 rfl rfl (by decide) rfl ?_
  refine g_goto (tgt := 17) dX7_bestSlot_59 (by decide) ?_
  refine G.lsub [1, 2, 3, 4, 0] rfl ?_
  exact hk_17 l0 l1 l2 l3 (l4 + 1) _ _ r h
theorem ok_J_X7_bestSlot_50 (Θ : GP) (k_17 : Nat → Nat → Int32 → Int32 → Int32 → OW → Nat → RO) (hk_17 : ∀ l0 l1 l2 l3 l4 ω n r, k_17 l0 l1 l2 l3 l4 ω n = some r → GR Θ yX7_bestSlot cX7_bestSlot 6 (some .int) 3 (0, 0) 17 [(0, .ref l0), (1, .ref l1), (2, .int l2), (3, .int l3), (4, .int l4)] [] ω n r) (l0 : Nat) (l1 : Nat) (l4 : Int32) (l5 : Int32) (ω : OW) (n : Nat) (r : Out) (h : J_X7_bestSlot_50 Θ k_17 l0 l1 l4 l5 ω n = some r) : GR Θ yX7_bestSlot cX7_bestSlot 6 (some .int) 3 (0, 0) 50 [(0, .ref l0), (1, .ref l1), (4, .int l4), (5, .int l5)] [] ω n r := by
  unfold J_X7_bestSlot_50 at h
  refine g_iload dX7_bestSlot_50 3 rfl ?_
  refine g_istore_n (lv' := [(3, .int l5), (0, .ref l0), (1, .ref l1), (4, .int l4), (5, .int l5)]) dX7_bestSlot_52 rfl (by decide) rfl ?_
  refine g_iload dX7_bestSlot_53 3 rfl ?_
  refine g_istore_n (lv' := [(2, .int l4), (3, .int l5), (0, .ref l0), (1, .ref l1), (4, .int l4), (5, .int l5)]) dX7_bestSlot_55 rfl (by decide) rfl ?_
  refine G.lsub [2, 3, 0, 1, 4] rfl ?_
  exact ok_J_X7_bestSlot_56 Θ k_17 hk_17 l0 l1 l4 l5 l4 _ _ r h
theorem ok_B_X7_bestSlot_17 (Θ : GP) (k_17 : Nat → Nat → Int32 → Int32 → Int32 → OW → Nat → RO) (hk_17 : ∀ l0 l1 l2 l3 l4 ω n r, k_17 l0 l1 l2 l3 l4 ω n = some r → GR Θ yX7_bestSlot cX7_bestSlot 6 (some .int) 3 (0, 0) 17 [(0, .ref l0), (1, .ref l1), (2, .int l2), (3, .int l3), (4, .int l4)] [] ω n r) (l0 : Nat) (l1 : Nat) (l2 : Int32) (l3 : Int32) (l4 : Int32) (ω : OW) (n : Nat) (r : Out) (h : B_X7_bestSlot_17 Θ k_17 l0 l1 l2 l3 l4 ω n = some r) : GR Θ yX7_bestSlot cX7_bestSlot 6 (some .int) 3 (0, 0) 17 [(0, .ref l0), (1, .ref l1), (2, .int l2), (3, .int l3), (4, .int l4)] [] ω n r := by
  unfold B_X7_bestSlot_17 at h
  refine g_iload dX7_bestSlot_17 4 rfl ?_
  refine g_bipush (v := 10) dX7_bestSlot_19 (by decide) ?_
  refine g_icmp_ge (tgt := 62) dX7_bestSlot_21 (by decide) (fun c1 => ?_) (fun c1 => ?_)
  · rw [if_pos c1] at h
    refine g_iload_n dX7_bestSlot_62 rfl 2 rfl ?_
    cases h
    exact g_iret rfl dX7_bestSlot_63 rfl
  · rw [if_neg c1] at h
    refine g_aload_n dX7_bestSlot_24 rfl 1 rfl ?_
    refine g_iload dX7_bestSlot_25 4 rfl ?_
    refine g_lIi dX7_bestSlot_27 h (fun x2 h => ?_)
    refine g_if_lt (tgt := 56) dX7_bestSlot_28 (by decide) (fun c3 => ?_) (fun c3 => ?_)
    · rw [if_pos c3] at h
      exact ok_J_X7_bestSlot_56 Θ k_17 hk_17 l0 l1 l2 l3 l4 _ _ r h
    · rw [if_neg c3] at h
      refine g_aload_n dX7_bestSlot_31 rfl 0 rfl ?_
      refine g_iload dX7_bestSlot_32 4 rfl ?_
      refine g_cI (ci := 7) (As := [.int l4]) mv_X7_54 dX7_bestSlot_34 rfl (ok_X7_greatestPart Θ l0 l4 _ _) rfl rfl (Nat.le_of_ble_eq_true rfl) (by decide) (by decide) (by decide) h (fun x4 ω n h => ?_)
      refine G.less (B' := (0, 0)) (by decide) (by decide) ?_
      refine g_istore (lv' := [(5, .int x4), (0, .ref l0), (1, .ref l1), (2, .int l2), (3, .int l3), (4, .int l4)]) dX7_bestSlot_37 (by decide) rfl ?_
      refine g_iload_n dX7_bestSlot_39 rfl 3 rfl ?_
      refine g_iconst (v := (-1)) dX7_bestSlot_40 (by decide) ?_
      refine g_icmp_eq (tgt := 50) dX7_bestSlot_41 (by decide) (fun c5 => ?_) (fun c5 => ?_)
      · rw [if_pos c5] at h
        refine G.lsub [1, 2, 5, 0] rfl ?_
        exact ok_J_X7_bestSlot_50 Θ k_17 hk_17 l0 l1 l4 x4 _ _ r h
      · rw [if_neg c5] at h
        refine g_iload dX7_bestSlot_44 0 rfl ?_
        refine g_iload_n dX7_bestSlot_46 rfl 4 rfl ?_
        refine g_icmp_ge (tgt := 56) dX7_bestSlot_47 (by decide) (fun c6 => ?_) (fun c6 => ?_)
        · rw [if_pos c6] at h
          refine G.lsub [1, 2, 3, 4, 5] rfl ?_
          exact ok_J_X7_bestSlot_56 Θ k_17 hk_17 l0 l1 l2 l3 l4 _ _ r h
        · rw [if_neg c6] at h
          refine G.lsub [1, 2, 5, 0] rfl ?_
          exact ok_J_X7_bestSlot_50 Θ k_17 hk_17 l0 l1 l4 x4 _ _ r h
theorem ok_L_X7_bestSlot_17 (Θ : GP) : ∀ (f : Nat) (l0 : Nat) (l1 : Nat) (l2 : Int32) (l3 : Int32) (l4 : Int32) (ω : OW) (n : Nat) (r : Out), L_X7_bestSlot_17 Θ f l0 l1 l2 l3 l4 ω n = some r → GR Θ yX7_bestSlot cX7_bestSlot 6 (some .int) 3 (0, 0) 17 [(0, .ref l0), (1, .ref l1), (2, .int l2), (3, .int l3), (4, .int l4)] [] ω n r := by
  intro f
  induction f with
  | zero =>
    intro l0 l1 l2 l3 l4 ω n r h
    unfold L_X7_bestSlot_17 at h
    cases h
  | succ f ih =>
    intro l0 l1 l2 l3 l4 ω n r h
    unfold L_X7_bestSlot_17 at h
    exact ok_B_X7_bestSlot_17 Θ (L_X7_bestSlot_17 Θ f) ih l0 l1 l2 l3 l4 ω n r h
theorem ok_X7_bestSlot (Θ : GP) (l0 : Nat) (l1 : Nat) (ω : OW) (n : Nat) : Ok Θ 3 0 0 yX7_bestSlot cX7_bestSlot 6 (some .int) [.ref l0, .ref l1] ω n (F_X7_bestSlot Θ l0 l1 ω n) := by
  refine Ok.of (by decide +kernel) (Nat.le_of_ble_eq_true rfl) (fun r h => ?_)
  unfold F_X7_bestSlot at h
  show GR Θ yX7_bestSlot cX7_bestSlot 6 (some .int) 3 (0, 0) 0 [(0, .ref l0), (1, .ref l1)] [] ω n r
  refine g_aload_n dX7_bestSlot_0 rfl 0 rfl ?_
  refine g_cI (ci := 7) (As := []) mv_X7_50 dX7_bestSlot_1 rfl (ok_X7_howMany Θ l0 _ _) rfl rfl (Nat.le_of_ble_eq_true rfl) (by decide) (by decide) (by decide) h (fun x7 ω n h => ?_)
  refine G.less (B' := (0, 0)) (by decide) (by decide) ?_
  refine g_iconst (v := 2) dX7_bestSlot_4 (by decide) ?_
  refine g_icmp_ge (tgt := 10) dX7_bestSlot_5 (by decide) (fun c8 => ?_) (fun c8 => ?_)
  · rw [if_pos c8] at h
    refine g_iconst (v := (-1)) dX7_bestSlot_10 (by decide) ?_
    refine g_istore_n (lv' := [(2, .int (-1)), (0, .ref l0), (1, .ref l1)]) dX7_bestSlot_11 rfl (by decide) rfl ?_
    refine g_iconst (v := 0) dX7_bestSlot_12 (by decide) ?_
    refine g_istore_n (lv' := [(3, .int 0), (2, .int (-1)), (0, .ref l0), (1, .ref l1)]) dX7_bestSlot_13 rfl (by decide) rfl ?_
    refine g_iconst (v := 0) dX7_bestSlot_14 (by decide) ?_
    refine g_istore (lv' := [(4, .int 0), (3, .int 0), (2, .int (-1)), (0, .ref l0), (1, .ref l1)]) dX7_bestSlot_15 (by decide) rfl ?_
    refine G.lsub [3, 4, 2, 1, 0] rfl ?_
    exact ok_L_X7_bestSlot_17 Θ 5000 l0 l1 (-1) 0 0 _ _ r h
  · rw [if_neg c8] at h
    refine g_iconst (v := (-1)) dX7_bestSlot_8 (by decide) ?_
    cases h
    exact g_iret rfl dX7_bestSlot_9 rfl
def J_X8_hasRoom_17 (Θ : GP) (s0 : Int32) (ω : OW) (n : Nat) : RO := bz s0 (some (.inl (some (.int s0), ω, n)))
def F_X8_hasRoom (Θ : GP) (l0 : Nat) (l1 : Int32) (ω : OW) (n : Nat) : RO := rI ω l0 8 0 (fun x2 => if 400 < (x2 + l1) then (J_X8_hasRoom_17 Θ 0 ω n) else (J_X8_hasRoom_17 Θ 1 ω n))
theorem ok_J_X8_hasRoom_17 (Θ : GP) (s0 : Int32) (ω : OW) (n : Nat) (r : Out) (h : J_X8_hasRoom_17 Θ s0 ω n = some r) : GR Θ yX8_hasRoom cX8_hasRoom 2 (some .boolean) 1 (0, 0) 17 [] [.int s0] ω n r := by
  unfold J_X8_hasRoom_17 at h
  obtain ⟨z1, h⟩ := bz_inv h
  cases h
  exact g_zret rfl z1 dX8_hasRoom_17 rfl
theorem ok_X8_hasRoom (Θ : GP) (l0 : Nat) (l1 : Int32) (ω : OW) (n : Nat) : Ok Θ 1 0 0 yX8_hasRoom cX8_hasRoom 2 (some .boolean) [.ref l0, .int l1] ω n (F_X8_hasRoom Θ l0 l1 ω n) := by
  refine Ok.of (by decide +kernel) (Nat.le_of_ble_eq_true rfl) (fun r h => ?_)
  unfold F_X8_hasRoom at h
  show GR Θ yX8_hasRoom cX8_hasRoom 2 (some .boolean) 1 (0, 0) 0 [(0, .ref l0), (1, .int l1)] [] ω n r
  refine g_aload_n dX8_hasRoom_0 rfl 0 rfl ?_
  refine g_rI fl_X8_9 dX8_hasRoom_1 h (fun x2 h => ?_)
  refine g_iload_n dX8_hasRoom_4 rfl 1 rfl ?_
  refine g_iadd dX8_hasRoom_5 ?_
  refine g_sipush (v := 400) dX8_hasRoom_6 (by decide) ?_
  refine g_icmp_gt (tgt := 16) dX8_hasRoom_9 (by decide) (fun c3 => ?_) (fun c3 => ?_)
  · rw [if_pos c3] at h
    refine g_iconst (v := 0) dX8_hasRoom_16 (by decide) ?_
    refine G.lsub [] rfl ?_
    exact ok_J_X8_hasRoom_17 Θ 0 _ _ r h
  · rw [if_neg c3] at h
    refine g_iconst (v := 1) dX8_hasRoom_12 (by decide) ?_
    refine g_goto (tgt := 17) dX8_hasRoom_13 (by decide) ?_
    refine G.lsub [] rfl ?_
    exact ok_J_X8_hasRoom_17 Θ 1 _ _ r h
def J_X8_put_47 (Θ : GP) (ω : OW) (n : Nat) : RO := some (.inl (none, ω, n))
def B_X8_put_11 (Θ : GP) (k_11 : Nat → Int32 → Int32 → OW → Nat → RO) (l0 : Nat) (l1 : Int32) (l2 : Int32) (ω : OW) (n : Nat) : RO := if l2 < 0 then (J_X8_put_47 Θ ω n) else (rA ω l0 8 5 (fun a2 => rI ω l0 8 0 (fun x3 => sI ω (gI Θ) a2 x3 ((l1 >>> ((l2 : Int32) &&& 31)) &&& 255) (fun ω => rI ω l0 8 0 (fun x4 => wF ω l0 8 0 (.int (x4 + 1)) (fun ω => k_11 l0 l1 (l2 + (-8)) ω n))))))
def L_X8_put_11 (Θ : GP) : Nat → Nat → Int32 → Int32 → OW → Nat → RO
  | 0, _, _, _, _, _ => none
  | f + 1, l0, l1, l2, ω, n => B_X8_put_11 Θ (L_X8_put_11 Θ f) l0 l1 l2 ω n
def F_X8_put (Θ : GP) (l0 : Nat) (l1 : Int32) (ω : OW) (n : Nat) : RO := cO ω l0 8 (kI (F_X8_hasRoom Θ l0 4 ω n) (fun x5 ω n => if x5 = 0 then (J_X8_put_47 Θ ω n) else (L_X8_put_11 Θ 5000 l0 l1 24 ω n)))
theorem ok_J_X8_put_47 (Θ : GP) (ω : OW) (n : Nat) (r : Out) (h : J_X8_put_47 Θ ω n = some r) : GR Θ yX8_put cX8_put 3 (none : Option Jvm.ClassFile.FieldType) 2 (0, 0) 47 [] [] ω n r := by
  unfold J_X8_put_47 at h
  cases h
  exact g_vret rfl dX8_put_47 rfl
theorem ok_B_X8_put_11 (Θ : GP) (k_11 : Nat → Int32 → Int32 → OW → Nat → RO) (hk_11 : ∀ l0 l1 l2 ω n r, k_11 l0 l1 l2 ω n = some r → GR Θ yX8_put cX8_put 3 (none : Option Jvm.ClassFile.FieldType) 2 (0, 0) 11 [(0, .ref l0), (1, .int l1), (2, .int l2)] [] ω n r) (l0 : Nat) (l1 : Int32) (l2 : Int32) (ω : OW) (n : Nat) (r : Out) (h : B_X8_put_11 Θ k_11 l0 l1 l2 ω n = some r) : GR Θ yX8_put cX8_put 3 (none : Option Jvm.ClassFile.FieldType) 2 (0, 0) 11 [(0, .ref l0), (1, .int l1), (2, .int l2)] [] ω n r := by
  unfold B_X8_put_11 at h
  refine g_iload_n dX8_put_11 rfl 2 rfl ?_
  refine g_if_lt (tgt := 47) dX8_put_12 (by decide) (fun c1 => ?_) (fun c1 => ?_)
  · rw [if_pos c1] at h
    refine G.lsub [] rfl ?_
    exact ok_J_X8_put_47 Θ _ _ r h
  · rw [if_neg c1] at h
    refine g_aload_n dX8_put_15 rfl 0 rfl ?_
    refine g_rA fl_X8_28 dX8_put_16 h (fun a2 h => ?_)
    refine g_aload_n dX8_put_19 rfl 0 rfl ?_
    refine g_rI fl_X8_9 dX8_put_20 h (fun x3 h => ?_)
    refine g_iload_n dX8_put_23 rfl 1 rfl ?_
    refine g_iload_n dX8_put_24 rfl 2 rfl ?_
    refine g_ishr dX8_put_25 ?_
    refine g_sipush (v := 255) dX8_put_26 (by decide) ?_
    refine g_iand dX8_put_29 ?_
    refine g_sIi dX8_put_30 h (fun ω h => ?_)
    refine g_aload_n dX8_put_31 rfl 0 rfl ?_
    refine g_dup dX8_put_32 rfl ?_
    refine g_rI fl_X8_9 dX8_put_33 h (fun x4 h => ?_)
    refine g_iconst (v := 1) dX8_put_36 (by decide) ?_
    refine g_iadd dX8_put_37 ?_
    refine g_wF fl_X8_9 dX8_put_38 (rfl) rfl h (fun ω h => ?_)
    refine g_iinc (j := 2) (v := l2 + (-8)) (lv' := [(2, .int (l2 + (-8))), (0, .ref l0), (1, .int l1)]) dX8_put_41 rfl rfl (by decide) rfl ?_
    refine g_goto (tgt := 11) dX8_put_44 (by decide) ?_
    refine G.lsub [1, 2, 0] rfl ?_
    exact hk_11 l0 l1 (l2 + (-8)) _ _ r h
theorem ok_L_X8_put_11 (Θ : GP) : ∀ (f : Nat) (l0 : Nat) (l1 : Int32) (l2 : Int32) (ω : OW) (n : Nat) (r : Out), L_X8_put_11 Θ f l0 l1 l2 ω n = some r → GR Θ yX8_put cX8_put 3 (none : Option Jvm.ClassFile.FieldType) 2 (0, 0) 11 [(0, .ref l0), (1, .int l1), (2, .int l2)] [] ω n r := by
  intro f
  induction f with
  | zero =>
    intro l0 l1 l2 ω n r h
    unfold L_X8_put_11 at h
    cases h
  | succ f ih =>
    intro l0 l1 l2 ω n r h
    unfold L_X8_put_11 at h
    exact ok_B_X8_put_11 Θ (L_X8_put_11 Θ f) ih l0 l1 l2 ω n r h
theorem ok_X8_put (Θ : GP) (l0 : Nat) (l1 : Int32) (ω : OW) (n : Nat) : Ok Θ 2 0 0 yX8_put cX8_put 3 (none : Option Jvm.ClassFile.FieldType) [.ref l0, .int l1] ω n (F_X8_put Θ l0 l1 ω n) := by
  refine Ok.of (by decide +kernel) (Nat.le_of_ble_eq_true rfl) (fun r h => ?_)
  unfold F_X8_put at h
  show GR Θ yX8_put cX8_put 3 (none : Option Jvm.ClassFile.FieldType) 2 (0, 0) 0 [(0, .ref l0), (1, .int l1)] [] ω n r
  refine g_aload_n dX8_put_0 rfl 0 rfl ?_
  refine g_iconst (v := 4) dX8_put_1 (by decide) ?_
  refine g_cI (ci := 8) (As := [.int 4]) mv_X8_32 dX8_put_2 rfl (ok_X8_hasRoom Θ l0 4 _ _) rfl rfl (Nat.le_of_ble_eq_true rfl) (by decide) (by decide) (by decide) h (fun x5 ω n h => ?_)
  refine G.less (B' := (0, 0)) (by decide) (by decide) ?_
  refine g_if_eq (tgt := 47) dX8_put_5 (by decide) (fun c6 => ?_) (fun c6 => ?_)
  · rw [if_pos c6] at h
    refine G.lsub [] rfl ?_
    exact ok_J_X8_put_47 Θ _ _ r h
  · rw [if_neg c6] at h
    refine g_bipush (v := 24) dX8_put_8 (by decide) ?_
    refine g_istore_n (lv' := [(2, .int 24), (0, .ref l0), (1, .int l1)]) dX8_put_10 rfl (by decide) rfl ?_
    refine G.lsub [1, 2, 0] rfl ?_
    exact ok_L_X8_put_11 Θ 5000 l0 l1 24 _ _ r h
def B_X8_tellsFrights_22 (Θ : GP) (k_22 : Nat → Int32 → OW → Nat → RO) (l0 : Nat) (l1 : Int32) (ω : OW) (n : Nat) : RO := rI ω l0 8 0 (fun x1 => if x1 ≤ l1 then (some (.inl (some (.int 1), ω, n))) else (rA ω l0 8 5 (fun a3 => lI ω (gI Θ) a3 l1 (fun x4 => if x4 < 10 then (k_22 l0 (l1 + 2) ω n) else (some (.inl (some (.int 0), ω, n)))))))
def L_X8_tellsFrights_22 (Θ : GP) : Nat → Nat → Int32 → OW → Nat → RO
  | 0, _, _, _, _ => none
  | f + 1, l0, l1, ω, n => B_X8_tellsFrights_22 Θ (L_X8_tellsFrights_22 Θ f) l0 l1 ω n
def J_X8_tellsFrights_18 (Θ : GP) (ω : OW) (n : Nat) : RO := some (.inl (some (.int 0), ω, n))
def F_X8_tellsFrights (Θ : GP) (l0 : Nat) (ω : OW) (n : Nat) : RO := rI ω l0 8 0 (fun x6 => if 40 < x6 then (J_X8_tellsFrights_18 Θ ω n) else (rI ω l0 8 0 (fun x8 => if (x8 - x8 / 2 * 2) = 0 then (L_X8_tellsFrights_22 Θ 5000 l0 0 ω n) else (J_X8_tellsFrights_18 Θ ω n))))
theorem ok_B_X8_tellsFrights_22 (Θ : GP) (k_22 : Nat → Int32 → OW → Nat → RO) (hk_22 : ∀ l0 l1 ω n r, k_22 l0 l1 ω n = some r → GR Θ yX8_tellsFrights cX8_tellsFrights 2 (some .boolean) 1 (0, 0) 22 [(0, .ref l0), (1, .int l1)] [] ω n r) (l0 : Nat) (l1 : Int32) (ω : OW) (n : Nat) (r : Out) (h : B_X8_tellsFrights_22 Θ k_22 l0 l1 ω n = some r) : GR Θ yX8_tellsFrights cX8_tellsFrights 2 (some .boolean) 1 (0, 0) 22 [(0, .ref l0), (1, .int l1)] [] ω n r := by
  unfold B_X8_tellsFrights_22 at h
  refine g_iload_n dX8_tellsFrights_22 rfl 1 rfl ?_
  refine g_aload_n dX8_tellsFrights_23 rfl 0 rfl ?_
  refine g_rI fl_X8_9 dX8_tellsFrights_24 h (fun x1 h => ?_)
  refine g_icmp_ge (tgt := 49) dX8_tellsFrights_27 (by decide) (fun c2 => ?_) (fun c2 => ?_)
  · rw [if_pos c2] at h
    refine g_iconst (v := 1) dX8_tellsFrights_49 (by decide) ?_
    cases h
    exact g_zret rfl rfl dX8_tellsFrights_50 rfl
  · rw [if_neg c2] at h
    refine g_aload_n dX8_tellsFrights_30 rfl 0 rfl ?_
    refine g_rA fl_X8_28 dX8_tellsFrights_31 h (fun a3 h => ?_)
    refine g_iload_n dX8_tellsFrights_34 rfl 1 rfl ?_
    refine g_lIi dX8_tellsFrights_35 h (fun x4 h => ?_)
    refine g_bipush (v := 10) dX8_tellsFrights_36 (by decide) ?_
    refine g_icmp_lt (tgt := 43) dX8_tellsFrights_38 (by decide) (fun c5 => ?_) (fun c5 => ?_)
    · rw [if_pos c5] at h
      refine g_iinc (j := 1) (v := l1 + 2) (lv' := [(1, .int (l1 + 2)), (0, .ref l0)]) dX8_tellsFrights_43 rfl rfl (by decide) rfl ?_
      refine g_goto (tgt := 22) dX8_tellsFrights_46 (by decide) ?_
      refine G.lsub [1, 0] rfl ?_
      exact hk_22 l0 (l1 + 2) _ _ r h
    · rw [if_neg c5] at h
      refine g_iconst (v := 0) dX8_tellsFrights_41 (by decide) ?_
      cases h
      exact g_zret rfl rfl dX8_tellsFrights_42 rfl
theorem ok_L_X8_tellsFrights_22 (Θ : GP) : ∀ (f : Nat) (l0 : Nat) (l1 : Int32) (ω : OW) (n : Nat) (r : Out), L_X8_tellsFrights_22 Θ f l0 l1 ω n = some r → GR Θ yX8_tellsFrights cX8_tellsFrights 2 (some .boolean) 1 (0, 0) 22 [(0, .ref l0), (1, .int l1)] [] ω n r := by
  intro f
  induction f with
  | zero =>
    intro l0 l1 ω n r h
    unfold L_X8_tellsFrights_22 at h
    cases h
  | succ f ih =>
    intro l0 l1 ω n r h
    unfold L_X8_tellsFrights_22 at h
    exact ok_B_X8_tellsFrights_22 Θ (L_X8_tellsFrights_22 Θ f) ih l0 l1 ω n r h
theorem ok_J_X8_tellsFrights_18 (Θ : GP) (ω : OW) (n : Nat) (r : Out) (h : J_X8_tellsFrights_18 Θ ω n = some r) : GR Θ yX8_tellsFrights cX8_tellsFrights 2 (some .boolean) 1 (0, 0) 18 [] [] ω n r := by
  unfold J_X8_tellsFrights_18 at h
  refine g_iconst (v := 0) dX8_tellsFrights_18 (by decide) ?_
  cases h
  exact g_zret rfl rfl dX8_tellsFrights_19 rfl
theorem ok_X8_tellsFrights (Θ : GP) (l0 : Nat) (ω : OW) (n : Nat) : Ok Θ 1 0 0 yX8_tellsFrights cX8_tellsFrights 2 (some .boolean) [.ref l0] ω n (F_X8_tellsFrights Θ l0 ω n) := by
  refine Ok.of (by decide +kernel) (Nat.le_of_ble_eq_true rfl) (fun r h => ?_)
  unfold F_X8_tellsFrights at h
  show GR Θ yX8_tellsFrights cX8_tellsFrights 2 (some .boolean) 1 (0, 0) 0 [(0, .ref l0)] [] ω n r
  refine g_aload_n dX8_tellsFrights_0 rfl 0 rfl ?_
  refine g_rI fl_X8_9 dX8_tellsFrights_1 h (fun x6 h => ?_)
  refine g_bipush (v := 40) dX8_tellsFrights_4 (by decide) ?_
  refine g_icmp_gt (tgt := 18) dX8_tellsFrights_6 (by decide) (fun c7 => ?_) (fun c7 => ?_)
  · rw [if_pos c7] at h
    refine G.lsub [] rfl ?_
    exact ok_J_X8_tellsFrights_18 Θ _ _ r h
  · rw [if_neg c7] at h
    refine g_aload_n dX8_tellsFrights_9 rfl 0 rfl ?_
    refine g_rI fl_X8_9 dX8_tellsFrights_10 h (fun x8 h => ?_)
    refine g_iconst (v := 2) dX8_tellsFrights_13 (by decide) ?_
    refine g_irem dX8_tellsFrights_14 (by decide) ?_
    refine g_if_eq (tgt := 20) dX8_tellsFrights_15 (by decide) (fun c9 => ?_) (fun c9 => ?_)
    · rw [if_pos c9] at h
      refine g_iconst (v := 0) dX8_tellsFrights_20 (by decide) ?_
      refine g_istore_n (lv' := [(1, .int 0), (0, .ref l0)]) dX8_tellsFrights_21 rfl (by decide) rfl ?_
      refine G.lsub [1, 0] rfl ?_
      exact ok_L_X8_tellsFrights_22 Θ 5000 l0 0 _ _ r h
    · rw [if_neg c9] at h
      refine G.lsub [] rfl ?_
      exact ok_J_X8_tellsFrights_18 Θ _ _ r h
def J_X9_ease_58 (Θ : GP) (l0 : Nat) (l1 : Int32) (ω : OW) (n : Nat) : RO := rI ω l0 9 3 (fun x1 => wF ω l0 9 3 (.int (if 0 < (x1 - l1) then (x1 - l1) else 0)) (fun ω => some (.inl (none, ω, n))))
def B_X9_ease_10 (Θ : GP) (k_10 : Nat → Int32 → Int32 → OW → Nat → RO) (l0 : Nat) (l1 : Int32) (l2 : Int32) (ω : OW) (n : Nat) : RO := rI ω l0 9 3 (fun x2 => if x2 < l2 then (J_X9_ease_58 Θ l0 l1 ω n) else (if l1 ≤ 0 then (J_X9_ease_58 Θ l0 l1 ω n) else (rA ω l0 9 4 (fun a5 => lI ω (gI Θ) a5 l2 (fun x6 => rA ω l0 9 4 (fun a7 => sI ω (gI Θ) a7 l2 0 (fun ω => rA ω l0 9 4 (fun a8 => lI ω (gI Θ) a8 (if 0 < (l2 - l1) then (l2 - l1) else 0) (fun x9 => sI ω (gI Θ) a8 (if 0 < (l2 - l1) then (l2 - l1) else 0) (x9 + x6) (fun ω => k_10 l0 l1 (l2 + 1) ω n))))))))))
def L_X9_ease_10 (Θ : GP) : Nat → Nat → Int32 → Int32 → OW → Nat → RO
  | 0, _, _, _, _, _ => none
  | f + 1, l0, l1, l2, ω, n => B_X9_ease_10 Θ (L_X9_ease_10 Θ f) l0 l1 l2 ω n
def F_X9_ease (Θ : GP) (l0 : Nat) (ω : OW) (n : Nat) : RO := rA ω l0 9 6 (fun a10 => rI ω a10 0 3 (fun x11 => L_X9_ease_10 Θ 5000 l0 x11 1 ω n))
theorem ok_J_X9_ease_58 (Θ : GP) (l0 : Nat) (l1 : Int32) (ω : OW) (n : Nat) (r : Out) (h : J_X9_ease_58 Θ l0 l1 ω n = some r) : GR Θ yX9_ease cX9_ease 4 (none : Option Jvm.ClassFile.FieldType) 1 (0, 0) 58 [(0, .ref l0), (1, .int l1)] [] ω n r := by
  unfold J_X9_ease_58 at h
  refine g_aload_n dX9_ease_58 rfl 0 rfl ?_
  refine g_iconst (v := 0) dX9_ease_59 (by decide) ?_
  refine g_aload_n dX9_ease_60 rfl 0 rfl ?_
  refine g_rI fl_X9_22 dX9_ease_61 h (fun x1 h => ?_)
  refine g_iload_n dX9_ease_64 rfl 1 rfl ?_
  refine g_isub dX9_ease_65 ?_
  refine g_max wd_609 wd_610 wd_135 wd_611 dX9_ease_66 (by decide) (Nat.le_of_ble_eq_true rfl) ?_
  refine g_wF fl_X9_22 dX9_ease_69 (rfl) rfl h (fun ω h => ?_)
  cases h
  exact g_vret rfl dX9_ease_72 rfl
theorem ok_B_X9_ease_10 (Θ : GP) (k_10 : Nat → Int32 → Int32 → OW → Nat → RO) (hk_10 : ∀ l0 l1 l2 ω n r, k_10 l0 l1 l2 ω n = some r → GR Θ yX9_ease cX9_ease 4 (none : Option Jvm.ClassFile.FieldType) 1 (0, 0) 10 [(0, .ref l0), (1, .int l1), (2, .int l2)] [] ω n r) (l0 : Nat) (l1 : Int32) (l2 : Int32) (ω : OW) (n : Nat) (r : Out) (h : B_X9_ease_10 Θ k_10 l0 l1 l2 ω n = some r) : GR Θ yX9_ease cX9_ease 4 (none : Option Jvm.ClassFile.FieldType) 1 (0, 0) 10 [(0, .ref l0), (1, .int l1), (2, .int l2)] [] ω n r := by
  unfold B_X9_ease_10 at h
  refine g_iload_n dX9_ease_10 rfl 2 rfl ?_
  refine g_aload_n dX9_ease_11 rfl 0 rfl ?_
  refine g_rI fl_X9_22 dX9_ease_12 h (fun x2 h => ?_)
  refine g_icmp_gt (tgt := 58) dX9_ease_15 (by decide) (fun c3 => ?_) (fun c3 => ?_)
  · rw [if_pos c3] at h
    refine G.lsub [0, 1] rfl ?_
    exact ok_J_X9_ease_58 Θ l0 l1 _ _ r h
  · rw [if_neg c3] at h
    refine g_iload_n dX9_ease_18 rfl 1 rfl ?_
    refine g_if_le (tgt := 58) dX9_ease_19 (by decide) (fun c4 => ?_) (fun c4 => ?_)
    · rw [if_pos c4] at h
      refine G.lsub [0, 1] rfl ?_
      exact ok_J_X9_ease_58 Θ l0 l1 _ _ r h
    · rw [if_neg c4] at h
      refine g_aload_n dX9_ease_22 rfl 0 rfl ?_
      refine g_rA fl_X9_25 dX9_ease_23 h (fun a5 h => ?_)
      refine g_iload_n dX9_ease_26 rfl 2 rfl ?_
      refine g_lIi dX9_ease_27 h (fun x6 h => ?_)
      refine g_istore_n (lv' := [(3, .int x6), (0, .ref l0), (1, .int l1), (2, .int l2)]) dX9_ease_28 rfl (by decide) rfl ?_
      refine g_aload_n dX9_ease_29 rfl 1 rfl ?_
      refine g_rA fl_X9_25 dX9_ease_30 h (fun a7 h => ?_)
      refine g_iload_n dX9_ease_33 rfl 3 rfl ?_
      refine g_iconst (v := 0) dX9_ease_34 (by decide) ?_
      refine g_sIi dX9_ease_35 h (fun ω h => ?_)
      refine g_aload_n dX9_ease_36 rfl 1 rfl ?_
      refine g_rA fl_X9_25 dX9_ease_37 h (fun a8 h => ?_)
      refine g_iconst (v := 0) dX9_ease_40 (by decide) ?_
      refine g_iload_n dX9_ease_41 rfl 3 rfl ?_
      refine g_iload_n dX9_ease_42 rfl 2 rfl ?_
      refine g_isub dX9_ease_43 ?_
      refine g_max wd_609 wd_610 wd_135 wd_611 dX9_ease_44 (by decide) (Nat.le_of_ble_eq_true rfl) ?_
      refine g_dup2 dX9_ease_47 rfl rfl ?_
      refine g_lIi dX9_ease_48 h (fun x9 h => ?_)
      refine g_iload_n dX9_ease_49 rfl 0 rfl ?_
      refine g_iadd dX9_ease_50 ?_
      refine g_sIi dX9_ease_51 h (fun ω h => ?_)
      refine g_iinc (j := 3) (v := l2 + 1) (lv' := [(2, .int (l2 + 1)), (3, .int x6), (0, .ref l0), (1, .int l1)]) dX9_ease_52 rfl rfl (by decide) rfl ?_
      refine g_goto (tgt := 10) dX9_ease_55 (by decide) ?_
      refine G.lsub [2, 3, 0] rfl ?_
      exact hk_10 l0 l1 (l2 + 1) _ _ r h
theorem ok_L_X9_ease_10 (Θ : GP) : ∀ (f : Nat) (l0 : Nat) (l1 : Int32) (l2 : Int32) (ω : OW) (n : Nat) (r : Out), L_X9_ease_10 Θ f l0 l1 l2 ω n = some r → GR Θ yX9_ease cX9_ease 4 (none : Option Jvm.ClassFile.FieldType) 1 (0, 0) 10 [(0, .ref l0), (1, .int l1), (2, .int l2)] [] ω n r := by
  intro f
  induction f with
  | zero =>
    intro l0 l1 l2 ω n r h
    unfold L_X9_ease_10 at h
    cases h
  | succ f ih =>
    intro l0 l1 l2 ω n r h
    unfold L_X9_ease_10 at h
    exact ok_B_X9_ease_10 Θ (L_X9_ease_10 Θ f) ih l0 l1 l2 ω n r h
theorem ok_X9_ease (Θ : GP) (l0 : Nat) (ω : OW) (n : Nat) : Ok Θ 1 0 0 yX9_ease cX9_ease 4 (none : Option Jvm.ClassFile.FieldType) [.ref l0] ω n (F_X9_ease Θ l0 ω n) := by
  refine Ok.of (by decide +kernel) (Nat.le_of_ble_eq_true rfl) (fun r h => ?_)
  unfold F_X9_ease at h
  show GR Θ yX9_ease cX9_ease 4 (none : Option Jvm.ClassFile.FieldType) 1 (0, 0) 0 [(0, .ref l0)] [] ω n r
  refine g_aload_n dX9_ease_0 rfl 0 rfl ?_
  refine g_rA fl_X9_31 dX9_ease_1 h (fun a10 h => ?_)
  refine g_rI fl_X9_64 dX9_ease_4 h (fun x11 h => ?_)
  refine g_istore_n (lv' := [(1, .int x11), (0, .ref l0)]) dX9_ease_7 rfl (by decide) rfl ?_
  refine g_iconst (v := 1) dX9_ease_8 (by decide) ?_
  refine g_istore_n (lv' := [(2, .int 1), (1, .int x11), (0, .ref l0)]) dX9_ease_9 rfl (by decide) rfl ?_
  refine G.lsub [2, 1, 0] rfl ?_
  exact ok_L_X9_ease_10 Θ 5000 l0 x11 1 _ _ r h
def J_X9_spread_139 (Θ : GP) (k_21 : Nat → Int32 → Int32 → Int32 → Int32 → Int32 → OW → Nat → RO) (l0 : Nat) (l1 : Int32) (l2 : Int32) (l3 : Int32) (l4 : Int32) (l5 : Int32) (ω : OW) (n : Nat) : RO := k_21 l0 l1 l2 l3 l4 (l5 + 1) ω n
def J_X9_spread_133 (Θ : GP) (k_21 : Nat → Int32 → Int32 → Int32 → Int32 → Int32 → OW → Nat → RO) (k_83 : Nat → Int32 → Int32 → Int32 → Int32 → Int32 → Int32 → Int32 → Int32 → OW → Nat → RO) (l0 : Nat) (l1 : Int32) (l2 : Int32) (l3 : Int32) (l4 : Int32) (l5 : Int32) (l6 : Int32) (l7 : Int32) (l8 : Int32) (ω : OW) (n : Nat) : RO := k_83 l0 l1 l2 l3 l4 l5 l6 l7 (l8 + 1) ω n
def B_X9_spread_83 (Θ : GP) (k_21 : Nat → Int32 → Int32 → Int32 → Int32 → Int32 → OW → Nat → RO) (k_83 : Nat → Int32 → Int32 → Int32 → Int32 → Int32 → Int32 → Int32 → Int32 → OW → Nat → RO) (l0 : Nat) (l1 : Int32) (l2 : Int32) (l3 : Int32) (l4 : Int32) (l5 : Int32) (l6 : Int32) (l7 : Int32) (l8 : Int32) (ω : OW) (n : Nat) : RO := if 3 ≤ l8 then (J_X9_spread_139 Θ k_21 l0 l1 l2 l3 l4 l5 ω n) else (if (l7 + l8) ≤ l2 then (rA ω l0 9 5 (fun a3 => lI ω (gI Θ) a3 (l7 + l8) (fun x4 => sI ω (gI Θ) a3 (l7 + l8) (x4 + l6) (fun ω => J_X9_spread_133 Θ k_21 k_83 l0 l1 l2 l3 (if l4 < (l7 + l8) then (l7 + l8) else l4) l5 l6 l7 l8 ω n)))) else (J_X9_spread_133 Θ k_21 k_83 l0 l1 l2 (l3 + l6) l4 l5 l6 l7 l8 ω n))
def L_X9_spread_83 (Θ : GP) (k_21 : Nat → Int32 → Int32 → Int32 → Int32 → Int32 → OW → Nat → RO) : Nat → Nat → Int32 → Int32 → Int32 → Int32 → Int32 → Int32 → Int32 → Int32 → OW → Nat → RO
  | 0, _, _, _, _, _, _, _, _, _, _, _ => none
  | f + 1, l0, l1, l2, l3, l4, l5, l6, l7, l8, ω, n => B_X9_spread_83 Θ k_21 (L_X9_spread_83 Θ k_21 f) l0 l1 l2 l3 l4 l5 l6 l7 l8 ω n
def B_X9_spread_21 (Θ : GP) (k_21 : Nat → Int32 → Int32 → Int32 → Int32 → Int32 → OW → Nat → RO) (l0 : Nat) (l1 : Int32) (l2 : Int32) (l3 : Int32) (l4 : Int32) (l5 : Int32) (ω : OW) (n : Nat) : RO := rI ω l0 9 3 (fun x5 => if x5 < l5 then (wF ω l0 9 3 (.int l4) (fun ω => rA ω l0 9 4 (fun a7 => rA ω l0 9 5 (fun a8 => wF ω l0 9 4 (.ref a8) (fun ω => wF ω l0 9 5 (.ref a7) (fun ω => some (.inl (some (.int l3), ω, n)))))))) else (rA ω l0 9 4 (fun a9 => lI ω (gI Θ) a9 l5 (fun x10 => rA ω l0 9 4 (fun a11 => sI ω (gI Θ) a11 l5 0 (fun ω => if x10 = 0 then (J_X9_spread_139 Θ k_21 l0 l1 l2 l3 l4 l5 ω n) else (rA ω l0 9 6 (fun a13 => rA ω a13 0 17 (fun a14 => rA ω l0 9 7 (fun a15 => cO ω a15 6 (kA (F_X6_meet Θ a15 l1 l5 ω n) (fun a16 ω n => cO ω a14 2 (kI (F_X2_frightsBy Θ a14 a16 ω n) (fun x17 ω n => L_X9_spread_83 Θ k_21 5000 l0 l1 l2 l3 l4 l5 x10 (l5 + x17) 0 ω n))))))))))))))
def L_X9_spread_21 (Θ : GP) : Nat → Nat → Int32 → Int32 → Int32 → Int32 → Int32 → OW → Nat → RO
  | 0, _, _, _, _, _, _, _, _ => none
  | f + 1, l0, l1, l2, l3, l4, l5, ω, n => B_X9_spread_21 Θ (L_X9_spread_21 Θ f) l0 l1 l2 l3 l4 l5 ω n
def F_X9_spread (Θ : GP) (l0 : Nat) (l1 : Int32) (ω : OW) (n : Nat) : RO := rA ω l0 9 7 (fun a18 => rI ω a18 6 4 (fun x19 => L_X9_spread_21 Θ 5000 l0 l1 (if 60 < x19 then 60 else x19) 0 0 0 ω n))
theorem ok_J_X9_spread_139 (Θ : GP) (k_21 : Nat → Int32 → Int32 → Int32 → Int32 → Int32 → OW → Nat → RO) (hk_21 : ∀ l0 l1 l2 l3 l4 l5 ω n r, k_21 l0 l1 l2 l3 l4 l5 ω n = some r → GR Θ yX9_spread cX9_spread 9 (some .int) 3 (0, 0) 21 [(0, .ref l0), (1, .int l1), (2, .int l2), (3, .int l3), (4, .int l4), (5, .int l5)] [] ω n r) (l0 : Nat) (l1 : Int32) (l2 : Int32) (l3 : Int32) (l4 : Int32) (l5 : Int32) (ω : OW) (n : Nat) (r : Out) (h : J_X9_spread_139 Θ k_21 l0 l1 l2 l3 l4 l5 ω n = some r) : GR Θ yX9_spread cX9_spread 9 (some .int) 3 (0, 0) 139 [(0, .ref l0), (1, .int l1), (2, .int l2), (3, .int l3), (4, .int l4), (5, .int l5)] [] ω n r := by
  unfold J_X9_spread_139 at h
  refine g_iinc (j := 5) (v := l5 + 1) (lv' := [(5, .int (l5 + 1)), (0, .ref l0), (1, .int l1), (2, .int l2), (3, .int l3), (4, .int l4)]) dX9_spread_139 rfl rfl (by decide) rfl ?_
  refine g_goto (tgt := 21) dX9_spread_142 (by decide) ?_
  refine G.lsub [1, 2, 3, 4, 5, 0] rfl ?_
  exact hk_21 l0 l1 l2 l3 l4 (l5 + 1) _ _ r h
theorem ok_J_X9_spread_133 (Θ : GP) (k_21 : Nat → Int32 → Int32 → Int32 → Int32 → Int32 → OW → Nat → RO) (k_83 : Nat → Int32 → Int32 → Int32 → Int32 → Int32 → Int32 → Int32 → Int32 → OW → Nat → RO) (hk_21 : ∀ l0 l1 l2 l3 l4 l5 ω n r, k_21 l0 l1 l2 l3 l4 l5 ω n = some r → GR Θ yX9_spread cX9_spread 9 (some .int) 3 (0, 0) 21 [(0, .ref l0), (1, .int l1), (2, .int l2), (3, .int l3), (4, .int l4), (5, .int l5)] [] ω n r) (hk_83 : ∀ l0 l1 l2 l3 l4 l5 l6 l7 l8 ω n r, k_83 l0 l1 l2 l3 l4 l5 l6 l7 l8 ω n = some r → GR Θ yX9_spread cX9_spread 9 (some .int) 3 (0, 0) 83 [(0, .ref l0), (1, .int l1), (2, .int l2), (3, .int l3), (4, .int l4), (5, .int l5), (6, .int l6), (7, .int l7), (8, .int l8)] [] ω n r) (l0 : Nat) (l1 : Int32) (l2 : Int32) (l3 : Int32) (l4 : Int32) (l5 : Int32) (l6 : Int32) (l7 : Int32) (l8 : Int32) (ω : OW) (n : Nat) (r : Out) (h : J_X9_spread_133 Θ k_21 k_83 l0 l1 l2 l3 l4 l5 l6 l7 l8 ω n = some r) : GR Θ yX9_spread cX9_spread 9 (some .int) 3 (0, 0) 133 [(0, .ref l0), (1, .int l1), (2, .int l2), (3, .int l3), (4, .int l4), (5, .int l5), (6, .int l6), (7, .int l7), (8, .int l8)] [] ω n r := by
  unfold J_X9_spread_133 at h
  refine g_iinc (j := 8) (v := l8 + 1) (lv' := [(8, .int (l8 + 1)), (0, .ref l0), (1, .int l1), (2, .int l2), (3, .int l3), (4, .int l4), (5, .int l5), (6, .int l6), (7, .int l7)]) dX9_spread_133 rfl rfl (by decide) rfl ?_
  refine g_goto (tgt := 83) dX9_spread_136 (by decide) ?_
  refine G.lsub [1, 2, 3, 4, 5, 6, 7, 8, 0] rfl ?_
  exact hk_83 l0 l1 l2 l3 l4 l5 l6 l7 (l8 + 1) _ _ r h
theorem ok_B_X9_spread_83 (Θ : GP) (k_21 : Nat → Int32 → Int32 → Int32 → Int32 → Int32 → OW → Nat → RO) (k_83 : Nat → Int32 → Int32 → Int32 → Int32 → Int32 → Int32 → Int32 → Int32 → OW → Nat → RO) (hk_21 : ∀ l0 l1 l2 l3 l4 l5 ω n r, k_21 l0 l1 l2 l3 l4 l5 ω n = some r → GR Θ yX9_spread cX9_spread 9 (some .int) 3 (0, 0) 21 [(0, .ref l0), (1, .int l1), (2, .int l2), (3, .int l3), (4, .int l4), (5, .int l5)] [] ω n r) (hk_83 : ∀ l0 l1 l2 l3 l4 l5 l6 l7 l8 ω n r, k_83 l0 l1 l2 l3 l4 l5 l6 l7 l8 ω n = some r → GR Θ yX9_spread cX9_spread 9 (some .int) 3 (0, 0) 83 [(0, .ref l0), (1, .int l1), (2, .int l2), (3, .int l3), (4, .int l4), (5, .int l5), (6, .int l6), (7, .int l7), (8, .int l8)] [] ω n r) (l0 : Nat) (l1 : Int32) (l2 : Int32) (l3 : Int32) (l4 : Int32) (l5 : Int32) (l6 : Int32) (l7 : Int32) (l8 : Int32) (ω : OW) (n : Nat) (r : Out) (h : B_X9_spread_83 Θ k_21 k_83 l0 l1 l2 l3 l4 l5 l6 l7 l8 ω n = some r) : GR Θ yX9_spread cX9_spread 9 (some .int) 3 (0, 0) 83 [(0, .ref l0), (1, .int l1), (2, .int l2), (3, .int l3), (4, .int l4), (5, .int l5), (6, .int l6), (7, .int l7), (8, .int l8)] [] ω n r := by
  unfold B_X9_spread_83 at h
  refine g_iload dX9_spread_83 8 rfl ?_
  refine g_iconst (v := 3) dX9_spread_85 (by decide) ?_
  refine g_icmp_ge (tgt := 139) dX9_spread_86 (by decide) (fun c1 => ?_) (fun c1 => ?_)
  · rw [if_pos c1] at h
    refine G.lsub [0, 1, 2, 3, 4, 5] rfl ?_
    exact ok_J_X9_spread_139 Θ k_21 hk_21 l0 l1 l2 l3 l4 l5 _ _ r h
  · rw [if_neg c1] at h
    refine g_iload dX9_spread_89 7 rfl ?_
    refine g_iload dX9_spread_91 8 rfl ?_
    refine g_iadd dX9_spread_93 ?_
    refine g_iload_n dX9_spread_94 rfl 2 rfl ?_
    refine g_icmp_le (tgt := 106) dX9_spread_95 (by decide) (fun c2 => ?_) (fun c2 => ?_)
    · rw [if_pos c2] at h
      refine g_aload_n dX9_spread_106 rfl 0 rfl ?_
      refine g_rA fl_X9_28 dX9_spread_107 h (fun a3 h => ?_)
      refine g_iload dX9_spread_110 7 rfl ?_
      refine g_iload dX9_spread_112 8 rfl ?_
      refine g_iadd dX9_spread_114 ?_
      refine g_dup2 dX9_spread_115 rfl rfl ?_
      refine g_lIi dX9_spread_116 h (fun x4 h => ?_)
      refine g_iload dX9_spread_117 6 rfl ?_
      refine g_iadd dX9_spread_119 ?_
      refine g_sIi dX9_spread_120 h (fun ω h => ?_)
      refine g_iload dX9_spread_121 4 rfl ?_
      refine g_iload dX9_spread_123 7 rfl ?_
      refine g_iload dX9_spread_125 8 rfl ?_
      refine g_iadd dX9_spread_127 ?_
      refine g_max wd_609 wd_610 wd_135 wd_611 dX9_spread_128 (by decide) (Nat.le_of_ble_eq_true rfl) ?_
      refine g_istore (lv' := [(4, .int (if l4 < (l7 + l8) then (l7 + l8) else l4)), (0, .ref l0), (1, .int l1), (2, .int l2), (3, .int l3), (5, .int l5), (6, .int l6), (7, .int l7), (8, .int l8)]) dX9_spread_131 (by decide) rfl ?_
      refine G.lsub [1, 2, 3, 4, 0, 5, 6, 7, 8] rfl ?_
      exact ok_J_X9_spread_133 Θ k_21 k_83 hk_21 hk_83 l0 l1 l2 l3 (if l4 < (l7 + l8) then (l7 + l8) else l4) l5 l6 l7 l8 _ _ r h
    · rw [if_neg c2] at h
      refine g_iload_n dX9_spread_98 rfl 3 rfl ?_
      refine g_iload dX9_spread_99 6 rfl ?_
      refine g_iadd dX9_spread_101 ?_
      refine g_istore_n (lv' := [(3, .int (l3 + l6)), (0, .ref l0), (1, .int l1), (2, .int l2), (4, .int l4), (5, .int l5), (6, .int l6), (7, .int l7), (8, .int l8)]) dX9_spread_102 rfl (by decide) rfl ?_
      refine g_goto (tgt := 133) dX9_spread_103 (by decide) ?_
      refine G.lsub [1, 2, 3, 0, 4, 5, 6, 7, 8] rfl ?_
      exact ok_J_X9_spread_133 Θ k_21 k_83 hk_21 hk_83 l0 l1 l2 (l3 + l6) l4 l5 l6 l7 l8 _ _ r h
theorem ok_L_X9_spread_83 (Θ : GP) (k_21 : Nat → Int32 → Int32 → Int32 → Int32 → Int32 → OW → Nat → RO) (hk_21 : ∀ l0 l1 l2 l3 l4 l5 ω n r, k_21 l0 l1 l2 l3 l4 l5 ω n = some r → GR Θ yX9_spread cX9_spread 9 (some .int) 3 (0, 0) 21 [(0, .ref l0), (1, .int l1), (2, .int l2), (3, .int l3), (4, .int l4), (5, .int l5)] [] ω n r) : ∀ (f : Nat) (l0 : Nat) (l1 : Int32) (l2 : Int32) (l3 : Int32) (l4 : Int32) (l5 : Int32) (l6 : Int32) (l7 : Int32) (l8 : Int32) (ω : OW) (n : Nat) (r : Out), L_X9_spread_83 Θ k_21 f l0 l1 l2 l3 l4 l5 l6 l7 l8 ω n = some r → GR Θ yX9_spread cX9_spread 9 (some .int) 3 (0, 0) 83 [(0, .ref l0), (1, .int l1), (2, .int l2), (3, .int l3), (4, .int l4), (5, .int l5), (6, .int l6), (7, .int l7), (8, .int l8)] [] ω n r := by
  intro f
  induction f with
  | zero =>
    intro l0 l1 l2 l3 l4 l5 l6 l7 l8 ω n r h
    unfold L_X9_spread_83 at h
    cases h
  | succ f ih =>
    intro l0 l1 l2 l3 l4 l5 l6 l7 l8 ω n r h
    unfold L_X9_spread_83 at h
    exact ok_B_X9_spread_83 Θ k_21 (L_X9_spread_83 Θ k_21 f) hk_21 ih l0 l1 l2 l3 l4 l5 l6 l7 l8 ω n r h
theorem ok_B_X9_spread_21 (Θ : GP) (k_21 : Nat → Int32 → Int32 → Int32 → Int32 → Int32 → OW → Nat → RO) (hk_21 : ∀ l0 l1 l2 l3 l4 l5 ω n r, k_21 l0 l1 l2 l3 l4 l5 ω n = some r → GR Θ yX9_spread cX9_spread 9 (some .int) 3 (0, 0) 21 [(0, .ref l0), (1, .int l1), (2, .int l2), (3, .int l3), (4, .int l4), (5, .int l5)] [] ω n r) (l0 : Nat) (l1 : Int32) (l2 : Int32) (l3 : Int32) (l4 : Int32) (l5 : Int32) (ω : OW) (n : Nat) (r : Out) (h : B_X9_spread_21 Θ k_21 l0 l1 l2 l3 l4 l5 ω n = some r) : GR Θ yX9_spread cX9_spread 9 (some .int) 3 (0, 0) 21 [(0, .ref l0), (1, .int l1), (2, .int l2), (3, .int l3), (4, .int l4), (5, .int l5)] [] ω n r := by
  unfold B_X9_spread_21 at h
  refine g_iload dX9_spread_21 5 rfl ?_
  refine g_aload_n dX9_spread_23 rfl 0 rfl ?_
  refine g_rI fl_X9_22 dX9_spread_24 h (fun x5 h => ?_)
  refine g_icmp_gt (tgt := 145) dX9_spread_27 (by decide) (fun c6 => ?_) (fun c6 => ?_)
  · rw [if_pos c6] at h
    refine g_aload_n dX9_spread_145 rfl 0 rfl ?_
    refine g_iload dX9_spread_146 4 rfl ?_
    refine g_wF fl_X9_22 dX9_spread_148 (rfl) rfl h (fun ω h => ?_)
    refine g_aload_n dX9_spread_151 rfl 0 rfl ?_
    refine g_rA fl_X9_25 dX9_spread_152 h (fun a7 h => ?_)
    refine g_astore (lv' := [(5, .ref a7), (0, .ref l0), (1, .int l1), (2, .int l2), (3, .int l3), (4, .int l4)]) dX9_spread_155 (by decide) rfl ?_
    refine g_aload_n dX9_spread_157 rfl 1 rfl ?_
    refine g_aload_n dX9_spread_158 rfl 1 rfl ?_
    refine g_rA fl_X9_28 dX9_spread_159 h (fun a8 h => ?_)
    refine g_wF fl_X9_25 dX9_spread_162 (rfl) rfl h (fun ω h => ?_)
    refine g_aload_n dX9_spread_165 rfl 1 rfl ?_
    refine g_aload dX9_spread_166 0 rfl ?_
    refine g_wF fl_X9_28 dX9_spread_168 (rfl) rfl h (fun ω h => ?_)
    refine g_iload_n dX9_spread_171 rfl 4 rfl ?_
    cases h
    exact g_iret rfl dX9_spread_172 rfl
  · rw [if_neg c6] at h
    refine g_aload_n dX9_spread_30 rfl 0 rfl ?_
    refine g_rA fl_X9_25 dX9_spread_31 h (fun a9 h => ?_)
    refine g_iload dX9_spread_34 5 rfl ?_
    refine g_lIi dX9_spread_36 h (fun x10 h => ?_)
    refine g_istore (lv' := [(6, .int x10), (0, .ref l0), (1, .int l1), (2, .int l2), (3, .int l3), (4, .int l4), (5, .int l5)]) dX9_spread_37 (by decide) rfl ?_
    refine g_aload_n dX9_spread_39 rfl 1 rfl ?_
    refine g_rA fl_X9_25 dX9_spread_40 h (fun a11 h => ?_)
    refine g_iload dX9_spread_43 6 rfl ?_
    refine g_iconst (v := 0) dX9_spread_45 (by decide) ?_
    refine g_sIi dX9_spread_46 h (fun ω h => ?_)
    refine g_iload dX9_spread_47 0 rfl ?_
    refine g_if_ne (tgt := 55) dX9_spread_49 (by decide) (fun c12 => ?_) (fun c12 => ?_)
    · rw [if_neg c12] at h
      refine g_iload dX9_spread_55 6 rfl ?_
      refine g_aload_n dX9_spread_57 rfl 1 rfl ?_
      refine g_rA fl_X9_31 dX9_spread_58 h (fun a13 h => ?_)
      refine g_rA fl_X9_81 dX9_spread_61 h (fun a14 h => ?_)
      refine g_aload_n dX9_spread_64 rfl 1 rfl ?_
      refine g_rA fl_X9_35 dX9_spread_65 h (fun a15 h => ?_)
      refine g_iload_n dX9_spread_68 rfl 2 rfl ?_
      refine g_iload dX9_spread_69 6 rfl ?_
      refine g_cA (ci := 6) (As := [.int l1, .int l5]) mv_X9_85 dX9_spread_71 rfl (ok_X6_meet Θ a15 l1 l5 _ _) rfl rfl (Nat.le_of_ble_eq_true rfl) (by decide) (by decide) (by decide) h (fun a16 ω n h => ?_)
      refine G.less (B' := (0, 0)) (by decide) (by decide) ?_
      refine g_cI (ci := 2) (As := [.ref a16]) mv_X9_89 dX9_spread_74 rfl (ok_X2_frightsBy Θ a14 a16 _ _) rfl rfl (Nat.le_of_ble_eq_true rfl) (by decide) (by decide) (by decide) h (fun x17 ω n h => ?_)
      refine G.less (B' := (0, 0)) (by decide) (by decide) ?_
      refine g_iadd dX9_spread_77 ?_
      refine g_istore (lv' := [(7, .int (l5 + x17)), (6, .int x10), (0, .ref l0), (1, .int l1), (2, .int l2), (3, .int l3), (4, .int l4), (5, .int l5)]) dX9_spread_78 (by decide) rfl ?_
      refine g_iconst (v := 0) dX9_spread_80 (by decide) ?_
      refine g_istore (lv' := [(8, .int 0), (7, .int (l5 + x17)), (6, .int x10), (0, .ref l0), (1, .int l1), (2, .int l2), (3, .int l3), (4, .int l4), (5, .int l5)]) dX9_spread_81 (by decide) rfl ?_
      refine G.lsub [3, 4, 5, 6, 7, 8, 2, 1, 0] rfl ?_
      exact ok_L_X9_spread_83 Θ k_21 hk_21 5000 l0 l1 l2 l3 l4 l5 x10 (l5 + x17) 0 _ _ r h
    · rw [if_pos c12] at h
      refine g_goto (tgt := 139) dX9_spread_52 (by decide) ?_
      refine G.lsub [1, 2, 3, 4, 5, 6] rfl ?_
      exact ok_J_X9_spread_139 Θ k_21 hk_21 l0 l1 l2 l3 l4 l5 _ _ r h
theorem ok_L_X9_spread_21 (Θ : GP) : ∀ (f : Nat) (l0 : Nat) (l1 : Int32) (l2 : Int32) (l3 : Int32) (l4 : Int32) (l5 : Int32) (ω : OW) (n : Nat) (r : Out), L_X9_spread_21 Θ f l0 l1 l2 l3 l4 l5 ω n = some r → GR Θ yX9_spread cX9_spread 9 (some .int) 3 (0, 0) 21 [(0, .ref l0), (1, .int l1), (2, .int l2), (3, .int l3), (4, .int l4), (5, .int l5)] [] ω n r := by
  intro f
  induction f with
  | zero =>
    intro l0 l1 l2 l3 l4 l5 ω n r h
    unfold L_X9_spread_21 at h
    cases h
  | succ f ih =>
    intro l0 l1 l2 l3 l4 l5 ω n r h
    unfold L_X9_spread_21 at h
    exact ok_B_X9_spread_21 Θ (L_X9_spread_21 Θ f) ih l0 l1 l2 l3 l4 l5 ω n r h
theorem ok_X9_spread (Θ : GP) (l0 : Nat) (l1 : Int32) (ω : OW) (n : Nat) : Ok Θ 3 0 0 yX9_spread cX9_spread 9 (some .int) [.ref l0, .int l1] ω n (F_X9_spread Θ l0 l1 ω n) := by
  refine Ok.of (by decide +kernel) (Nat.le_of_ble_eq_true rfl) (fun r h => ?_)
  unfold F_X9_spread at h
  show GR Θ yX9_spread cX9_spread 9 (some .int) 3 (0, 0) 0 [(0, .ref l0), (1, .int l1)] [] ω n r
  refine g_aload_n dX9_spread_0 rfl 0 rfl ?_
  refine g_rA fl_X9_35 dX9_spread_1 h (fun a18 h => ?_)
  refine g_rI fl_X9_75 dX9_spread_4 h (fun x19 h => ?_)
  refine g_bipush (v := 60) dX9_spread_7 (by decide) ?_
  refine g_min wd_616 wd_617 wd_135 wd_618 dX9_spread_9 (by decide) (Nat.le_of_ble_eq_true rfl) ?_
  refine g_istore_n (lv' := [(2, .int (if 60 < x19 then 60 else x19)), (0, .ref l0), (1, .int l1)]) dX9_spread_12 rfl (by decide) rfl ?_
  refine g_iconst (v := 0) dX9_spread_13 (by decide) ?_
  refine g_istore_n (lv' := [(3, .int 0), (2, .int (if 60 < x19 then 60 else x19)), (0, .ref l0), (1, .int l1)]) dX9_spread_14 rfl (by decide) rfl ?_
  refine g_iconst (v := 0) dX9_spread_15 (by decide) ?_
  refine g_istore (lv' := [(4, .int 0), (3, .int 0), (2, .int (if 60 < x19 then 60 else x19)), (0, .ref l0), (1, .int l1)]) dX9_spread_16 (by decide) rfl ?_
  refine g_iconst (v := 0) dX9_spread_18 (by decide) ?_
  refine g_istore (lv' := [(5, .int 0), (4, .int 0), (3, .int 0), (2, .int (if 60 < x19 then 60 else x19)), (0, .ref l0), (1, .int l1)]) dX9_spread_19 (by decide) rfl ?_
  refine G.lsub [4, 5, 3, 2, 1, 0] rfl ?_
  exact ok_L_X9_spread_21 Θ 5000 l0 l1 (if 60 < x19 then 60 else x19) 0 0 0 _ _ r h
def J_X9_countOf_141 (Θ : GP) (k_77 : Nat → Int32 → Int32 → OW → Nat → RO) (l0 : Nat) (l2 : Int32) (l3 : Int32) (ω : OW) (n : Nat) : RO := k_77 l0 l2 (l3 + 1) ω n
def B_X9_countOf_77 (Θ : GP) (k_77 : Nat → Int32 → Int32 → OW → Nat → RO) (l0 : Nat) (l2 : Int32) (l3 : Int32) (ω : OW) (n : Nat) : RO := if 10 ≤ l3 then (rA ω l0 9 4 (fun a2 => kV (F_J7_fill_53178 Θ a2 0 ω n) (fun ω n => some (.inl (none, ω, n))))) else (rA ω l0 9 1 (fun a4 => sI ω (gI Θ) a4 l3 0 (fun ω => rA ω l0 9 7 (fun a5 => rA ω a5 6 1 (fun a6 => lI ω (gI Θ) a6 l3 (fun x7 => if 0 ≤ x7 then (rA ω l0 9 1 (fun a9 => cO ω l0 9 (kI (F_X9_spread Θ l0 l3 ω n) (fun x10 ω n => sI ω (gI Θ) a9 l3 (x10 * (l2 / 3)) (fun ω => rI ω l0 9 0 (fun x11 => rA ω l0 9 1 (fun a12 => lI ω (gI Θ) a12 l3 (fun x13 => wF ω l0 9 0 (.int (x11 + x13)) (fun ω => J_X9_countOf_141 Θ k_77 l0 (l2 / 3) l3 ω n))))))))) else (cO ω l0 9 (kV (F_X9_ease Θ l0 ω n) (fun ω n => J_X9_countOf_141 Θ k_77 l0 l2 l3 ω n)))))))))
def L_X9_countOf_77 (Θ : GP) : Nat → Nat → Int32 → Int32 → OW → Nat → RO
  | 0, _, _, _, _, _ => none
  | f + 1, l0, l2, l3, ω, n => B_X9_countOf_77 Θ (L_X9_countOf_77 Θ f) l0 l2 l3 ω n
def J_X9_countOf_43 (Θ : GP) (k_15 : Nat → Int32 → OW → Nat → RO) (l0 : Nat) (l2 : Int32) (s0 : Int32) (s1 : Int32) (s2 : Nat) (ω : OW) (n : Nat) : RO := wF ω s2 9 2 (.int (s1 * s0)) (fun ω => k_15 l0 (l2 + 1) ω n)
def B_X9_countOf_15 (Θ : GP) (k_15 : Nat → Int32 → OW → Nat → RO) (l0 : Nat) (l2 : Int32) (ω : OW) (n : Nat) : RO := if 10 ≤ l2 then (wF ω l0 9 0 (.int 0) (fun ω => rA ω l0 9 4 (fun a16 => sI ω (gI Θ) a16 0 1 (fun ω => wF ω l0 9 3 (.int 0) (fun ω => rI ω l0 9 2 (fun x17 => L_X9_countOf_77 Θ 5000 l0 x17 0 ω n)))))) else (rI ω l0 9 2 (fun x18 => rA ω l0 9 7 (fun a19 => rA ω a19 6 1 (fun a20 => lI ω (gI Θ) a20 l2 (fun x21 => if x21 < 0 then (J_X9_countOf_43 Θ k_15 l0 l2 1 x18 l0 ω n) else (J_X9_countOf_43 Θ k_15 l0 l2 3 x18 l0 ω n))))))
def L_X9_countOf_15 (Θ : GP) : Nat → Nat → Int32 → OW → Nat → RO
  | 0, _, _, _, _ => none
  | f + 1, l0, l2, ω, n => B_X9_countOf_15 Θ (L_X9_countOf_15 Θ f) l0 l2 ω n
def F_X9_countOf (Θ : GP) (l0 : Nat) (l1 : Int32) (ω : OW) (n : Nat) : RO := rA ω l0 9 7 (fun a23 => cO ω a23 6 (kV (F_X6_board Θ a23 l1 ω n) (fun ω n => wF ω l0 9 2 (.int 1) (fun ω => L_X9_countOf_15 Θ 5000 l0 0 ω n))))
theorem ok_J_X9_countOf_141 (Θ : GP) (k_77 : Nat → Int32 → Int32 → OW → Nat → RO) (hk_77 : ∀ l0 l2 l3 ω n r, k_77 l0 l2 l3 ω n = some r → GR Θ yX9_countOf cX9_countOf 4 (none : Option Jvm.ClassFile.FieldType) 4 (0, 0) 77 [(0, .ref l0), (2, .int l2), (3, .int l3)] [] ω n r) (l0 : Nat) (l2 : Int32) (l3 : Int32) (ω : OW) (n : Nat) (r : Out) (h : J_X9_countOf_141 Θ k_77 l0 l2 l3 ω n = some r) : GR Θ yX9_countOf cX9_countOf 4 (none : Option Jvm.ClassFile.FieldType) 4 (0, 0) 141 [(0, .ref l0), (2, .int l2), (3, .int l3)] [] ω n r := by
  unfold J_X9_countOf_141 at h
  refine g_iinc (j := 2) (v := l3 + 1) (lv' := [(3, .int (l3 + 1)), (0, .ref l0), (2, .int l2)]) dX9_countOf_141 rfl rfl (by decide) rfl ?_
  refine g_goto (tgt := 77) dX9_countOf_144 (by decide) ?_
  refine G.lsub [1, 2, 0] rfl ?_
  exact hk_77 l0 l2 (l3 + 1) _ _ r h
theorem ok_B_X9_countOf_77 (Θ : GP) (k_77 : Nat → Int32 → Int32 → OW → Nat → RO) (hk_77 : ∀ l0 l2 l3 ω n r, k_77 l0 l2 l3 ω n = some r → GR Θ yX9_countOf cX9_countOf 4 (none : Option Jvm.ClassFile.FieldType) 4 (0, 0) 77 [(0, .ref l0), (2, .int l2), (3, .int l3)] [] ω n r) (l0 : Nat) (l2 : Int32) (l3 : Int32) (ω : OW) (n : Nat) (r : Out) (h : B_X9_countOf_77 Θ k_77 l0 l2 l3 ω n = some r) : GR Θ yX9_countOf cX9_countOf 4 (none : Option Jvm.ClassFile.FieldType) 4 (0, 0) 77 [(0, .ref l0), (2, .int l2), (3, .int l3)] [] ω n r := by
  unfold B_X9_countOf_77 at h
  refine g_iload_n dX9_countOf_77 rfl 2 rfl ?_
  refine g_bipush (v := 10) dX9_countOf_78 (by decide) ?_
  refine g_icmp_ge (tgt := 147) dX9_countOf_80 (by decide) (fun c1 => ?_) (fun c1 => ?_)
  · rw [if_pos c1] at h
    refine g_aload_n dX9_countOf_147 rfl 0 rfl ?_
    refine g_rA fl_X9_25 dX9_countOf_148 h (fun a2 h => ?_)
    refine g_iconst (v := 0) dX9_countOf_151 (by decide) ?_
    refine g_sV (As := [.ref a2, .int 0]) ms_X9_58 dX9_countOf_152 (ok_J7_fill_53178 Θ a2 0 _ _) rfl rfl (Nat.le_of_ble_eq_true rfl) (by decide) (by decide) (by decide) h (fun ω n h => ?_)
    refine G.less (B' := (0, 0)) (by decide) (by decide) ?_
    cases h
    exact g_vret rfl dX9_countOf_155 rfl
  · rw [if_neg c1] at h
    refine g_aload_n dX9_countOf_83 rfl 0 rfl ?_
    refine g_rA fl_X9_15 dX9_countOf_84 h (fun a4 h => ?_)
    refine g_iload_n dX9_countOf_87 rfl 2 rfl ?_
    refine g_iconst (v := 0) dX9_countOf_88 (by decide) ?_
    refine g_sIi dX9_countOf_89 h (fun ω h => ?_)
    refine g_aload_n dX9_countOf_90 rfl 0 rfl ?_
    refine g_rA fl_X9_35 dX9_countOf_91 h (fun a5 h => ?_)
    refine g_rA fl_X9_48 dX9_countOf_94 h (fun a6 h => ?_)
    refine g_iload_n dX9_countOf_97 rfl 2 rfl ?_
    refine g_lIi dX9_countOf_98 h (fun x7 h => ?_)
    refine g_if_ge (tgt := 109) dX9_countOf_99 (by decide) (fun c8 => ?_) (fun c8 => ?_)
    · rw [if_pos c8] at h
      refine g_iload_n dX9_countOf_109 rfl 1 rfl ?_
      refine g_iconst (v := 3) dX9_countOf_110 (by decide) ?_
      refine g_idiv dX9_countOf_111 (by decide) ?_
      refine g_istore_n (lv' := [(2, .int (l2 / 3)), (0, .ref l0), (3, .int l3)]) dX9_countOf_112 rfl (by decide) rfl ?_
      refine g_aload_n dX9_countOf_113 rfl 1 rfl ?_
      refine g_rA fl_X9_15 dX9_countOf_114 h (fun a9 h => ?_)
      refine g_iload_n dX9_countOf_117 rfl 2 rfl ?_
      refine g_aload_n dX9_countOf_118 rfl 1 rfl ?_
      refine g_iload_n dX9_countOf_119 rfl 2 rfl ?_
      refine g_cI (ci := 9) (As := [.int l3]) mv_X9_54 dX9_countOf_120 rfl (ok_X9_spread Θ l0 l3 _ _) rfl rfl (Nat.le_of_ble_eq_true rfl) (by decide) (by decide) (by decide) h (fun x10 ω n h => ?_)
      refine G.less (B' := (0, 0)) (by decide) (by decide) ?_
      refine g_iload_n dX9_countOf_123 rfl 0 rfl ?_
      refine g_imul dX9_countOf_124 ?_
      refine g_sIi dX9_countOf_125 h (fun ω h => ?_)
      refine g_aload_n dX9_countOf_126 rfl 1 rfl ?_
      refine g_dup dX9_countOf_127 rfl ?_
      refine g_rI fl_X9_9 dX9_countOf_128 h (fun x11 h => ?_)
      refine g_aload_n dX9_countOf_131 rfl 1 rfl ?_
      refine g_rA fl_X9_15 dX9_countOf_132 h (fun a12 h => ?_)
      refine g_iload_n dX9_countOf_135 rfl 2 rfl ?_
      refine g_lIi dX9_countOf_136 h (fun x13 h => ?_)
      refine g_iadd dX9_countOf_137 ?_
      refine g_wF fl_X9_9 dX9_countOf_138 (rfl) rfl h (fun ω h => ?_)
      refine G.lsub [1, 0, 2] rfl ?_
      exact ok_J_X9_countOf_141 Θ k_77 hk_77 l0 (l2 / 3) l3 _ _ r h
    · rw [if_neg c8] at h
      refine g_aload_n dX9_countOf_102 rfl 0 rfl ?_
      refine g_cV (ci := 9) (As := []) mv_X9_51 dX9_countOf_103 rfl (ok_X9_ease Θ l0 _ _) rfl rfl (Nat.le_of_ble_eq_true rfl) (by decide) (by decide) (by decide) h (fun ω n h => ?_)
      refine G.less (B' := (0, 0)) (by decide) (by decide) ?_
      refine g_goto (tgt := 141) dX9_countOf_106 (by decide) ?_
      exact ok_J_X9_countOf_141 Θ k_77 hk_77 l0 l2 l3 _ _ r h
theorem ok_L_X9_countOf_77 (Θ : GP) : ∀ (f : Nat) (l0 : Nat) (l2 : Int32) (l3 : Int32) (ω : OW) (n : Nat) (r : Out), L_X9_countOf_77 Θ f l0 l2 l3 ω n = some r → GR Θ yX9_countOf cX9_countOf 4 (none : Option Jvm.ClassFile.FieldType) 4 (0, 0) 77 [(0, .ref l0), (2, .int l2), (3, .int l3)] [] ω n r := by
  intro f
  induction f with
  | zero =>
    intro l0 l2 l3 ω n r h
    unfold L_X9_countOf_77 at h
    cases h
  | succ f ih =>
    intro l0 l2 l3 ω n r h
    unfold L_X9_countOf_77 at h
    exact ok_B_X9_countOf_77 Θ (L_X9_countOf_77 Θ f) ih l0 l2 l3 ω n r h
theorem ok_J_X9_countOf_43 (Θ : GP) (k_15 : Nat → Int32 → OW → Nat → RO) (hk_15 : ∀ l0 l2 ω n r, k_15 l0 l2 ω n = some r → GR Θ yX9_countOf cX9_countOf 4 (none : Option Jvm.ClassFile.FieldType) 4 (0, 0) 15 [(0, .ref l0), (2, .int l2)] [] ω n r) (l0 : Nat) (l2 : Int32) (s0 : Int32) (s1 : Int32) (s2 : Nat) (ω : OW) (n : Nat) (r : Out) (h : J_X9_countOf_43 Θ k_15 l0 l2 s0 s1 s2 ω n = some r) : GR Θ yX9_countOf cX9_countOf 4 (none : Option Jvm.ClassFile.FieldType) 4 (0, 0) 43 [(0, .ref l0), (2, .int l2)] [.int s0, .int s1, .ref s2] ω n r := by
  unfold J_X9_countOf_43 at h
  refine g_imul dX9_countOf_43 ?_
  refine g_wF fl_X9_19 dX9_countOf_44 (rfl) rfl h (fun ω h => ?_)
  refine g_iinc (j := 1) (v := l2 + 1) (lv' := [(2, .int (l2 + 1)), (0, .ref l0)]) dX9_countOf_47 rfl rfl (by decide) rfl ?_
  refine g_goto (tgt := 15) dX9_countOf_50 (by decide) ?_
  refine G.lsub [1, 0] rfl ?_
  exact hk_15 l0 (l2 + 1) _ _ r h
theorem ok_B_X9_countOf_15 (Θ : GP) (k_15 : Nat → Int32 → OW → Nat → RO) (hk_15 : ∀ l0 l2 ω n r, k_15 l0 l2 ω n = some r → GR Θ yX9_countOf cX9_countOf 4 (none : Option Jvm.ClassFile.FieldType) 4 (0, 0) 15 [(0, .ref l0), (2, .int l2)] [] ω n r) (l0 : Nat) (l2 : Int32) (ω : OW) (n : Nat) (r : Out) (h : B_X9_countOf_15 Θ k_15 l0 l2 ω n = some r) : GR Θ yX9_countOf cX9_countOf 4 (none : Option Jvm.ClassFile.FieldType) 4 (0, 0) 15 [(0, .ref l0), (2, .int l2)] [] ω n r := by
  unfold B_X9_countOf_15 at h
  refine g_iload_n dX9_countOf_15 rfl 1 rfl ?_
  refine g_bipush (v := 10) dX9_countOf_16 (by decide) ?_
  refine g_icmp_ge (tgt := 53) dX9_countOf_18 (by decide) (fun c15 => ?_) (fun c15 => ?_)
  · rw [if_pos c15] at h
    refine g_aload_n dX9_countOf_53 rfl 0 rfl ?_
    refine g_iconst (v := 0) dX9_countOf_54 (by decide) ?_
    refine g_wF fl_X9_9 dX9_countOf_55 (rfl) rfl h (fun ω h => ?_)
    refine g_aload_n dX9_countOf_58 rfl 0 rfl ?_
    refine g_rA fl_X9_25 dX9_countOf_59 h (fun a16 h => ?_)
    refine g_iconst (v := 0) dX9_countOf_62 (by decide) ?_
    refine g_iconst (v := 1) dX9_countOf_63 (by decide) ?_
    refine g_sIi dX9_countOf_64 h (fun ω h => ?_)
    refine g_aload_n dX9_countOf_65 rfl 0 rfl ?_
    refine g_iconst (v := 0) dX9_countOf_66 (by decide) ?_
    refine g_wF fl_X9_22 dX9_countOf_67 (rfl) rfl h (fun ω h => ?_)
    refine g_aload_n dX9_countOf_70 rfl 0 rfl ?_
    refine g_rI fl_X9_19 dX9_countOf_71 h (fun x17 h => ?_)
    refine g_istore_n (lv' := [(2, .int x17), (0, .ref l0)]) dX9_countOf_74 rfl (by decide) rfl ?_
    refine g_iconst (v := 0) dX9_countOf_75 (by decide) ?_
    refine g_istore_n (lv' := [(3, .int 0), (2, .int x17), (0, .ref l0)]) dX9_countOf_76 rfl (by decide) rfl ?_
    refine G.lsub [2, 1, 0] rfl ?_
    exact ok_L_X9_countOf_77 Θ 5000 l0 x17 0 _ _ r h
  · rw [if_neg c15] at h
    refine g_aload_n dX9_countOf_21 rfl 0 rfl ?_
    refine g_dup dX9_countOf_22 rfl ?_
    refine g_rI fl_X9_19 dX9_countOf_23 h (fun x18 h => ?_)
    refine g_aload_n dX9_countOf_26 rfl 0 rfl ?_
    refine g_rA fl_X9_35 dX9_countOf_27 h (fun a19 h => ?_)
    refine g_rA fl_X9_48 dX9_countOf_30 h (fun a20 h => ?_)
    refine g_iload_n dX9_countOf_33 rfl 1 rfl ?_
    refine g_lIi dX9_countOf_34 h (fun x21 h => ?_)
    refine g_if_lt (tgt := 42) dX9_countOf_35 (by decide) (fun c22 => ?_) (fun c22 => ?_)
    · rw [if_pos c22] at h
      refine g_iconst (v := 1) dX9_countOf_42 (by decide) ?_
      exact ok_J_X9_countOf_43 Θ k_15 hk_15 l0 l2 1 x18 l0 _ _ r h
    · rw [if_neg c22] at h
      refine g_iconst (v := 3) dX9_countOf_38 (by decide) ?_
      refine g_goto (tgt := 43) dX9_countOf_39 (by decide) ?_
      exact ok_J_X9_countOf_43 Θ k_15 hk_15 l0 l2 3 x18 l0 _ _ r h
theorem ok_L_X9_countOf_15 (Θ : GP) : ∀ (f : Nat) (l0 : Nat) (l2 : Int32) (ω : OW) (n : Nat) (r : Out), L_X9_countOf_15 Θ f l0 l2 ω n = some r → GR Θ yX9_countOf cX9_countOf 4 (none : Option Jvm.ClassFile.FieldType) 4 (0, 0) 15 [(0, .ref l0), (2, .int l2)] [] ω n r := by
  intro f
  induction f with
  | zero =>
    intro l0 l2 ω n r h
    unfold L_X9_countOf_15 at h
    cases h
  | succ f ih =>
    intro l0 l2 ω n r h
    unfold L_X9_countOf_15 at h
    exact ok_B_X9_countOf_15 Θ (L_X9_countOf_15 Θ f) ih l0 l2 ω n r h
theorem ok_X9_countOf (Θ : GP) (l0 : Nat) (l1 : Int32) (ω : OW) (n : Nat) : Ok Θ 4 0 0 yX9_countOf cX9_countOf 4 (none : Option Jvm.ClassFile.FieldType) [.ref l0, .int l1] ω n (F_X9_countOf Θ l0 l1 ω n) := by
  refine Ok.of (by decide +kernel) (Nat.le_of_ble_eq_true rfl) (fun r h => ?_)
  unfold F_X9_countOf at h
  show GR Θ yX9_countOf cX9_countOf 4 (none : Option Jvm.ClassFile.FieldType) 4 (0, 0) 0 [(0, .ref l0), (1, .int l1)] [] ω n r
  refine g_aload_n dX9_countOf_0 rfl 0 rfl ?_
  refine g_rA fl_X9_35 dX9_countOf_1 h (fun a23 h => ?_)
  refine g_iload_n dX9_countOf_4 rfl 1 rfl ?_
  refine g_cV (ci := 6) (As := [.int l1]) mv_X9_43 dX9_countOf_5 rfl (ok_X6_board Θ a23 l1 _ _) rfl rfl (Nat.le_of_ble_eq_true rfl) (by decide) (by decide) (by decide) h (fun ω n h => ?_)
  refine G.less (B' := (0, 0)) (by decide) (by decide) ?_
  refine g_aload_n dX9_countOf_8 rfl 0 rfl ?_
  refine g_iconst (v := 1) dX9_countOf_9 (by decide) ?_
  refine g_wF fl_X9_19 dX9_countOf_10 (rfl) rfl h (fun ω h => ?_)
  refine g_iconst (v := 0) dX9_countOf_13 (by decide) ?_
  refine g_istore_n (lv' := [(2, .int 0), (0, .ref l0), (1, .int l1)]) dX9_countOf_14 rfl (by decide) rfl ?_
  refine G.lsub [1, 0] rfl ?_
  exact ok_L_X9_countOf_15 Θ 5000 l0 0 _ _ r h
def J_X9_oddsOf_29 (Θ : GP) (s0 : Int32) (ω : OW) (n : Nat) : RO := some (.inl (some (.int s0), ω, n))
def F_X9_oddsOf (Θ : GP) (l0 : Nat) (l1 : Int32) (ω : OW) (n : Nat) : RO := cO ω l0 9 (kV (F_X9_countOf Θ l0 l1 ω n) (fun ω n => rI ω l0 9 2 (fun x2 => if x2 = 0 then (J_X9_oddsOf_29 Θ 0 ω n) else (rI ω l0 9 0 (fun x4 => rI ω l0 9 2 (fun x5 => nz x5 (J_X9_oddsOf_29 Θ ((x4 * 10000) / x5) ω n)))))))
theorem ok_J_X9_oddsOf_29 (Θ : GP) (s0 : Int32) (ω : OW) (n : Nat) (r : Out) (h : J_X9_oddsOf_29 Θ s0 ω n = some r) : GR Θ yX9_oddsOf cX9_oddsOf 2 (some .int) 5 (0, 0) 29 [] [.int s0] ω n r := by
  unfold J_X9_oddsOf_29 at h
  cases h
  exact g_iret rfl dX9_oddsOf_29 rfl
theorem ok_X9_oddsOf (Θ : GP) (l0 : Nat) (l1 : Int32) (ω : OW) (n : Nat) : Ok Θ 5 0 0 yX9_oddsOf cX9_oddsOf 2 (some .int) [.ref l0, .int l1] ω n (F_X9_oddsOf Θ l0 l1 ω n) := by
  refine Ok.of (by decide +kernel) (Nat.le_of_ble_eq_true rfl) (fun r h => ?_)
  unfold F_X9_oddsOf at h
  show GR Θ yX9_oddsOf cX9_oddsOf 2 (some .int) 5 (0, 0) 0 [(0, .ref l0), (1, .int l1)] [] ω n r
  refine g_aload_n dX9_oddsOf_0 rfl 0 rfl ?_
  refine g_iload_n dX9_oddsOf_1 rfl 1 rfl ?_
  refine g_cV (ci := 9) (As := [.int l1]) mv_X9_39 dX9_oddsOf_2 rfl (ok_X9_countOf Θ l0 l1 _ _) rfl rfl (Nat.le_of_ble_eq_true rfl) (by decide) (by decide) (by decide) h (fun ω n h => ?_)
  refine G.less (B' := (0, 0)) (by decide) (by decide) ?_
  refine g_aload_n dX9_oddsOf_5 rfl 0 rfl ?_
  refine g_rI fl_X9_19 dX9_oddsOf_6 h (fun x2 h => ?_)
  refine g_if_ne (tgt := 16) dX9_oddsOf_9 (by decide) (fun c3 => ?_) (fun c3 => ?_)
  · rw [if_neg c3] at h
    refine g_aload_n dX9_oddsOf_16 rfl 0 rfl ?_
    refine g_rI fl_X9_9 dX9_oddsOf_17 h (fun x4 h => ?_)
    refine g_sipush (v := 10000) dX9_oddsOf_20 (by decide) ?_
    refine g_imul dX9_oddsOf_23 ?_
    refine g_aload_n dX9_oddsOf_24 rfl 0 rfl ?_
    refine g_rI fl_X9_19 dX9_oddsOf_25 h (fun x5 h => ?_)
    obtain ⟨z6, h⟩ := nz_inv h
    refine g_idiv dX9_oddsOf_28 z6 ?_
    refine G.lsub [] rfl ?_
    exact ok_J_X9_oddsOf_29 Θ ((x4 * 10000) / x5) _ _ r h
  · rw [if_pos c3] at h
    refine g_iconst (v := 0) dX9_oddsOf_12 (by decide) ?_
    refine g_goto (tgt := 29) dX9_oddsOf_13 (by decide) ?_
    refine G.lsub [] rfl ?_
    exact ok_J_X9_oddsOf_29 Θ 0 _ _ r h
