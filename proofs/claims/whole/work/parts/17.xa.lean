def F_X11_thrown (Θ : GP) (l0 : Nat) (ω : OW) (n : Nat) : RO := rI ω l0 11 0 (fun x1 => some (.inl (some (.int x1), ω, n)))
theorem ok_X11_thrown (Θ : GP) (l0 : Nat) (ω : OW) (n : Nat) : Ok Θ 1 0 0 yX11_thrown cX11_thrown 1 (some .int) [.ref l0] ω n (F_X11_thrown Θ l0 ω n) := by
  refine Ok.of (by decide +kernel) (Nat.le_of_ble_eq_true rfl) (fun r h => ?_)
  unfold F_X11_thrown at h
  show GR Θ yX11_thrown cX11_thrown 1 (some .int) 1 (0, 0) 0 [(0, .ref l0)] [] ω n r
  refine g_aload_n dX11_thrown_0 rfl 0 rfl ?_
  refine g_rI fl_X11_3 dX11_thrown_1 h (fun x1 h => ?_)
  cases h
  exact g_iret rfl dX11_thrown_4 rfl
def J_X11_throwsIf_9 (Θ : GP) (l1 : Int32) (ω : OW) (n : Nat) : RO := bz l1 (some (.inl (some (.int l1), ω, n)))
def F_X11_throwsIf (Θ : GP) (l0 : Nat) (l1 : Int32) (l2 : Int32) (ω : OW) (n : Nat) : RO := if l1 = 0 then (J_X11_throwsIf_9 Θ l1 ω n) else (wF ω l0 11 0 (.int l2) (fun ω => J_X11_throwsIf_9 Θ l1 ω n))
theorem ok_J_X11_throwsIf_9 (Θ : GP) (l1 : Int32) (ω : OW) (n : Nat) (r : Out) (h : J_X11_throwsIf_9 Θ l1 ω n = some r) : GR Θ yX11_throwsIf cX11_throwsIf 3 (some .boolean) 1 (0, 0) 9 [(1, .int l1)] [] ω n r := by
  unfold J_X11_throwsIf_9 at h
  refine g_iload_n dX11_throwsIf_9 rfl 0 rfl ?_
  obtain ⟨z1, h⟩ := bz_inv h
  cases h
  exact g_zret rfl z1 dX11_throwsIf_10 rfl
theorem ok_X11_throwsIf (Θ : GP) (l0 : Nat) (l1 : Int32) (l2 : Int32) (ω : OW) (n : Nat) : Ok Θ 1 0 0 yX11_throwsIf cX11_throwsIf 3 (some .boolean) [.ref l0, .int l1, .int l2] ω n (F_X11_throwsIf Θ l0 l1 l2 ω n) := by
  refine Ok.of (by decide +kernel) (Nat.le_of_ble_eq_true rfl) (fun r h => ?_)
  unfold F_X11_throwsIf at h
  show GR Θ yX11_throwsIf cX11_throwsIf 3 (some .boolean) 1 (0, 0) 0 [(0, .ref l0), (1, .int l1), (2, .int l2)] [] ω n r
  refine g_iload_n dX11_throwsIf_0 rfl 1 rfl ?_
  refine g_if_eq (tgt := 9) dX11_throwsIf_1 (by decide) (fun c2 => ?_) (fun c2 => ?_)
  · rw [if_pos c2] at h
    refine G.lsub [1] rfl ?_
    exact ok_J_X11_throwsIf_9 Θ l1 _ _ r h
  · rw [if_neg c2] at h
    refine g_aload_n dX11_throwsIf_4 rfl 0 rfl ?_
    refine g_iload_n dX11_throwsIf_5 rfl 2 rfl ?_
    refine g_wF fl_X11_3 dX11_throwsIf_6 (rfl) rfl h (fun ω h => ?_)
    refine G.lsub [1] rfl ?_
    exact ok_J_X11_throwsIf_9 Θ l1 _ _ r h
def J_X11_in_15 (Θ : GP) (s0 : Int32) (ω : OW) (n : Nat) : RO := bz s0 (some (.inl (some (.int s0), ω, n)))
def J_X11_in_14 (Θ : GP) (ω : OW) (n : Nat) : RO := J_X11_in_15 Θ 0 ω n
def F_X11_in (Θ : GP) (l0 : Int32) (l1 : Int32) (l2 : Int32) (ω : OW) (n : Nat) : RO := if l0 < l1 then (J_X11_in_14 Θ ω n) else (if l2 < l0 then (J_X11_in_14 Θ ω n) else (J_X11_in_15 Θ 1 ω n))
theorem ok_J_X11_in_15 (Θ : GP) (s0 : Int32) (ω : OW) (n : Nat) (r : Out) (h : J_X11_in_15 Θ s0 ω n = some r) : GR Θ yX11_in cX11_in 3 (some .boolean) 1 (0, 0) 15 [] [.int s0] ω n r := by
  unfold J_X11_in_15 at h
  obtain ⟨z1, h⟩ := bz_inv h
  cases h
  exact g_zret rfl z1 dX11_in_15 rfl
theorem ok_J_X11_in_14 (Θ : GP) (ω : OW) (n : Nat) (r : Out) (h : J_X11_in_14 Θ ω n = some r) : GR Θ yX11_in cX11_in 3 (some .boolean) 1 (0, 0) 14 [] [] ω n r := by
  unfold J_X11_in_14 at h
  refine g_iconst (v := 0) dX11_in_14 (by decide) ?_
  exact ok_J_X11_in_15 Θ 0 _ _ r h
theorem ok_X11_in (Θ : GP) (l0 : Int32) (l1 : Int32) (l2 : Int32) (ω : OW) (n : Nat) : Ok Θ 1 0 0 yX11_in cX11_in 3 (some .boolean) [.int l0, .int l1, .int l2] ω n (F_X11_in Θ l0 l1 l2 ω n) := by
  refine Ok.of (by decide +kernel) (Nat.le_of_ble_eq_true rfl) (fun r h => ?_)
  unfold F_X11_in at h
  show GR Θ yX11_in cX11_in 3 (some .boolean) 1 (0, 0) 0 [(0, .int l0), (1, .int l1), (2, .int l2)] [] ω n r
  refine g_iload_n dX11_in_0 rfl 0 rfl ?_
  refine g_iload_n dX11_in_1 rfl 1 rfl ?_
  refine g_icmp_lt (tgt := 14) dX11_in_2 (by decide) (fun c2 => ?_) (fun c2 => ?_)
  · rw [if_pos c2] at h
    refine G.lsub [] rfl ?_
    exact ok_J_X11_in_14 Θ _ _ r h
  · rw [if_neg c2] at h
    refine g_iload_n dX11_in_5 rfl 0 rfl ?_
    refine g_iload_n dX11_in_6 rfl 2 rfl ?_
    refine g_icmp_gt (tgt := 14) dX11_in_7 (by decide) (fun c3 => ?_) (fun c3 => ?_)
    · rw [if_pos c3] at h
      refine G.lsub [] rfl ?_
      exact ok_J_X11_in_14 Θ _ _ r h
    · rw [if_neg c3] at h
      refine g_iconst (v := 1) dX11_in_10 (by decide) ?_
      refine g_goto (tgt := 15) dX11_in_11 (by decide) ?_
      refine G.lsub [] rfl ?_
      exact ok_J_X11_in_15 Θ 1 _ _ r h
def J_X11_has_14 (Θ : GP) (s0 : Int32) (ω : OW) (n : Nat) : RO := bz s0 (some (.inl (some (.int s0), ω, n)))
def F_X11_has (Θ : GP) (l0 : Int32) (l1 : Int32) (ω : OW) (n : Nat) : RO := if ((l0 >>> ((l1 : Int32) &&& 31)) &&& 1) = 1 then (J_X11_has_14 Θ 1 ω n) else (J_X11_has_14 Θ 0 ω n)
theorem ok_J_X11_has_14 (Θ : GP) (s0 : Int32) (ω : OW) (n : Nat) (r : Out) (h : J_X11_has_14 Θ s0 ω n = some r) : GR Θ yX11_has cX11_has 2 (some .boolean) 1 (0, 0) 14 [] [.int s0] ω n r := by
  unfold J_X11_has_14 at h
  obtain ⟨z1, h⟩ := bz_inv h
  cases h
  exact g_zret rfl z1 dX11_has_14 rfl
theorem ok_X11_has (Θ : GP) (l0 : Int32) (l1 : Int32) (ω : OW) (n : Nat) : Ok Θ 1 0 0 yX11_has cX11_has 2 (some .boolean) [.int l0, .int l1] ω n (F_X11_has Θ l0 l1 ω n) := by
  refine Ok.of (by decide +kernel) (Nat.le_of_ble_eq_true rfl) (fun r h => ?_)
  unfold F_X11_has at h
  show GR Θ yX11_has cX11_has 2 (some .boolean) 1 (0, 0) 0 [(0, .int l0), (1, .int l1)] [] ω n r
  refine g_iload_n dX11_has_0 rfl 0 rfl ?_
  refine g_iload_n dX11_has_1 rfl 1 rfl ?_
  refine g_ishr dX11_has_2 ?_
  refine g_iconst (v := 1) dX11_has_3 (by decide) ?_
  refine g_iand dX11_has_4 ?_
  refine g_iconst (v := 1) dX11_has_5 (by decide) ?_
  refine g_icmp_ne (tgt := 13) dX11_has_6 (by decide) (fun c2 => ?_) (fun c2 => ?_)
  · rw [if_neg c2] at h
    refine g_iconst (v := 0) dX11_has_13 (by decide) ?_
    refine G.lsub [] rfl ?_
    exact ok_J_X11_has_14 Θ 0 _ _ r h
  · rw [if_pos c2] at h
    refine g_iconst (v := 1) dX11_has_9 (by decide) ?_
    refine g_goto (tgt := 14) dX11_has_10 (by decide) ?_
    refine G.lsub [] rfl ?_
    exact ok_J_X11_has_14 Θ 1 _ _ r h
def B_X11_image_7 (Θ : GP) (k_7 : Nat → Int32 → OW → Nat → RO) (l0 : Nat) (l1 : Int32) (ω : OW) (n : Nat) : RO := if 1154 ≤ l1 then (wF ω l0 11 6 (.int 1) (fun ω => some (.inl (none, ω, n)))) else (rA ω l0 11 2 (fun a2 => rA ω l0 11 1 (fun a3 => lI ω (gI Θ) a3 l1 (fun x4 => sI ω (gI Θ) a2 l1 x4 (fun ω => k_7 l0 (l1 + 1) ω n)))))
def L_X11_image_7 (Θ : GP) : Nat → Nat → Int32 → OW → Nat → RO
  | 0, _, _, _, _ => none
  | f + 1, l0, l1, ω, n => B_X11_image_7 Θ (L_X11_image_7 Θ f) l0 l1 ω n
def F_X11_image (Θ : GP) (l0 : Nat) (ω : OW) (n : Nat) : RO := wF ω l0 11 0 (.int 0) (fun ω => L_X11_image_7 Θ 5000 l0 0 ω n)
theorem ok_B_X11_image_7 (Θ : GP) (k_7 : Nat → Int32 → OW → Nat → RO) (hk_7 : ∀ l0 l1 ω n r, k_7 l0 l1 ω n = some r → GR Θ yX11_image cX11_image 2 (none : Option Jvm.ClassFile.FieldType) 1 (0, 0) 7 [(0, .ref l0), (1, .int l1)] [] ω n r) (l0 : Nat) (l1 : Int32) (ω : OW) (n : Nat) (r : Out) (h : B_X11_image_7 Θ k_7 l0 l1 ω n = some r) : GR Θ yX11_image cX11_image 2 (none : Option Jvm.ClassFile.FieldType) 1 (0, 0) 7 [(0, .ref l0), (1, .int l1)] [] ω n r := by
  unfold B_X11_image_7 at h
  refine g_iload_n dX11_image_7 rfl 1 rfl ?_
  refine g_sipush (v := 1154) dX11_image_8 (by decide) ?_
  refine g_icmp_ge (tgt := 32) dX11_image_11 (by decide) (fun c1 => ?_) (fun c1 => ?_)
  · rw [if_pos c1] at h
    refine g_aload_n dX11_image_32 rfl 0 rfl ?_
    refine g_iconst (v := 1) dX11_image_33 (by decide) ?_
    refine g_wF fl_X11_63 dX11_image_34 (rfl) rfl h (fun ω h => ?_)
    cases h
    exact g_vret rfl dX11_image_37 rfl
  · rw [if_neg c1] at h
    refine g_aload_n dX11_image_14 rfl 0 rfl ?_
    refine g_rA fl_X11_17 dX11_image_15 h (fun a2 h => ?_)
    refine g_iload_n dX11_image_18 rfl 1 rfl ?_
    refine g_aload_n dX11_image_19 rfl 0 rfl ?_
    refine g_rA fl_X11_13 dX11_image_20 h (fun a3 h => ?_)
    refine g_iload_n dX11_image_23 rfl 1 rfl ?_
    refine g_lIi dX11_image_24 h (fun x4 h => ?_)
    refine g_sIi dX11_image_25 h (fun ω h => ?_)
    refine g_iinc (j := 1) (v := l1 + 1) (lv' := [(1, .int (l1 + 1)), (0, .ref l0)]) dX11_image_26 rfl rfl (by decide) rfl ?_
    refine g_goto (tgt := 7) dX11_image_29 (by decide) ?_
    refine G.lsub [1, 0] rfl ?_
    exact hk_7 l0 (l1 + 1) _ _ r h
theorem ok_L_X11_image_7 (Θ : GP) : ∀ (f : Nat) (l0 : Nat) (l1 : Int32) (ω : OW) (n : Nat) (r : Out), L_X11_image_7 Θ f l0 l1 ω n = some r → GR Θ yX11_image cX11_image 2 (none : Option Jvm.ClassFile.FieldType) 1 (0, 0) 7 [(0, .ref l0), (1, .int l1)] [] ω n r := by
  intro f
  induction f with
  | zero =>
    intro l0 l1 ω n r h
    unfold L_X11_image_7 at h
    cases h
  | succ f ih =>
    intro l0 l1 ω n r h
    unfold L_X11_image_7 at h
    exact ok_B_X11_image_7 Θ (L_X11_image_7 Θ f) ih l0 l1 ω n r h
theorem ok_X11_image (Θ : GP) (l0 : Nat) (ω : OW) (n : Nat) : Ok Θ 1 0 0 yX11_image cX11_image 2 (none : Option Jvm.ClassFile.FieldType) [.ref l0] ω n (F_X11_image Θ l0 ω n) := by
  refine Ok.of (by decide +kernel) (Nat.le_of_ble_eq_true rfl) (fun r h => ?_)
  unfold F_X11_image at h
  show GR Θ yX11_image cX11_image 2 (none : Option Jvm.ClassFile.FieldType) 1 (0, 0) 0 [(0, .ref l0)] [] ω n r
  refine g_aload_n dX11_image_0 rfl 0 rfl ?_
  refine g_iconst (v := 0) dX11_image_1 (by decide) ?_
  refine g_wF fl_X11_3 dX11_image_2 (rfl) rfl h (fun ω h => ?_)
  refine g_iconst (v := 0) dX11_image_5 (by decide) ?_
  refine g_istore_n (lv' := [(1, .int 0), (0, .ref l0)]) dX11_image_6 rfl (by decide) rfl ?_
  refine G.lsub [1, 0] rfl ?_
  exact ok_L_X11_image_7 Θ 5000 l0 0 _ _ r h
def B_X11_back_16 (Θ : GP) (k_16 : Nat → Int32 → OW → Nat → RO) (l0 : Nat) (l1 : Int32) (ω : OW) (n : Nat) : RO := if 1154 ≤ l1 then (wF ω l0 11 7 (.int 0) (fun ω => some (.inl (some (.int 1), ω, n)))) else (rA ω l0 11 1 (fun a2 => rA ω l0 11 2 (fun a3 => lI ω (gI Θ) a3 l1 (fun x4 => sI ω (gI Θ) a2 l1 x4 (fun ω => k_16 l0 (l1 + 1) ω n)))))
def L_X11_back_16 (Θ : GP) : Nat → Nat → Int32 → OW → Nat → RO
  | 0, _, _, _, _ => none
  | f + 1, l0, l1, ω, n => B_X11_back_16 Θ (L_X11_back_16 Θ f) l0 l1 ω n
def F_X11_back (Θ : GP) (l0 : Nat) (ω : OW) (n : Nat) : RO := wF ω l0 11 0 (.int 0) (fun ω => rI ω l0 11 6 (fun x5 => if x5 = 0 then (some (.inl (some (.int 0), ω, n))) else (L_X11_back_16 Θ 5000 l0 0 ω n)))
theorem ok_B_X11_back_16 (Θ : GP) (k_16 : Nat → Int32 → OW → Nat → RO) (hk_16 : ∀ l0 l1 ω n r, k_16 l0 l1 ω n = some r → GR Θ yX11_back cX11_back 2 (some .boolean) 1 (0, 0) 16 [(0, .ref l0), (1, .int l1)] [] ω n r) (l0 : Nat) (l1 : Int32) (ω : OW) (n : Nat) (r : Out) (h : B_X11_back_16 Θ k_16 l0 l1 ω n = some r) : GR Θ yX11_back cX11_back 2 (some .boolean) 1 (0, 0) 16 [(0, .ref l0), (1, .int l1)] [] ω n r := by
  unfold B_X11_back_16 at h
  refine g_iload_n dX11_back_16 rfl 1 rfl ?_
  refine g_sipush (v := 1154) dX11_back_17 (by decide) ?_
  refine g_icmp_ge (tgt := 41) dX11_back_20 (by decide) (fun c1 => ?_) (fun c1 => ?_)
  · rw [if_pos c1] at h
    refine g_aload_n dX11_back_41 rfl 0 rfl ?_
    refine g_iconst (v := 0) dX11_back_42 (by decide) ?_
    refine g_wF fl_X11_67 dX11_back_43 (rfl) rfl h (fun ω h => ?_)
    refine g_iconst (v := 1) dX11_back_46 (by decide) ?_
    cases h
    exact g_zret rfl rfl dX11_back_47 rfl
  · rw [if_neg c1] at h
    refine g_aload_n dX11_back_23 rfl 0 rfl ?_
    refine g_rA fl_X11_13 dX11_back_24 h (fun a2 h => ?_)
    refine g_iload_n dX11_back_27 rfl 1 rfl ?_
    refine g_aload_n dX11_back_28 rfl 0 rfl ?_
    refine g_rA fl_X11_17 dX11_back_29 h (fun a3 h => ?_)
    refine g_iload_n dX11_back_32 rfl 1 rfl ?_
    refine g_lIi dX11_back_33 h (fun x4 h => ?_)
    refine g_sIi dX11_back_34 h (fun ω h => ?_)
    refine g_iinc (j := 1) (v := l1 + 1) (lv' := [(1, .int (l1 + 1)), (0, .ref l0)]) dX11_back_35 rfl rfl (by decide) rfl ?_
    refine g_goto (tgt := 16) dX11_back_38 (by decide) ?_
    refine G.lsub [1, 0] rfl ?_
    exact hk_16 l0 (l1 + 1) _ _ r h
theorem ok_L_X11_back_16 (Θ : GP) : ∀ (f : Nat) (l0 : Nat) (l1 : Int32) (ω : OW) (n : Nat) (r : Out), L_X11_back_16 Θ f l0 l1 ω n = some r → GR Θ yX11_back cX11_back 2 (some .boolean) 1 (0, 0) 16 [(0, .ref l0), (1, .int l1)] [] ω n r := by
  intro f
  induction f with
  | zero =>
    intro l0 l1 ω n r h
    unfold L_X11_back_16 at h
    cases h
  | succ f ih =>
    intro l0 l1 ω n r h
    unfold L_X11_back_16 at h
    exact ok_B_X11_back_16 Θ (L_X11_back_16 Θ f) ih l0 l1 ω n r h
theorem ok_X11_back (Θ : GP) (l0 : Nat) (ω : OW) (n : Nat) : Ok Θ 1 0 0 yX11_back cX11_back 2 (some .boolean) [.ref l0] ω n (F_X11_back Θ l0 ω n) := by
  refine Ok.of (by decide +kernel) (Nat.le_of_ble_eq_true rfl) (fun r h => ?_)
  unfold F_X11_back at h
  show GR Θ yX11_back cX11_back 2 (some .boolean) 1 (0, 0) 0 [(0, .ref l0)] [] ω n r
  refine g_aload_n dX11_back_0 rfl 0 rfl ?_
  refine g_iconst (v := 0) dX11_back_1 (by decide) ?_
  refine g_wF fl_X11_3 dX11_back_2 (rfl) rfl h (fun ω h => ?_)
  refine g_aload_n dX11_back_5 rfl 0 rfl ?_
  refine g_rI fl_X11_63 dX11_back_6 h (fun x5 h => ?_)
  refine g_if_ne (tgt := 14) dX11_back_9 (by decide) (fun c6 => ?_) (fun c6 => ?_)
  · rw [if_neg c6] at h
    refine g_iconst (v := 0) dX11_back_14 (by decide) ?_
    refine g_istore_n (lv' := [(1, .int 0), (0, .ref l0)]) dX11_back_15 rfl (by decide) rfl ?_
    refine G.lsub [1, 0] rfl ?_
    exact ok_L_X11_back_16 Θ 5000 l0 0 _ _ r h
  · rw [if_pos c6] at h
    refine g_iconst (v := 0) dX11_back_12 (by decide) ?_
    cases h
    exact g_zret rfl rfl dX11_back_13 rfl
def B_X11_remembers_55 (Θ : GP) (k_55 : Nat → Int32 → OW → Nat → RO) (l0 : Nat) (l1 : Int32) (ω : OW) (n : Nat) : RO := if 305 ≤ l1 then (some (.inl (none, ω, n))) else (rA ω l0 11 5 (fun a2 => rI ω l0 11 7 (fun x3 => rA ω l0 11 1 (fun a4 => lI ω (gI Θ) a4 l1 (fun x5 => sI ω (gI Θ) a2 ((305 * (x3 - 1)) + l1) x5 (fun ω => k_55 l0 (l1 + 1) ω n))))))
def L_X11_remembers_55 (Θ : GP) : Nat → Nat → Int32 → OW → Nat → RO
  | 0, _, _, _, _ => none
  | f + 1, l0, l1, ω, n => B_X11_remembers_55 Θ (L_X11_remembers_55 Θ f) l0 l1 ω n
def J_X11_remembers_53 (Θ : GP) (l0 : Nat) (ω : OW) (n : Nat) : RO := L_X11_remembers_55 Θ 5000 l0 0 ω n
def B_X11_remembers_11 (Θ : GP) (k_11 : Nat → Int32 → OW → Nat → RO) (l0 : Nat) (l1 : Int32) (ω : OW) (n : Nat) : RO := if 3355 ≤ l1 then (J_X11_remembers_53 Θ l0 ω n) else (rA ω l0 11 5 (fun a7 => rA ω l0 11 5 (fun a8 => lI ω (gI Θ) a8 (l1 + 305) (fun x9 => sI ω (gI Θ) a7 l1 x9 (fun ω => k_11 l0 (l1 + 1) ω n)))))
def L_X11_remembers_11 (Θ : GP) : Nat → Nat → Int32 → OW → Nat → RO
  | 0, _, _, _, _ => none
  | f + 1, l0, l1, ω, n => B_X11_remembers_11 Θ (L_X11_remembers_11 Θ f) l0 l1 ω n
def F_X11_remembers (Θ : GP) (l0 : Nat) (ω : OW) (n : Nat) : RO := rI ω l0 11 7 (fun x10 => if x10 = 12 then (L_X11_remembers_11 Θ 5000 l0 0 ω n) else (rI ω l0 11 7 (fun x12 => wF ω l0 11 7 (.int (x12 + 1)) (fun ω => J_X11_remembers_53 Θ l0 ω n))))
theorem ok_B_X11_remembers_55 (Θ : GP) (k_55 : Nat → Int32 → OW → Nat → RO) (hk_55 : ∀ l0 l1 ω n r, k_55 l0 l1 ω n = some r → GR Θ yX11_remembers cX11_remembers 2 (none : Option Jvm.ClassFile.FieldType) 1 (0, 0) 55 [(0, .ref l0), (1, .int l1)] [] ω n r) (l0 : Nat) (l1 : Int32) (ω : OW) (n : Nat) (r : Out) (h : B_X11_remembers_55 Θ k_55 l0 l1 ω n = some r) : GR Θ yX11_remembers cX11_remembers 2 (none : Option Jvm.ClassFile.FieldType) 1 (0, 0) 55 [(0, .ref l0), (1, .int l1)] [] ω n r := by
  unfold B_X11_remembers_55 at h
  refine g_iload_n dX11_remembers_55 rfl 1 rfl ?_
  refine g_sipush (v := 305) dX11_remembers_56 (by decide) ?_
  refine g_icmp_ge (tgt := 91) dX11_remembers_59 (by decide) (fun c1 => ?_) (fun c1 => ?_)
  · rw [if_pos c1] at h
    cases h
    exact g_vret rfl dX11_remembers_91 rfl
  · rw [if_neg c1] at h
    refine g_aload_n dX11_remembers_62 rfl 0 rfl ?_
    refine g_rA fl_X11_26 dX11_remembers_63 h (fun a2 h => ?_)
    refine g_sipush (v := 305) dX11_remembers_66 (by decide) ?_
    refine g_aload_n dX11_remembers_69 rfl 0 rfl ?_
    refine g_rI fl_X11_67 dX11_remembers_70 h (fun x3 h => ?_)
    refine g_iconst (v := 1) dX11_remembers_73 (by decide) ?_
    refine g_isub dX11_remembers_74 ?_
    refine g_imul dX11_remembers_75 ?_
    refine g_iload_n dX11_remembers_76 rfl 1 rfl ?_
    refine g_iadd dX11_remembers_77 ?_
    refine g_aload_n dX11_remembers_78 rfl 0 rfl ?_
    refine g_rA fl_X11_13 dX11_remembers_79 h (fun a4 h => ?_)
    refine g_iload_n dX11_remembers_82 rfl 1 rfl ?_
    refine g_lIi dX11_remembers_83 h (fun x5 h => ?_)
    refine g_sIi dX11_remembers_84 h (fun ω h => ?_)
    refine g_iinc (j := 1) (v := l1 + 1) (lv' := [(1, .int (l1 + 1)), (0, .ref l0)]) dX11_remembers_85 rfl rfl (by decide) rfl ?_
    refine g_goto (tgt := 55) dX11_remembers_88 (by decide) ?_
    refine G.lsub [1, 0] rfl ?_
    exact hk_55 l0 (l1 + 1) _ _ r h
theorem ok_L_X11_remembers_55 (Θ : GP) : ∀ (f : Nat) (l0 : Nat) (l1 : Int32) (ω : OW) (n : Nat) (r : Out), L_X11_remembers_55 Θ f l0 l1 ω n = some r → GR Θ yX11_remembers cX11_remembers 2 (none : Option Jvm.ClassFile.FieldType) 1 (0, 0) 55 [(0, .ref l0), (1, .int l1)] [] ω n r := by
  intro f
  induction f with
  | zero =>
    intro l0 l1 ω n r h
    unfold L_X11_remembers_55 at h
    cases h
  | succ f ih =>
    intro l0 l1 ω n r h
    unfold L_X11_remembers_55 at h
    exact ok_B_X11_remembers_55 Θ (L_X11_remembers_55 Θ f) ih l0 l1 ω n r h
theorem ok_J_X11_remembers_53 (Θ : GP) (l0 : Nat) (ω : OW) (n : Nat) (r : Out) (h : J_X11_remembers_53 Θ l0 ω n = some r) : GR Θ yX11_remembers cX11_remembers 2 (none : Option Jvm.ClassFile.FieldType) 1 (0, 0) 53 [(0, .ref l0)] [] ω n r := by
  unfold J_X11_remembers_53 at h
  refine g_iconst (v := 0) dX11_remembers_53 (by decide) ?_
  refine g_istore_n (lv' := [(1, .int 0), (0, .ref l0)]) dX11_remembers_54 rfl (by decide) rfl ?_
  refine G.lsub [1, 0] rfl ?_
  exact ok_L_X11_remembers_55 Θ 5000 l0 0 _ _ r h
theorem ok_B_X11_remembers_11 (Θ : GP) (k_11 : Nat → Int32 → OW → Nat → RO) (hk_11 : ∀ l0 l1 ω n r, k_11 l0 l1 ω n = some r → GR Θ yX11_remembers cX11_remembers 2 (none : Option Jvm.ClassFile.FieldType) 1 (0, 0) 11 [(0, .ref l0), (1, .int l1)] [] ω n r) (l0 : Nat) (l1 : Int32) (ω : OW) (n : Nat) (r : Out) (h : B_X11_remembers_11 Θ k_11 l0 l1 ω n = some r) : GR Θ yX11_remembers cX11_remembers 2 (none : Option Jvm.ClassFile.FieldType) 1 (0, 0) 11 [(0, .ref l0), (1, .int l1)] [] ω n r := by
  unfold B_X11_remembers_11 at h
  refine g_iload_n dX11_remembers_11 rfl 1 rfl ?_
  refine g_sipush (v := 3355) dX11_remembers_12 (by decide) ?_
  refine g_icmp_ge (tgt := 40) dX11_remembers_15 (by decide) (fun c6 => ?_) (fun c6 => ?_)
  · rw [if_pos c6] at h
    refine g_goto (tgt := 53) dX11_remembers_40 (by decide) ?_
    refine G.lsub [0] rfl ?_
    exact ok_J_X11_remembers_53 Θ l0 _ _ r h
  · rw [if_neg c6] at h
    refine g_aload_n dX11_remembers_18 rfl 0 rfl ?_
    refine g_rA fl_X11_26 dX11_remembers_19 h (fun a7 h => ?_)
    refine g_iload_n dX11_remembers_22 rfl 1 rfl ?_
    refine g_aload_n dX11_remembers_23 rfl 0 rfl ?_
    refine g_rA fl_X11_26 dX11_remembers_24 h (fun a8 h => ?_)
    refine g_iload_n dX11_remembers_27 rfl 1 rfl ?_
    refine g_sipush (v := 305) dX11_remembers_28 (by decide) ?_
    refine g_iadd dX11_remembers_31 ?_
    refine g_lIi dX11_remembers_32 h (fun x9 h => ?_)
    refine g_sIi dX11_remembers_33 h (fun ω h => ?_)
    refine g_iinc (j := 1) (v := l1 + 1) (lv' := [(1, .int (l1 + 1)), (0, .ref l0)]) dX11_remembers_34 rfl rfl (by decide) rfl ?_
    refine g_goto (tgt := 11) dX11_remembers_37 (by decide) ?_
    refine G.lsub [1, 0] rfl ?_
    exact hk_11 l0 (l1 + 1) _ _ r h
theorem ok_L_X11_remembers_11 (Θ : GP) : ∀ (f : Nat) (l0 : Nat) (l1 : Int32) (ω : OW) (n : Nat) (r : Out), L_X11_remembers_11 Θ f l0 l1 ω n = some r → GR Θ yX11_remembers cX11_remembers 2 (none : Option Jvm.ClassFile.FieldType) 1 (0, 0) 11 [(0, .ref l0), (1, .int l1)] [] ω n r := by
  intro f
  induction f with
  | zero =>
    intro l0 l1 ω n r h
    unfold L_X11_remembers_11 at h
    cases h
  | succ f ih =>
    intro l0 l1 ω n r h
    unfold L_X11_remembers_11 at h
    exact ok_B_X11_remembers_11 Θ (L_X11_remembers_11 Θ f) ih l0 l1 ω n r h
theorem ok_X11_remembers (Θ : GP) (l0 : Nat) (ω : OW) (n : Nat) : Ok Θ 1 0 0 yX11_remembers cX11_remembers 2 (none : Option Jvm.ClassFile.FieldType) [.ref l0] ω n (F_X11_remembers Θ l0 ω n) := by
  refine Ok.of (by decide +kernel) (Nat.le_of_ble_eq_true rfl) (fun r h => ?_)
  unfold F_X11_remembers at h
  show GR Θ yX11_remembers cX11_remembers 2 (none : Option Jvm.ClassFile.FieldType) 1 (0, 0) 0 [(0, .ref l0)] [] ω n r
  refine g_aload_n dX11_remembers_0 rfl 0 rfl ?_
  refine g_rI fl_X11_67 dX11_remembers_1 h (fun x10 h => ?_)
  refine g_bipush (v := 12) dX11_remembers_4 (by decide) ?_
  refine g_icmp_ne (tgt := 43) dX11_remembers_6 (by decide) (fun c11 => ?_) (fun c11 => ?_)
  · rw [if_neg c11] at h
    refine g_aload_n dX11_remembers_43 rfl 0 rfl ?_
    refine g_dup dX11_remembers_44 rfl ?_
    refine g_rI fl_X11_67 dX11_remembers_45 h (fun x12 h => ?_)
    refine g_iconst (v := 1) dX11_remembers_48 (by decide) ?_
    refine g_iadd dX11_remembers_49 ?_
    refine g_wF fl_X11_67 dX11_remembers_50 (rfl) rfl h (fun ω h => ?_)
    exact ok_J_X11_remembers_53 Θ l0 _ _ r h
  · rw [if_pos c11] at h
    refine g_iconst (v := 0) dX11_remembers_9 (by decide) ?_
    refine g_istore_n (lv' := [(1, .int 0), (0, .ref l0)]) dX11_remembers_10 rfl (by decide) rfl ?_
    refine G.lsub [1, 0] rfl ?_
    exact ok_L_X11_remembers_11 Θ 5000 l0 0 _ _ r h
def B_X11_undo_26 (Θ : GP) (k_26 : Nat → Int32 → OW → Nat → RO) (l0 : Nat) (l1 : Int32) (ω : OW) (n : Nat) : RO := if 305 ≤ l1 then (some (.inl (some (.int 1), ω, n))) else (rA ω l0 11 1 (fun a2 => rA ω l0 11 5 (fun a3 => rI ω l0 11 7 (fun x4 => lI ω (gI Θ) a3 ((305 * x4) + l1) (fun x5 => sI ω (gI Θ) a2 l1 x5 (fun ω => k_26 l0 (l1 + 1) ω n))))))
def L_X11_undo_26 (Θ : GP) : Nat → Nat → Int32 → OW → Nat → RO
  | 0, _, _, _, _ => none
  | f + 1, l0, l1, ω, n => B_X11_undo_26 Θ (L_X11_undo_26 Θ f) l0 l1 ω n
def F_X11_undo (Θ : GP) (l0 : Nat) (ω : OW) (n : Nat) : RO := wF ω l0 11 0 (.int 0) (fun ω => rI ω l0 11 7 (fun x6 => if x6 = 0 then (some (.inl (some (.int 0), ω, n))) else (rI ω l0 11 7 (fun x8 => wF ω l0 11 7 (.int (x8 - 1)) (fun ω => L_X11_undo_26 Θ 5000 l0 0 ω n)))))
theorem ok_B_X11_undo_26 (Θ : GP) (k_26 : Nat → Int32 → OW → Nat → RO) (hk_26 : ∀ l0 l1 ω n r, k_26 l0 l1 ω n = some r → GR Θ yX11_undo cX11_undo 2 (some .boolean) 1 (0, 0) 26 [(0, .ref l0), (1, .int l1)] [] ω n r) (l0 : Nat) (l1 : Int32) (ω : OW) (n : Nat) (r : Out) (h : B_X11_undo_26 Θ k_26 l0 l1 ω n = some r) : GR Θ yX11_undo cX11_undo 2 (some .boolean) 1 (0, 0) 26 [(0, .ref l0), (1, .int l1)] [] ω n r := by
  unfold B_X11_undo_26 at h
  refine g_iload_n dX11_undo_26 rfl 1 rfl ?_
  refine g_sipush (v := 305) dX11_undo_27 (by decide) ?_
  refine g_icmp_ge (tgt := 60) dX11_undo_30 (by decide) (fun c1 => ?_) (fun c1 => ?_)
  · rw [if_pos c1] at h
    refine g_iconst (v := 1) dX11_undo_60 (by decide) ?_
    cases h
    exact g_zret rfl rfl dX11_undo_61 rfl
  · rw [if_neg c1] at h
    refine g_aload_n dX11_undo_33 rfl 0 rfl ?_
    refine g_rA fl_X11_13 dX11_undo_34 h (fun a2 h => ?_)
    refine g_iload_n dX11_undo_37 rfl 1 rfl ?_
    refine g_aload_n dX11_undo_38 rfl 0 rfl ?_
    refine g_rA fl_X11_26 dX11_undo_39 h (fun a3 h => ?_)
    refine g_sipush (v := 305) dX11_undo_42 (by decide) ?_
    refine g_aload_n dX11_undo_45 rfl 0 rfl ?_
    refine g_rI fl_X11_67 dX11_undo_46 h (fun x4 h => ?_)
    refine g_imul dX11_undo_49 ?_
    refine g_iload_n dX11_undo_50 rfl 1 rfl ?_
    refine g_iadd dX11_undo_51 ?_
    refine g_lIi dX11_undo_52 h (fun x5 h => ?_)
    refine g_sIi dX11_undo_53 h (fun ω h => ?_)
    refine g_iinc (j := 1) (v := l1 + 1) (lv' := [(1, .int (l1 + 1)), (0, .ref l0)]) dX11_undo_54 rfl rfl (by decide) rfl ?_
    refine g_goto (tgt := 26) dX11_undo_57 (by decide) ?_
    refine G.lsub [1, 0] rfl ?_
    exact hk_26 l0 (l1 + 1) _ _ r h
theorem ok_L_X11_undo_26 (Θ : GP) : ∀ (f : Nat) (l0 : Nat) (l1 : Int32) (ω : OW) (n : Nat) (r : Out), L_X11_undo_26 Θ f l0 l1 ω n = some r → GR Θ yX11_undo cX11_undo 2 (some .boolean) 1 (0, 0) 26 [(0, .ref l0), (1, .int l1)] [] ω n r := by
  intro f
  induction f with
  | zero =>
    intro l0 l1 ω n r h
    unfold L_X11_undo_26 at h
    cases h
  | succ f ih =>
    intro l0 l1 ω n r h
    unfold L_X11_undo_26 at h
    exact ok_B_X11_undo_26 Θ (L_X11_undo_26 Θ f) ih l0 l1 ω n r h
theorem ok_X11_undo (Θ : GP) (l0 : Nat) (ω : OW) (n : Nat) : Ok Θ 1 0 0 yX11_undo cX11_undo 2 (some .boolean) [.ref l0] ω n (F_X11_undo Θ l0 ω n) := by
  refine Ok.of (by decide +kernel) (Nat.le_of_ble_eq_true rfl) (fun r h => ?_)
  unfold F_X11_undo at h
  show GR Θ yX11_undo cX11_undo 2 (some .boolean) 1 (0, 0) 0 [(0, .ref l0)] [] ω n r
  refine g_aload_n dX11_undo_0 rfl 0 rfl ?_
  refine g_iconst (v := 0) dX11_undo_1 (by decide) ?_
  refine g_wF fl_X11_3 dX11_undo_2 (rfl) rfl h (fun ω h => ?_)
  refine g_aload_n dX11_undo_5 rfl 0 rfl ?_
  refine g_rI fl_X11_67 dX11_undo_6 h (fun x6 h => ?_)
  refine g_if_ne (tgt := 14) dX11_undo_9 (by decide) (fun c7 => ?_) (fun c7 => ?_)
  · rw [if_neg c7] at h
    refine g_aload_n dX11_undo_14 rfl 0 rfl ?_
    refine g_dup dX11_undo_15 rfl ?_
    refine g_rI fl_X11_67 dX11_undo_16 h (fun x8 h => ?_)
    refine g_iconst (v := 1) dX11_undo_19 (by decide) ?_
    refine g_isub dX11_undo_20 ?_
    refine g_wF fl_X11_67 dX11_undo_21 (rfl) rfl h (fun ω h => ?_)
    refine g_iconst (v := 0) dX11_undo_24 (by decide) ?_
    refine g_istore_n (lv' := [(1, .int 0), (0, .ref l0)]) dX11_undo_25 rfl (by decide) rfl ?_
    refine G.lsub [1, 0] rfl ?_
    exact ok_L_X11_undo_26 Θ 5000 l0 0 _ _ r h
  · rw [if_pos c7] at h
    refine g_iconst (v := 0) dX11_undo_12 (by decide) ?_
    cases h
    exact g_zret rfl rfl dX11_undo_13 rfl
def F_X11_props (Θ : GP) (l0 : Nat) (ω : OW) (n : Nat) : RO := rA ω l0 11 1 (fun a1 => lI ω (gI Θ) a1 0 (fun x2 => some (.inl (some (.int x2), ω, n))))
theorem ok_X11_props (Θ : GP) (l0 : Nat) (ω : OW) (n : Nat) : Ok Θ 1 0 0 yX11_props cX11_props 1 (some .int) [.ref l0] ω n (F_X11_props Θ l0 ω n) := by
  refine Ok.of (by decide +kernel) (Nat.le_of_ble_eq_true rfl) (fun r h => ?_)
  unfold F_X11_props at h
  show GR Θ yX11_props cX11_props 1 (some .int) 1 (0, 0) 0 [(0, .ref l0)] [] ω n r
  refine g_aload_n dX11_props_0 rfl 0 rfl ?_
  refine g_rA fl_X11_13 dX11_props_1 h (fun a1 h => ?_)
  refine g_iconst (v := 0) dX11_props_4 (by decide) ?_
  refine g_lIi dX11_props_5 h (fun x2 h => ?_)
  cases h
  exact g_iret rfl dX11_props_6 rfl
def F_X11_oneCount (Θ : GP) (l0 : Nat) (ω : OW) (n : Nat) : RO := rA ω l0 11 1 (fun a1 => lI ω (gI Θ) a1 1 (fun x2 => some (.inl (some (.int x2), ω, n))))
theorem ok_X11_oneCount (Θ : GP) (l0 : Nat) (ω : OW) (n : Nat) : Ok Θ 1 0 0 yX11_oneCount cX11_oneCount 1 (some .int) [.ref l0] ω n (F_X11_oneCount Θ l0 ω n) := by
  refine Ok.of (by decide +kernel) (Nat.le_of_ble_eq_true rfl) (fun r h => ?_)
  unfold F_X11_oneCount at h
  show GR Θ yX11_oneCount cX11_oneCount 1 (some .int) 1 (0, 0) 0 [(0, .ref l0)] [] ω n r
  refine g_aload_n dX11_oneCount_0 rfl 0 rfl ?_
  refine g_rA fl_X11_13 dX11_oneCount_1 h (fun a1 h => ?_)
  refine g_iconst (v := 1) dX11_oneCount_4 (by decide) ?_
  refine g_lIi dX11_oneCount_5 h (fun x2 h => ?_)
  cases h
  exact g_iret rfl dX11_oneCount_6 rfl
def F_X11_propAt (Θ : GP) (l0 : Int32) (l1 : Int32) (ω : OW) (n : Nat) : RO := some (.inl (some (.int ((9 + (4 * l0)) + l1)), ω, n))
theorem ok_X11_propAt (Θ : GP) (l0 : Int32) (l1 : Int32) (ω : OW) (n : Nat) : Ok Θ 1 0 0 yX11_propAt cX11_propAt 2 (some .int) [.int l0, .int l1] ω n (F_X11_propAt Θ l0 l1 ω n) := by
  refine Ok.of (by decide +kernel) (Nat.le_of_ble_eq_true rfl) (fun r h => ?_)
  unfold F_X11_propAt at h
  show GR Θ yX11_propAt cX11_propAt 2 (some .int) 1 (0, 0) 0 [(0, .int l0), (1, .int l1)] [] ω n r
  refine g_bipush (v := 9) dX11_propAt_0 (by decide) ?_
  refine g_iconst (v := 4) dX11_propAt_2 (by decide) ?_
  refine g_iload_n dX11_propAt_3 rfl 0 rfl ?_
  refine g_imul dX11_propAt_4 ?_
  refine g_iadd dX11_propAt_5 ?_
  refine g_iload_n dX11_propAt_6 rfl 1 rfl ?_
  refine g_iadd dX11_propAt_7 ?_
  cases h
  exact g_iret rfl dX11_propAt_8 rfl
def F_X11_ofProp (Θ : GP) (l0 : Nat) (l1 : Int32) (l2 : Int32) (ω : OW) (n : Nat) : RO := rA ω l0 11 1 (fun a1 => kI (F_X11_propAt Θ l1 l2 ω n) (fun x2 ω n => lI ω (gI Θ) a1 x2 (fun x3 => some (.inl (some (.int x3), ω, n)))))
theorem ok_X11_ofProp (Θ : GP) (l0 : Nat) (l1 : Int32) (l2 : Int32) (ω : OW) (n : Nat) : Ok Θ 2 0 0 yX11_ofProp cX11_ofProp 3 (some .int) [.ref l0, .int l1, .int l2] ω n (F_X11_ofProp Θ l0 l1 l2 ω n) := by
  refine Ok.of (by decide +kernel) (Nat.le_of_ble_eq_true rfl) (fun r h => ?_)
  unfold F_X11_ofProp at h
  show GR Θ yX11_ofProp cX11_ofProp 3 (some .int) 2 (0, 0) 0 [(0, .ref l0), (1, .int l1), (2, .int l2)] [] ω n r
  refine g_aload_n dX11_ofProp_0 rfl 0 rfl ?_
  refine g_rA fl_X11_13 dX11_ofProp_1 h (fun a1 h => ?_)
  refine g_iload_n dX11_ofProp_4 rfl 1 rfl ?_
  refine g_iload_n dX11_ofProp_5 rfl 2 rfl ?_
  refine g_sI (As := [.int l1, .int l2]) ms_X11_70 dX11_ofProp_6 (ok_X11_propAt Θ l1 l2 _ _) rfl rfl (Nat.le_of_ble_eq_true rfl) (by decide) (by decide) (by decide) h (fun x2 ω n h => ?_)
  refine G.less (B' := (0, 0)) (by decide) (by decide) ?_
  refine g_lIi dX11_ofProp_9 h (fun x3 h => ?_)
  cases h
  exact g_iret rfl dX11_ofProp_10 rfl
def J_X11_isNailed_15 (Θ : GP) (s0 : Int32) (ω : OW) (n : Nat) : RO := bz s0 (some (.inl (some (.int s0), ω, n)))
def F_X11_isNailed (Θ : GP) (l0 : Nat) (l1 : Int32) (ω : OW) (n : Nat) : RO := cO ω l0 11 (kI (F_X11_ofProp Θ l0 l1 3 ω n) (fun x2 ω n => if x2 = (-1) then (J_X11_isNailed_15 Θ 0 ω n) else (J_X11_isNailed_15 Θ 1 ω n)))
theorem ok_J_X11_isNailed_15 (Θ : GP) (s0 : Int32) (ω : OW) (n : Nat) (r : Out) (h : J_X11_isNailed_15 Θ s0 ω n = some r) : GR Θ yX11_isNailed cX11_isNailed 2 (some .boolean) 3 (0, 0) 15 [] [.int s0] ω n r := by
  unfold J_X11_isNailed_15 at h
  obtain ⟨z1, h⟩ := bz_inv h
  cases h
  exact g_zret rfl z1 dX11_isNailed_15 rfl
theorem ok_X11_isNailed (Θ : GP) (l0 : Nat) (l1 : Int32) (ω : OW) (n : Nat) : Ok Θ 3 0 0 yX11_isNailed cX11_isNailed 2 (some .boolean) [.ref l0, .int l1] ω n (F_X11_isNailed Θ l0 l1 ω n) := by
  refine Ok.of (by decide +kernel) (Nat.le_of_ble_eq_true rfl) (fun r h => ?_)
  unfold F_X11_isNailed at h
  show GR Θ yX11_isNailed cX11_isNailed 2 (some .boolean) 3 (0, 0) 0 [(0, .ref l0), (1, .int l1)] [] ω n r
  refine g_aload_n dX11_isNailed_0 rfl 0 rfl ?_
  refine g_iload_n dX11_isNailed_1 rfl 1 rfl ?_
  refine g_iconst (v := 3) dX11_isNailed_2 (by decide) ?_
  refine g_cI (ci := 11) (As := [.int l1, .int 3]) mv_X11_74 dX11_isNailed_3 rfl (ok_X11_ofProp Θ l0 l1 3 _ _) rfl rfl (Nat.le_of_ble_eq_true rfl) (by decide) (by decide) (by decide) h (fun x2 ω n h => ?_)
  refine G.less (B' := (0, 0)) (by decide) (by decide) ?_
  refine g_iconst (v := (-1)) dX11_isNailed_6 (by decide) ?_
  refine g_icmp_eq (tgt := 14) dX11_isNailed_7 (by decide) (fun c3 => ?_) (fun c3 => ?_)
  · rw [if_pos c3] at h
    refine g_iconst (v := 0) dX11_isNailed_14 (by decide) ?_
    refine G.lsub [] rfl ?_
    exact ok_J_X11_isNailed_15 Θ 0 _ _ r h
  · rw [if_neg c3] at h
    refine g_iconst (v := 1) dX11_isNailed_10 (by decide) ?_
    refine g_goto (tgt := 15) dX11_isNailed_11 (by decide) ?_
    refine G.lsub [] rfl ?_
    exact ok_J_X11_isNailed_15 Θ 1 _ _ r h
def F_X11_oneAt (Θ : GP) (l0 : Int32) (l1 : Int32) (ω : OW) (n : Nat) : RO := some (.inl (some (.int ((41 + (4 * l0)) + l1)), ω, n))
theorem ok_X11_oneAt (Θ : GP) (l0 : Int32) (l1 : Int32) (ω : OW) (n : Nat) : Ok Θ 1 0 0 yX11_oneAt cX11_oneAt 2 (some .int) [.int l0, .int l1] ω n (F_X11_oneAt Θ l0 l1 ω n) := by
  refine Ok.of (by decide +kernel) (Nat.le_of_ble_eq_true rfl) (fun r h => ?_)
  unfold F_X11_oneAt at h
  show GR Θ yX11_oneAt cX11_oneAt 2 (some .int) 1 (0, 0) 0 [(0, .int l0), (1, .int l1)] [] ω n r
  refine g_bipush (v := 41) dX11_oneAt_0 (by decide) ?_
  refine g_iconst (v := 4) dX11_oneAt_2 (by decide) ?_
  refine g_iload_n dX11_oneAt_3 rfl 0 rfl ?_
  refine g_imul dX11_oneAt_4 ?_
  refine g_iadd dX11_oneAt_5 ?_
  refine g_iload_n dX11_oneAt_6 rfl 1 rfl ?_
  refine g_iadd dX11_oneAt_7 ?_
  cases h
  exact g_iret rfl dX11_oneAt_8 rfl
def F_X11_of (Θ : GP) (l0 : Nat) (l1 : Int32) (l2 : Int32) (ω : OW) (n : Nat) : RO := rA ω l0 11 1 (fun a1 => kI (F_X11_oneAt Θ l1 l2 ω n) (fun x2 ω n => lI ω (gI Θ) a1 x2 (fun x3 => some (.inl (some (.int x3), ω, n)))))
theorem ok_X11_of (Θ : GP) (l0 : Nat) (l1 : Int32) (l2 : Int32) (ω : OW) (n : Nat) : Ok Θ 2 0 0 yX11_of cX11_of 3 (some .int) [.ref l0, .int l1, .int l2] ω n (F_X11_of Θ l0 l1 l2 ω n) := by
  refine Ok.of (by decide +kernel) (Nat.le_of_ble_eq_true rfl) (fun r h => ?_)
  unfold F_X11_of at h
  show GR Θ yX11_of cX11_of 3 (some .int) 2 (0, 0) 0 [(0, .ref l0), (1, .int l1), (2, .int l2)] [] ω n r
  refine g_aload_n dX11_of_0 rfl 0 rfl ?_
  refine g_rA fl_X11_13 dX11_of_1 h (fun a1 h => ?_)
  refine g_iload_n dX11_of_4 rfl 1 rfl ?_
  refine g_iload_n dX11_of_5 rfl 2 rfl ?_
  refine g_sI (As := [.int l1, .int l2]) ms_X11_77 dX11_of_6 (ok_X11_oneAt Θ l1 l2 _ _) rfl rfl (Nat.le_of_ble_eq_true rfl) (by decide) (by decide) (by decide) h (fun x2 ω n h => ?_)
  refine G.less (B' := (0, 0)) (by decide) (by decide) ?_
  refine g_lIi dX11_of_9 h (fun x3 h => ?_)
  cases h
  exact g_iret rfl dX11_of_10 rfl
def J_X11_waits_14 (Θ : GP) (s0 : Int32) (ω : OW) (n : Nat) : RO := bz s0 (some (.inl (some (.int s0), ω, n)))
def F_X11_waits (Θ : GP) (l0 : Nat) (l1 : Int32) (ω : OW) (n : Nat) : RO := cO ω l0 11 (kI (F_X11_of Θ l0 l1 3 ω n) (fun x2 ω n => if x2 = 0 then (J_X11_waits_14 Θ 1 ω n) else (J_X11_waits_14 Θ 0 ω n)))
theorem ok_J_X11_waits_14 (Θ : GP) (s0 : Int32) (ω : OW) (n : Nat) (r : Out) (h : J_X11_waits_14 Θ s0 ω n = some r) : GR Θ yX11_waits cX11_waits 2 (some .boolean) 3 (0, 0) 14 [] [.int s0] ω n r := by
  unfold J_X11_waits_14 at h
  obtain ⟨z1, h⟩ := bz_inv h
  cases h
  exact g_zret rfl z1 dX11_waits_14 rfl
theorem ok_X11_waits (Θ : GP) (l0 : Nat) (l1 : Int32) (ω : OW) (n : Nat) : Ok Θ 3 0 0 yX11_waits cX11_waits 2 (some .boolean) [.ref l0, .int l1] ω n (F_X11_waits Θ l0 l1 ω n) := by
  refine Ok.of (by decide +kernel) (Nat.le_of_ble_eq_true rfl) (fun r h => ?_)
  unfold F_X11_waits at h
  show GR Θ yX11_waits cX11_waits 2 (some .boolean) 3 (0, 0) 0 [(0, .ref l0), (1, .int l1)] [] ω n r
  refine g_aload_n dX11_waits_0 rfl 0 rfl ?_
  refine g_iload_n dX11_waits_1 rfl 1 rfl ?_
  refine g_iconst (v := 3) dX11_waits_2 (by decide) ?_
  refine g_cI (ci := 11) (As := [.int l1, .int 3]) mv_X11_80 dX11_waits_3 rfl (ok_X11_of Θ l0 l1 3 _ _) rfl rfl (Nat.le_of_ble_eq_true rfl) (by decide) (by decide) (by decide) h (fun x2 ω n h => ?_)
  refine G.less (B' := (0, 0)) (by decide) (by decide) ?_
  refine g_if_ne (tgt := 13) dX11_waits_6 (by decide) (fun c3 => ?_) (fun c3 => ?_)
  · rw [if_neg c3] at h
    refine g_iconst (v := 0) dX11_waits_13 (by decide) ?_
    refine G.lsub [] rfl ?_
    exact ok_J_X11_waits_14 Θ 0 _ _ r h
  · rw [if_pos c3] at h
    refine g_iconst (v := 1) dX11_waits_9 (by decide) ?_
    refine g_goto (tgt := 14) dX11_waits_10 (by decide) ?_
    refine G.lsub [] rfl ?_
    exact ok_J_X11_waits_14 Θ 1 _ _ r h
def J_X11_isInnocent_14 (Θ : GP) (s0 : Int32) (ω : OW) (n : Nat) : RO := bz s0 (some (.inl (some (.int s0), ω, n)))
def F_X11_isInnocent (Θ : GP) (l0 : Nat) (l1 : Int32) (ω : OW) (n : Nat) : RO := cO ω l0 11 (kI (F_X11_of Θ l0 l1 0 ω n) (fun x2 ω n => if x2 = 0 then (J_X11_isInnocent_14 Θ 1 ω n) else (J_X11_isInnocent_14 Θ 0 ω n)))
theorem ok_J_X11_isInnocent_14 (Θ : GP) (s0 : Int32) (ω : OW) (n : Nat) (r : Out) (h : J_X11_isInnocent_14 Θ s0 ω n = some r) : GR Θ yX11_isInnocent cX11_isInnocent 2 (some .boolean) 3 (0, 0) 14 [] [.int s0] ω n r := by
  unfold J_X11_isInnocent_14 at h
  obtain ⟨z1, h⟩ := bz_inv h
  cases h
  exact g_zret rfl z1 dX11_isInnocent_14 rfl
theorem ok_X11_isInnocent (Θ : GP) (l0 : Nat) (l1 : Int32) (ω : OW) (n : Nat) : Ok Θ 3 0 0 yX11_isInnocent cX11_isInnocent 2 (some .boolean) [.ref l0, .int l1] ω n (F_X11_isInnocent Θ l0 l1 ω n) := by
  refine Ok.of (by decide +kernel) (Nat.le_of_ble_eq_true rfl) (fun r h => ?_)
  unfold F_X11_isInnocent at h
  show GR Θ yX11_isInnocent cX11_isInnocent 2 (some .boolean) 3 (0, 0) 0 [(0, .ref l0), (1, .int l1)] [] ω n r
  refine g_aload_n dX11_isInnocent_0 rfl 0 rfl ?_
  refine g_iload_n dX11_isInnocent_1 rfl 1 rfl ?_
  refine g_iconst (v := 0) dX11_isInnocent_2 (by decide) ?_
  refine g_cI (ci := 11) (As := [.int l1, .int 0]) mv_X11_80 dX11_isInnocent_3 rfl (ok_X11_of Θ l0 l1 0 _ _) rfl rfl (Nat.le_of_ble_eq_true rfl) (by decide) (by decide) (by decide) h (fun x2 ω n h => ?_)
  refine G.less (B' := (0, 0)) (by decide) (by decide) ?_
  refine g_if_ne (tgt := 13) dX11_isInnocent_6 (by decide) (fun c3 => ?_) (fun c3 => ?_)
  · rw [if_neg c3] at h
    refine g_iconst (v := 0) dX11_isInnocent_13 (by decide) ?_
    refine G.lsub [] rfl ?_
    exact ok_J_X11_isInnocent_14 Θ 0 _ _ r h
  · rw [if_pos c3] at h
    refine g_iconst (v := 1) dX11_isInnocent_9 (by decide) ?_
    refine g_goto (tgt := 14) dX11_isInnocent_10 (by decide) ?_
    refine G.lsub [] rfl ?_
    exact ok_J_X11_isInnocent_14 Θ 1 _ _ r h
def J_X11_noProp_19 (Θ : GP) (s0 : Int32) (ω : OW) (n : Nat) : RO := bz s0 (some (.inl (some (.int s0), ω, n)))
def F_X11_noProp (Θ : GP) (l0 : Nat) (l1 : Int32) (ω : OW) (n : Nat) : RO := cO ω l0 11 (kI (F_X11_props Θ l0 ω n) (fun x2 ω n => kI (F_X11_in Θ l1 0 (x2 - 1) ω n) (fun x3 ω n => if x3 = 0 then (J_X11_noProp_19 Θ 1 ω n) else (J_X11_noProp_19 Θ 0 ω n))))
theorem ok_J_X11_noProp_19 (Θ : GP) (s0 : Int32) (ω : OW) (n : Nat) (r : Out) (h : J_X11_noProp_19 Θ s0 ω n = some r) : GR Θ yX11_noProp cX11_noProp 2 (some .boolean) 2 (0, 0) 19 [] [.int s0] ω n r := by
  unfold J_X11_noProp_19 at h
  obtain ⟨z1, h⟩ := bz_inv h
  cases h
  exact g_zret rfl z1 dX11_noProp_19 rfl
theorem ok_X11_noProp (Θ : GP) (l0 : Nat) (l1 : Int32) (ω : OW) (n : Nat) : Ok Θ 2 0 0 yX11_noProp cX11_noProp 2 (some .boolean) [.ref l0, .int l1] ω n (F_X11_noProp Θ l0 l1 ω n) := by
  refine Ok.of (by decide +kernel) (Nat.le_of_ble_eq_true rfl) (fun r h => ?_)
  unfold F_X11_noProp at h
  show GR Θ yX11_noProp cX11_noProp 2 (some .boolean) 2 (0, 0) 0 [(0, .ref l0), (1, .int l1)] [] ω n r
  refine g_iload_n dX11_noProp_0 rfl 1 rfl ?_
  refine g_iconst (v := 0) dX11_noProp_1 (by decide) ?_
  refine g_aload_n dX11_noProp_2 rfl 0 rfl ?_
  refine g_cI (ci := 11) (As := []) mv_X11_83 dX11_noProp_3 rfl (ok_X11_props Θ l0 _ _) rfl rfl (Nat.le_of_ble_eq_true rfl) (by decide) (by decide) (by decide) h (fun x2 ω n h => ?_)
  refine G.less (B' := (0, 0)) (by decide) (by decide) ?_
  refine g_iconst (v := 1) dX11_noProp_6 (by decide) ?_
  refine g_isub dX11_noProp_7 ?_
  refine g_sI (As := [.int l1, .int 0, .int (x2 - 1)]) ms_X11_87 dX11_noProp_8 (ok_X11_in Θ l1 0 (x2 - 1) _ _) rfl rfl (Nat.le_of_ble_eq_true rfl) (by decide) (by decide) (by decide) h (fun x3 ω n h => ?_)
  refine G.less (B' := (0, 0)) (by decide) (by decide) ?_
  refine g_if_ne (tgt := 18) dX11_noProp_11 (by decide) (fun c4 => ?_) (fun c4 => ?_)
  · rw [if_neg c4] at h
    refine g_iconst (v := 0) dX11_noProp_18 (by decide) ?_
    refine G.lsub [] rfl ?_
    exact ok_J_X11_noProp_19 Θ 0 _ _ r h
  · rw [if_pos c4] at h
    refine g_iconst (v := 1) dX11_noProp_14 (by decide) ?_
    refine g_goto (tgt := 19) dX11_noProp_15 (by decide) ?_
    refine G.lsub [] rfl ?_
    exact ok_J_X11_noProp_19 Θ 1 _ _ r h
def J_X11_noOne_19 (Θ : GP) (s0 : Int32) (ω : OW) (n : Nat) : RO := bz s0 (some (.inl (some (.int s0), ω, n)))
def F_X11_noOne (Θ : GP) (l0 : Nat) (l1 : Int32) (ω : OW) (n : Nat) : RO := cO ω l0 11 (kI (F_X11_oneCount Θ l0 ω n) (fun x2 ω n => kI (F_X11_in Θ l1 0 (x2 - 1) ω n) (fun x3 ω n => if x3 = 0 then (J_X11_noOne_19 Θ 1 ω n) else (J_X11_noOne_19 Θ 0 ω n))))
theorem ok_J_X11_noOne_19 (Θ : GP) (s0 : Int32) (ω : OW) (n : Nat) (r : Out) (h : J_X11_noOne_19 Θ s0 ω n = some r) : GR Θ yX11_noOne cX11_noOne 2 (some .boolean) 2 (0, 0) 19 [] [.int s0] ω n r := by
  unfold J_X11_noOne_19 at h
  obtain ⟨z1, h⟩ := bz_inv h
  cases h
  exact g_zret rfl z1 dX11_noOne_19 rfl
theorem ok_X11_noOne (Θ : GP) (l0 : Nat) (l1 : Int32) (ω : OW) (n : Nat) : Ok Θ 2 0 0 yX11_noOne cX11_noOne 2 (some .boolean) [.ref l0, .int l1] ω n (F_X11_noOne Θ l0 l1 ω n) := by
  refine Ok.of (by decide +kernel) (Nat.le_of_ble_eq_true rfl) (fun r h => ?_)
  unfold F_X11_noOne at h
  show GR Θ yX11_noOne cX11_noOne 2 (some .boolean) 2 (0, 0) 0 [(0, .ref l0), (1, .int l1)] [] ω n r
  refine g_iload_n dX11_noOne_0 rfl 1 rfl ?_
  refine g_iconst (v := 0) dX11_noOne_1 (by decide) ?_
  refine g_aload_n dX11_noOne_2 rfl 0 rfl ?_
  refine g_cI (ci := 11) (As := []) mv_X11_91 dX11_noOne_3 rfl (ok_X11_oneCount Θ l0 _ _) rfl rfl (Nat.le_of_ble_eq_true rfl) (by decide) (by decide) (by decide) h (fun x2 ω n h => ?_)
  refine G.less (B' := (0, 0)) (by decide) (by decide) ?_
  refine g_iconst (v := 1) dX11_noOne_6 (by decide) ?_
  refine g_isub dX11_noOne_7 ?_
  refine g_sI (As := [.int l1, .int 0, .int (x2 - 1)]) ms_X11_87 dX11_noOne_8 (ok_X11_in Θ l1 0 (x2 - 1) _ _) rfl rfl (Nat.le_of_ble_eq_true rfl) (by decide) (by decide) (by decide) h (fun x3 ω n h => ?_)
  refine G.less (B' := (0, 0)) (by decide) (by decide) ?_
  refine g_if_ne (tgt := 18) dX11_noOne_11 (by decide) (fun c4 => ?_) (fun c4 => ?_)
  · rw [if_neg c4] at h
    refine g_iconst (v := 0) dX11_noOne_18 (by decide) ?_
    refine G.lsub [] rfl ?_
    exact ok_J_X11_noOne_19 Θ 0 _ _ r h
  · rw [if_pos c4] at h
    refine g_iconst (v := 1) dX11_noOne_14 (by decide) ?_
    refine g_goto (tgt := 19) dX11_noOne_15 (by decide) ?_
    refine G.lsub [] rfl ?_
    exact ok_J_X11_noOne_19 Θ 1 _ _ r h
def J_X11_noSlot_15 (Θ : GP) (s0 : Int32) (ω : OW) (n : Nat) : RO := bz s0 (some (.inl (some (.int s0), ω, n)))
def F_X11_noSlot (Θ : GP) (l0 : Int32) (ω : OW) (n : Nat) : RO := kI (F_X11_in Θ l0 0 9 ω n) (fun x2 ω n => if x2 = 0 then (J_X11_noSlot_15 Θ 1 ω n) else (J_X11_noSlot_15 Θ 0 ω n))
theorem ok_J_X11_noSlot_15 (Θ : GP) (s0 : Int32) (ω : OW) (n : Nat) (r : Out) (h : J_X11_noSlot_15 Θ s0 ω n = some r) : GR Θ yX11_noSlot cX11_noSlot 1 (some .boolean) 2 (0, 0) 15 [] [.int s0] ω n r := by
  unfold J_X11_noSlot_15 at h
  obtain ⟨z1, h⟩ := bz_inv h
  cases h
  exact g_zret rfl z1 dX11_noSlot_15 rfl
theorem ok_X11_noSlot (Θ : GP) (l0 : Int32) (ω : OW) (n : Nat) : Ok Θ 2 0 0 yX11_noSlot cX11_noSlot 1 (some .boolean) [.int l0] ω n (F_X11_noSlot Θ l0 ω n) := by
  refine Ok.of (by decide +kernel) (Nat.le_of_ble_eq_true rfl) (fun r h => ?_)
  unfold F_X11_noSlot at h
  show GR Θ yX11_noSlot cX11_noSlot 1 (some .boolean) 2 (0, 0) 0 [(0, .int l0)] [] ω n r
  refine g_iload_n dX11_noSlot_0 rfl 0 rfl ?_
  refine g_iconst (v := 0) dX11_noSlot_1 (by decide) ?_
  refine g_bipush (v := 9) dX11_noSlot_2 (by decide) ?_
  refine g_sI (As := [.int l0, .int 0, .int 9]) ms_X11_87 dX11_noSlot_4 (ok_X11_in Θ l0 0 9 _ _) rfl rfl (Nat.le_of_ble_eq_true rfl) (by decide) (by decide) (by decide) h (fun x2 ω n h => ?_)
  refine G.less (B' := (0, 0)) (by decide) (by decide) ?_
  refine g_if_ne (tgt := 14) dX11_noSlot_7 (by decide) (fun c3 => ?_) (fun c3 => ?_)
  · rw [if_neg c3] at h
    refine g_iconst (v := 0) dX11_noSlot_14 (by decide) ?_
    refine G.lsub [] rfl ?_
    exact ok_J_X11_noSlot_15 Θ 0 _ _ r h
  · rw [if_pos c3] at h
    refine g_iconst (v := 1) dX11_noSlot_10 (by decide) ?_
    refine g_goto (tgt := 15) dX11_noSlot_11 (by decide) ?_
    refine G.lsub [] rfl ?_
    exact ok_J_X11_noSlot_15 Θ 1 _ _ r h
def B_X11_propIn_2 (Θ : GP) (k_2 : Nat → Int32 → Int32 → OW → Nat → RO) (l0 : Nat) (l1 : Int32) (l2 : Int32) (ω : OW) (n : Nat) : RO := cO ω l0 11 (kI (F_X11_props Θ l0 ω n) (fun x1 ω n => if x1 ≤ l2 then (some (.inl (some (.int (-1)), ω, n))) else (cO ω l0 11 (kI (F_X11_ofProp Θ l0 l2 3 ω n) (fun x3 ω n => if x3 = l1 then (some (.inl (some (.int l2), ω, n))) else (k_2 l0 l1 (l2 + 1) ω n))))))
def L_X11_propIn_2 (Θ : GP) : Nat → Nat → Int32 → Int32 → OW → Nat → RO
  | 0, _, _, _, _, _ => none
  | f + 1, l0, l1, l2, ω, n => B_X11_propIn_2 Θ (L_X11_propIn_2 Θ f) l0 l1 l2 ω n
def F_X11_propIn (Θ : GP) (l0 : Nat) (l1 : Int32) (ω : OW) (n : Nat) : RO := L_X11_propIn_2 Θ 5000 l0 l1 0 ω n
theorem ok_B_X11_propIn_2 (Θ : GP) (k_2 : Nat → Int32 → Int32 → OW → Nat → RO) (hk_2 : ∀ l0 l1 l2 ω n r, k_2 l0 l1 l2 ω n = some r → GR Θ yX11_propIn cX11_propIn 3 (some .int) 3 (0, 0) 2 [(0, .ref l0), (1, .int l1), (2, .int l2)] [] ω n r) (l0 : Nat) (l1 : Int32) (l2 : Int32) (ω : OW) (n : Nat) (r : Out) (h : B_X11_propIn_2 Θ k_2 l0 l1 l2 ω n = some r) : GR Θ yX11_propIn cX11_propIn 3 (some .int) 3 (0, 0) 2 [(0, .ref l0), (1, .int l1), (2, .int l2)] [] ω n r := by
  unfold B_X11_propIn_2 at h
  refine g_iload_n dX11_propIn_2 rfl 2 rfl ?_
  refine g_aload_n dX11_propIn_3 rfl 0 rfl ?_
  refine g_cI (ci := 11) (As := []) mv_X11_83 dX11_propIn_4 rfl (ok_X11_props Θ l0 _ _) rfl rfl (Nat.le_of_ble_eq_true rfl) (by decide) (by decide) (by decide) h (fun x1 ω n h => ?_)
  refine G.less (B' := (0, 0)) (by decide) (by decide) ?_
  refine g_icmp_ge (tgt := 28) dX11_propIn_7 (by decide) (fun c2 => ?_) (fun c2 => ?_)
  · rw [if_pos c2] at h
    refine g_iconst (v := (-1)) dX11_propIn_28 (by decide) ?_
    cases h
    exact g_iret rfl dX11_propIn_29 rfl
  · rw [if_neg c2] at h
    refine g_aload_n dX11_propIn_10 rfl 0 rfl ?_
    refine g_iload_n dX11_propIn_11 rfl 2 rfl ?_
    refine g_iconst (v := 3) dX11_propIn_12 (by decide) ?_
    refine g_cI (ci := 11) (As := [.int l2, .int 3]) mv_X11_74 dX11_propIn_13 rfl (ok_X11_ofProp Θ l0 l2 3 _ _) rfl rfl (Nat.le_of_ble_eq_true rfl) (by decide) (by decide) (by decide) h (fun x3 ω n h => ?_)
    refine G.less (B' := (0, 0)) (by decide) (by decide) ?_
    refine g_iload_n dX11_propIn_16 rfl 1 rfl ?_
    refine g_icmp_ne (tgt := 22) dX11_propIn_17 (by decide) (fun c4 => ?_) (fun c4 => ?_)
    · rw [if_neg c4] at h
      refine g_iinc (j := 2) (v := l2 + 1) (lv' := [(2, .int (l2 + 1)), (0, .ref l0), (1, .int l1)]) dX11_propIn_22 rfl rfl (by decide) rfl ?_
      refine g_goto (tgt := 2) dX11_propIn_25 (by decide) ?_
      refine G.lsub [1, 2, 0] rfl ?_
      exact hk_2 l0 l1 (l2 + 1) _ _ r h
    · rw [if_pos c4] at h
      refine g_iload_n dX11_propIn_20 rfl 2 rfl ?_
      cases h
      exact g_iret rfl dX11_propIn_21 rfl
theorem ok_L_X11_propIn_2 (Θ : GP) : ∀ (f : Nat) (l0 : Nat) (l1 : Int32) (l2 : Int32) (ω : OW) (n : Nat) (r : Out), L_X11_propIn_2 Θ f l0 l1 l2 ω n = some r → GR Θ yX11_propIn cX11_propIn 3 (some .int) 3 (0, 0) 2 [(0, .ref l0), (1, .int l1), (2, .int l2)] [] ω n r := by
  intro f
  induction f with
  | zero =>
    intro l0 l1 l2 ω n r h
    unfold L_X11_propIn_2 at h
    cases h
  | succ f ih =>
    intro l0 l1 l2 ω n r h
    unfold L_X11_propIn_2 at h
    exact ok_B_X11_propIn_2 Θ (L_X11_propIn_2 Θ f) ih l0 l1 l2 ω n r h
theorem ok_X11_propIn (Θ : GP) (l0 : Nat) (l1 : Int32) (ω : OW) (n : Nat) : Ok Θ 3 0 0 yX11_propIn cX11_propIn 3 (some .int) [.ref l0, .int l1] ω n (F_X11_propIn Θ l0 l1 ω n) := by
  refine Ok.of (by decide +kernel) (Nat.le_of_ble_eq_true rfl) (fun r h => ?_)
  unfold F_X11_propIn at h
  show GR Θ yX11_propIn cX11_propIn 3 (some .int) 3 (0, 0) 0 [(0, .ref l0), (1, .int l1)] [] ω n r
  refine g_iconst (v := 0) dX11_propIn_0 (by decide) ?_
  refine g_istore_n (lv' := [(2, .int 0), (0, .ref l0), (1, .int l1)]) dX11_propIn_1 rfl (by decide) rfl ?_
  refine G.lsub [1, 2, 0] rfl ?_
  exact ok_L_X11_propIn_2 Θ 5000 l0 l1 0 _ _ r h
def J_X11_nailedOnes_28 (Θ : GP) (k_4 : Nat → Int32 → Int32 → OW → Nat → RO) (l0 : Nat) (l2 : Int32) (s0 : Int32) (s1 : Int32) (ω : OW) (n : Nat) : RO := k_4 l0 (s1 ||| s0) (l2 + 1) ω n
def B_X11_nailedOnes_4 (Θ : GP) (k_4 : Nat → Int32 → Int32 → OW → Nat → RO) (l0 : Nat) (l1 : Int32) (l2 : Int32) (ω : OW) (n : Nat) : RO := cO ω l0 11 (kI (F_X11_props Θ l0 ω n) (fun x1 ω n => if x1 ≤ l2 then (some (.inl (some (.int l1), ω, n))) else (cO ω l0 11 (kI (F_X11_isNailed Θ l0 l2 ω n) (fun x3 ω n => if x3 = 0 then (J_X11_nailedOnes_28 Θ k_4 l0 l2 0 l1 ω n) else (J_X11_nailedOnes_28 Θ k_4 l0 l2 (1 <<< ((l2 : Int32) &&& 31)) l1 ω n))))))
def L_X11_nailedOnes_4 (Θ : GP) : Nat → Nat → Int32 → Int32 → OW → Nat → RO
  | 0, _, _, _, _, _ => none
  | f + 1, l0, l1, l2, ω, n => B_X11_nailedOnes_4 Θ (L_X11_nailedOnes_4 Θ f) l0 l1 l2 ω n
def F_X11_nailedOnes (Θ : GP) (l0 : Nat) (ω : OW) (n : Nat) : RO := L_X11_nailedOnes_4 Θ 5000 l0 0 0 ω n
theorem ok_J_X11_nailedOnes_28 (Θ : GP) (k_4 : Nat → Int32 → Int32 → OW → Nat → RO) (hk_4 : ∀ l0 l1 l2 ω n r, k_4 l0 l1 l2 ω n = some r → GR Θ yX11_nailedOnes cX11_nailedOnes 3 (some .int) 4 (0, 0) 4 [(0, .ref l0), (1, .int l1), (2, .int l2)] [] ω n r) (l0 : Nat) (l2 : Int32) (s0 : Int32) (s1 : Int32) (ω : OW) (n : Nat) (r : Out) (h : J_X11_nailedOnes_28 Θ k_4 l0 l2 s0 s1 ω n = some r) : GR Θ yX11_nailedOnes cX11_nailedOnes 3 (some .int) 4 (0, 0) 28 [(0, .ref l0), (2, .int l2)] [.int s0, .int s1] ω n r := by
  unfold J_X11_nailedOnes_28 at h
  refine g_ior dX11_nailedOnes_28 ?_
  refine g_istore_n (lv' := [(1, .int (s1 ||| s0)), (0, .ref l0), (2, .int l2)]) dX11_nailedOnes_29 rfl (by decide) rfl ?_
  refine g_iinc (j := 2) (v := l2 + 1) (lv' := [(2, .int (l2 + 1)), (1, .int (s1 ||| s0)), (0, .ref l0)]) dX11_nailedOnes_30 rfl rfl (by decide) rfl ?_
  refine g_goto (tgt := 4) dX11_nailedOnes_33 (by decide) ?_
  refine G.lsub [2, 1, 0] rfl ?_
  exact hk_4 l0 (s1 ||| s0) (l2 + 1) _ _ r h
theorem ok_B_X11_nailedOnes_4 (Θ : GP) (k_4 : Nat → Int32 → Int32 → OW → Nat → RO) (hk_4 : ∀ l0 l1 l2 ω n r, k_4 l0 l1 l2 ω n = some r → GR Θ yX11_nailedOnes cX11_nailedOnes 3 (some .int) 4 (0, 0) 4 [(0, .ref l0), (1, .int l1), (2, .int l2)] [] ω n r) (l0 : Nat) (l1 : Int32) (l2 : Int32) (ω : OW) (n : Nat) (r : Out) (h : B_X11_nailedOnes_4 Θ k_4 l0 l1 l2 ω n = some r) : GR Θ yX11_nailedOnes cX11_nailedOnes 3 (some .int) 4 (0, 0) 4 [(0, .ref l0), (1, .int l1), (2, .int l2)] [] ω n r := by
  unfold B_X11_nailedOnes_4 at h
  refine g_iload_n dX11_nailedOnes_4 rfl 2 rfl ?_
  refine g_aload_n dX11_nailedOnes_5 rfl 0 rfl ?_
  refine g_cI (ci := 11) (As := []) mv_X11_83 dX11_nailedOnes_6 rfl (ok_X11_props Θ l0 _ _) rfl rfl (Nat.le_of_ble_eq_true rfl) (by decide) (by decide) (by decide) h (fun x1 ω n h => ?_)
  refine G.less (B' := (0, 0)) (by decide) (by decide) ?_
  refine g_icmp_ge (tgt := 36) dX11_nailedOnes_9 (by decide) (fun c2 => ?_) (fun c2 => ?_)
  · rw [if_pos c2] at h
    refine g_iload_n dX11_nailedOnes_36 rfl 1 rfl ?_
    cases h
    exact g_iret rfl dX11_nailedOnes_37 rfl
  · rw [if_neg c2] at h
    refine g_iload_n dX11_nailedOnes_12 rfl 1 rfl ?_
    refine g_aload_n dX11_nailedOnes_13 rfl 0 rfl ?_
    refine g_iload_n dX11_nailedOnes_14 rfl 2 rfl ?_
    refine g_cI (ci := 11) (As := [.int l2]) mv_X11_94 dX11_nailedOnes_15 rfl (ok_X11_isNailed Θ l0 l2 _ _) rfl rfl (Nat.le_of_ble_eq_true rfl) (by decide) (by decide) (by decide) h (fun x3 ω n h => ?_)
    refine G.less (B' := (0, 0)) (by decide) (by decide) ?_
    refine g_if_eq (tgt := 27) dX11_nailedOnes_18 (by decide) (fun c4 => ?_) (fun c4 => ?_)
    · rw [if_pos c4] at h
      refine g_iconst (v := 0) dX11_nailedOnes_27 (by decide) ?_
      refine G.lsub [0, 2] rfl ?_
      exact ok_J_X11_nailedOnes_28 Θ k_4 hk_4 l0 l2 0 l1 _ _ r h
    · rw [if_neg c4] at h
      refine g_iconst (v := 1) dX11_nailedOnes_21 (by decide) ?_
      refine g_iload_n dX11_nailedOnes_22 rfl 2 rfl ?_
      refine g_ishl dX11_nailedOnes_23 ?_
      refine g_goto (tgt := 28) dX11_nailedOnes_24 (by decide) ?_
      refine G.lsub [0, 2] rfl ?_
      exact ok_J_X11_nailedOnes_28 Θ k_4 hk_4 l0 l2 (1 <<< ((l2 : Int32) &&& 31)) l1 _ _ r h
theorem ok_L_X11_nailedOnes_4 (Θ : GP) : ∀ (f : Nat) (l0 : Nat) (l1 : Int32) (l2 : Int32) (ω : OW) (n : Nat) (r : Out), L_X11_nailedOnes_4 Θ f l0 l1 l2 ω n = some r → GR Θ yX11_nailedOnes cX11_nailedOnes 3 (some .int) 4 (0, 0) 4 [(0, .ref l0), (1, .int l1), (2, .int l2)] [] ω n r := by
  intro f
  induction f with
  | zero =>
    intro l0 l1 l2 ω n r h
    unfold L_X11_nailedOnes_4 at h
    cases h
  | succ f ih =>
    intro l0 l1 l2 ω n r h
    unfold L_X11_nailedOnes_4 at h
    exact ok_B_X11_nailedOnes_4 Θ (L_X11_nailedOnes_4 Θ f) ih l0 l1 l2 ω n r h
theorem ok_X11_nailedOnes (Θ : GP) (l0 : Nat) (ω : OW) (n : Nat) : Ok Θ 4 0 0 yX11_nailedOnes cX11_nailedOnes 3 (some .int) [.ref l0] ω n (F_X11_nailedOnes Θ l0 ω n) := by
  refine Ok.of (by decide +kernel) (Nat.le_of_ble_eq_true rfl) (fun r h => ?_)
  unfold F_X11_nailedOnes at h
  show GR Θ yX11_nailedOnes cX11_nailedOnes 3 (some .int) 4 (0, 0) 0 [(0, .ref l0)] [] ω n r
  refine g_iconst (v := 0) dX11_nailedOnes_0 (by decide) ?_
  refine g_istore_n (lv' := [(1, .int 0), (0, .ref l0)]) dX11_nailedOnes_1 rfl (by decide) rfl ?_
  refine g_iconst (v := 0) dX11_nailedOnes_2 (by decide) ?_
  refine g_istore_n (lv' := [(2, .int 0), (1, .int 0), (0, .ref l0)]) dX11_nailedOnes_3 rfl (by decide) rfl ?_
  refine G.lsub [2, 1, 0] rfl ?_
  exact ok_L_X11_nailedOnes_4 Θ 5000 l0 0 0 _ _ r h
def F_X11_drawn (Θ : GP) (l0 : Nat) (l1 : Int32) (ω : OW) (n : Nat) : RO := rA ω l0 11 1 (fun a1 => rA ω l0 11 1 (fun a2 => lI ω (gI Θ) a2 8 (fun x3 => sI ω (gI Θ) a1 8 ((1103515245 * x3) + 12345) (fun ω => rA ω l0 11 1 (fun a4 => lI ω (gI Θ) a4 8 (fun x5 => nz l1 (some (.inl (some (.int (((x5 >>> ((16 : Int32) &&& 31)) &&& 32767) - ((x5 >>> ((16 : Int32) &&& 31)) &&& 32767) / l1 * l1)), ω, n)))))))))
theorem ok_X11_drawn (Θ : GP) (l0 : Nat) (l1 : Int32) (ω : OW) (n : Nat) : Ok Θ 1 0 0 yX11_drawn cX11_drawn 2 (some .int) [.ref l0, .int l1] ω n (F_X11_drawn Θ l0 l1 ω n) := by
  refine Ok.of (by decide +kernel) (Nat.le_of_ble_eq_true rfl) (fun r h => ?_)
  unfold F_X11_drawn at h
  show GR Θ yX11_drawn cX11_drawn 2 (some .int) 1 (0, 0) 0 [(0, .ref l0), (1, .int l1)] [] ω n r
  refine g_aload_n dX11_drawn_0 rfl 0 rfl ?_
  refine g_rA fl_X11_13 dX11_drawn_1 h (fun a1 h => ?_)
  refine g_bipush (v := 8) dX11_drawn_4 (by decide) ?_
  refine g_ldc (v := 1103515245) wd_1854 dX11_drawn_6 ?_
  refine g_aload_n dX11_drawn_8 rfl 0 rfl ?_
  refine g_rA fl_X11_13 dX11_drawn_9 h (fun a2 h => ?_)
  refine g_bipush (v := 8) dX11_drawn_12 (by decide) ?_
  refine g_lIi dX11_drawn_14 h (fun x3 h => ?_)
  refine g_imul dX11_drawn_15 ?_
  refine g_sipush (v := 12345) dX11_drawn_16 (by decide) ?_
  refine g_iadd dX11_drawn_19 ?_
  refine g_sIi dX11_drawn_20 h (fun ω h => ?_)
  refine g_aload_n dX11_drawn_21 rfl 0 rfl ?_
  refine g_rA fl_X11_13 dX11_drawn_22 h (fun a4 h => ?_)
  refine g_bipush (v := 8) dX11_drawn_25 (by decide) ?_
  refine g_lIi dX11_drawn_27 h (fun x5 h => ?_)
  refine g_bipush (v := 16) dX11_drawn_28 (by decide) ?_
  refine g_ishr dX11_drawn_30 ?_
  refine g_sipush (v := 32767) dX11_drawn_31 (by decide) ?_
  refine g_iand dX11_drawn_34 ?_
  refine g_iload_n dX11_drawn_35 rfl 1 rfl ?_
  obtain ⟨z6, h⟩ := nz_inv h
  refine g_irem dX11_drawn_36 z6 ?_
  cases h
  exact g_iret rfl dX11_drawn_37 rfl
def B_X11_feed_60 (Θ : GP) (k_60 : Nat → Int32 → OW → Nat → RO) (l0 : Nat) (l6 : Int32) (ω : OW) (n : Nat) : RO := if 20 ≤ l6 then (rI ω l0 11 9 (fun x2 => wF ω l0 11 9 (.int (x2 + 20)) (fun ω => rI ω l0 11 9 (fun x3 => some (.inl (some (.int x3), ω, n)))))) else (rA ω l0 11 8 (fun a4 => rI ω l0 11 9 (fun x5 => rA ω l0 11 15 (fun a6 => lI ω (gI Θ) a6 (l6 / 4) (fun x7 => sI ω (gB Θ) a4 (x5 + l6) (vp_nar .byte ((x7 >>> (((24 - (8 * (l6 - l6 / 4 * 4))) : Int32) &&& 31) : Int32).toInt8.toInt32)) (fun ω => k_60 l0 (l6 + 1) ω n))))))
def L_X11_feed_60 (Θ : GP) : Nat → Nat → Int32 → OW → Nat → RO
  | 0, _, _, _, _ => none
  | f + 1, l0, l6, ω, n => B_X11_feed_60 Θ (L_X11_feed_60 Θ f) l0 l6 ω n
def F_X11_feed (Θ : GP) (l0 : Nat) (l1 : Int32) (l2 : Int32) (l3 : Int32) (l4 : Int32) (l5 : Int32) (ω : OW) (n : Nat) : RO := wF ω l0 11 0 (.int 0) (fun ω => rI ω l0 11 9 (fun x8 => if (x8 + 20) ≤ 400 then (rA ω l0 11 15 (fun a10 => sI ω (gI Θ) a10 0 l1 (fun ω => rA ω l0 11 15 (fun a11 => sI ω (gI Θ) a11 1 l2 (fun ω => rA ω l0 11 15 (fun a12 => sI ω (gI Θ) a12 2 l3 (fun ω => rA ω l0 11 15 (fun a13 => sI ω (gI Θ) a13 3 l4 (fun ω => rA ω l0 11 15 (fun a14 => sI ω (gI Θ) a14 4 l5 (fun ω => L_X11_feed_60 Θ 5000 l0 0 ω n))))))))))) else (some (.inl (some (.int (-1)), ω, n)))))
theorem ok_B_X11_feed_60 (Θ : GP) (k_60 : Nat → Int32 → OW → Nat → RO) (hk_60 : ∀ l0 l6 ω n r, k_60 l0 l6 ω n = some r → GR Θ yX11_feed cX11_feed 7 (some .int) 1 (0, 0) 60 [(0, .ref l0), (6, .int l6)] [] ω n r) (l0 : Nat) (l6 : Int32) (ω : OW) (n : Nat) (r : Out) (h : B_X11_feed_60 Θ k_60 l0 l6 ω n = some r) : GR Θ yX11_feed cX11_feed 7 (some .int) 1 (0, 0) 60 [(0, .ref l0), (6, .int l6)] [] ω n r := by
  unfold B_X11_feed_60 at h
  refine g_iload dX11_feed_60 1 rfl ?_
  refine g_bipush (v := 20) dX11_feed_62 (by decide) ?_
  refine g_icmp_ge (tgt := 106) dX11_feed_64 (by decide) (fun c1 => ?_) (fun c1 => ?_)
  · rw [if_pos c1] at h
    refine g_aload_n dX11_feed_106 rfl 0 rfl ?_
    refine g_dup dX11_feed_107 rfl ?_
    refine g_rI fl_X11_99 dX11_feed_108 h (fun x2 h => ?_)
    refine g_bipush (v := 20) dX11_feed_111 (by decide) ?_
    refine g_iadd dX11_feed_113 ?_
    refine g_wF fl_X11_99 dX11_feed_114 (rfl) rfl h (fun ω h => ?_)
    refine g_aload_n dX11_feed_117 rfl 0 rfl ?_
    refine g_rI fl_X11_99 dX11_feed_118 h (fun x3 h => ?_)
    cases h
    exact g_iret rfl dX11_feed_121 rfl
  · rw [if_neg c1] at h
    refine g_aload_n dX11_feed_67 rfl 0 rfl ?_
    refine g_rA fl_X11_29 dX11_feed_68 h (fun a4 h => ?_)
    refine g_aload_n dX11_feed_71 rfl 0 rfl ?_
    refine g_rI fl_X11_99 dX11_feed_72 h (fun x5 h => ?_)
    refine g_iload dX11_feed_75 1 rfl ?_
    refine g_iadd dX11_feed_77 ?_
    refine g_aload_n dX11_feed_78 rfl 0 rfl ?_
    refine g_rA fl_X11_36 dX11_feed_79 h (fun a6 h => ?_)
    refine g_iload dX11_feed_82 1 rfl ?_
    refine g_iconst (v := 4) dX11_feed_84 (by decide) ?_
    refine g_idiv dX11_feed_85 (by decide) ?_
    refine g_lIi dX11_feed_86 h (fun x7 h => ?_)
    refine g_bipush (v := 24) dX11_feed_87 (by decide) ?_
    refine g_bipush (v := 8) dX11_feed_89 (by decide) ?_
    refine g_iload dX11_feed_91 1 rfl ?_
    refine g_iconst (v := 4) dX11_feed_93 (by decide) ?_
    refine g_irem dX11_feed_94 (by decide) ?_
    refine g_imul dX11_feed_95 ?_
    refine g_isub dX11_feed_96 ?_
    refine g_ishr dX11_feed_97 ?_
    refine g_i2b dX11_feed_98 ?_
    refine g_sIb dX11_feed_99 h (fun ω h => ?_)
    refine g_iinc (j := 1) (v := l6 + 1) (lv' := [(6, .int (l6 + 1)), (0, .ref l0)]) dX11_feed_100 rfl rfl (by decide) rfl ?_
    refine g_goto (tgt := 60) dX11_feed_103 (by decide) ?_
    refine G.lsub [1, 0] rfl ?_
    exact hk_60 l0 (l6 + 1) _ _ r h
theorem ok_L_X11_feed_60 (Θ : GP) : ∀ (f : Nat) (l0 : Nat) (l6 : Int32) (ω : OW) (n : Nat) (r : Out), L_X11_feed_60 Θ f l0 l6 ω n = some r → GR Θ yX11_feed cX11_feed 7 (some .int) 1 (0, 0) 60 [(0, .ref l0), (6, .int l6)] [] ω n r := by
  intro f
  induction f with
  | zero =>
    intro l0 l6 ω n r h
    unfold L_X11_feed_60 at h
    cases h
  | succ f ih =>
    intro l0 l6 ω n r h
    unfold L_X11_feed_60 at h
    exact ok_B_X11_feed_60 Θ (L_X11_feed_60 Θ f) ih l0 l6 ω n r h
theorem ok_X11_feed (Θ : GP) (l0 : Nat) (l1 : Int32) (l2 : Int32) (l3 : Int32) (l4 : Int32) (l5 : Int32) (ω : OW) (n : Nat) : Ok Θ 1 0 0 yX11_feed cX11_feed 7 (some .int) [.ref l0, .int l1, .int l2, .int l3, .int l4, .int l5] ω n (F_X11_feed Θ l0 l1 l2 l3 l4 l5 ω n) := by
  refine Ok.of (by decide +kernel) (Nat.le_of_ble_eq_true rfl) (fun r h => ?_)
  unfold F_X11_feed at h
  show GR Θ yX11_feed cX11_feed 7 (some .int) 1 (0, 0) 0 [(0, .ref l0), (1, .int l1), (2, .int l2), (3, .int l3), (4, .int l4), (5, .int l5)] [] ω n r
  refine g_aload_n dX11_feed_0 rfl 0 rfl ?_
  refine g_iconst (v := 0) dX11_feed_1 (by decide) ?_
  refine g_wF fl_X11_3 dX11_feed_2 (rfl) rfl h (fun ω h => ?_)
  refine g_aload_n dX11_feed_5 rfl 0 rfl ?_
  refine g_rI fl_X11_99 dX11_feed_6 h (fun x8 h => ?_)
  refine g_bipush (v := 20) dX11_feed_9 (by decide) ?_
  refine g_iadd dX11_feed_11 ?_
  refine g_sipush (v := 400) dX11_feed_12 (by decide) ?_
  refine g_icmp_le (tgt := 20) dX11_feed_15 (by decide) (fun c9 => ?_) (fun c9 => ?_)
  · rw [if_pos c9] at h
    refine g_aload_n dX11_feed_20 rfl 0 rfl ?_
    refine g_rA fl_X11_36 dX11_feed_21 h (fun a10 h => ?_)
    refine g_iconst (v := 0) dX11_feed_24 (by decide) ?_
    refine g_iload_n dX11_feed_25 rfl 1 rfl ?_
    refine g_sIi dX11_feed_26 h (fun ω h => ?_)
    refine g_aload_n dX11_feed_27 rfl 0 rfl ?_
    refine g_rA fl_X11_36 dX11_feed_28 h (fun a11 h => ?_)
    refine g_iconst (v := 1) dX11_feed_31 (by decide) ?_
    refine g_iload_n dX11_feed_32 rfl 2 rfl ?_
    refine g_sIi dX11_feed_33 h (fun ω h => ?_)
    refine g_aload_n dX11_feed_34 rfl 0 rfl ?_
    refine g_rA fl_X11_36 dX11_feed_35 h (fun a12 h => ?_)
    refine g_iconst (v := 2) dX11_feed_38 (by decide) ?_
    refine g_iload_n dX11_feed_39 rfl 3 rfl ?_
    refine g_sIi dX11_feed_40 h (fun ω h => ?_)
    refine g_aload_n dX11_feed_41 rfl 0 rfl ?_
    refine g_rA fl_X11_36 dX11_feed_42 h (fun a13 h => ?_)
    refine g_iconst (v := 3) dX11_feed_45 (by decide) ?_
    refine g_iload dX11_feed_46 4 rfl ?_
    refine g_sIi dX11_feed_48 h (fun ω h => ?_)
    refine g_aload_n dX11_feed_49 rfl 0 rfl ?_
    refine g_rA fl_X11_36 dX11_feed_50 h (fun a14 h => ?_)
    refine g_iconst (v := 4) dX11_feed_53 (by decide) ?_
    refine g_iload dX11_feed_54 5 rfl ?_
    refine g_sIi dX11_feed_56 h (fun ω h => ?_)
    refine g_iconst (v := 0) dX11_feed_57 (by decide) ?_
    refine g_istore (lv' := [(6, .int 0), (0, .ref l0), (1, .int l1), (2, .int l2), (3, .int l3), (4, .int l4), (5, .int l5)]) dX11_feed_58 (by decide) rfl ?_
    refine G.lsub [1, 0] rfl ?_
    exact ok_L_X11_feed_60 Θ 5000 l0 0 _ _ r h
  · rw [if_neg c9] at h
    refine g_iconst (v := (-1)) dX11_feed_18 (by decide) ?_
    cases h
    exact g_iret rfl dX11_feed_19 rfl
def J_X11_end_17 (Θ : GP) (ω : OW) (n : Nat) : RO := some (.inl (some (.int 0), ω, n))
def F_X11_end (Θ : GP) (l0 : Nat) (l1 : Int32) (ω : OW) (n : Nat) : RO := wF ω l0 11 0 (.int 0) (fun ω => if l1 < 0 then (J_X11_end_17 Θ ω n) else (rI ω l0 11 9 (fun x2 => if l1 ≤ x2 then (wF ω l0 11 9 (.int l1) (fun ω => some (.inl (some (.int 1), ω, n)))) else (J_X11_end_17 Θ ω n))))
theorem ok_J_X11_end_17 (Θ : GP) (ω : OW) (n : Nat) (r : Out) (h : J_X11_end_17 Θ ω n = some r) : GR Θ yX11_end cX11_end 2 (some .boolean) 1 (0, 0) 17 [] [] ω n r := by
  unfold J_X11_end_17 at h
  refine g_iconst (v := 0) dX11_end_17 (by decide) ?_
  cases h
  exact g_zret rfl rfl dX11_end_18 rfl
theorem ok_X11_end (Θ : GP) (l0 : Nat) (l1 : Int32) (ω : OW) (n : Nat) : Ok Θ 1 0 0 yX11_end cX11_end 2 (some .boolean) [.ref l0, .int l1] ω n (F_X11_end Θ l0 l1 ω n) := by
  refine Ok.of (by decide +kernel) (Nat.le_of_ble_eq_true rfl) (fun r h => ?_)
  unfold F_X11_end at h
  show GR Θ yX11_end cX11_end 2 (some .boolean) 1 (0, 0) 0 [(0, .ref l0), (1, .int l1)] [] ω n r
  refine g_aload_n dX11_end_0 rfl 0 rfl ?_
  refine g_iconst (v := 0) dX11_end_1 (by decide) ?_
  refine g_wF fl_X11_3 dX11_end_2 (rfl) rfl h (fun ω h => ?_)
  refine g_iload_n dX11_end_5 rfl 1 rfl ?_
  refine g_if_lt (tgt := 17) dX11_end_6 (by decide) (fun c1 => ?_) (fun c1 => ?_)
  · rw [if_pos c1] at h
    refine G.lsub [] rfl ?_
    exact ok_J_X11_end_17 Θ _ _ r h
  · rw [if_neg c1] at h
    refine g_iload_n dX11_end_9 rfl 1 rfl ?_
    refine g_aload_n dX11_end_10 rfl 0 rfl ?_
    refine g_rI fl_X11_99 dX11_end_11 h (fun x2 h => ?_)
    refine g_icmp_le (tgt := 19) dX11_end_14 (by decide) (fun c3 => ?_) (fun c3 => ?_)
    · rw [if_pos c3] at h
      refine g_aload_n dX11_end_19 rfl 0 rfl ?_
      refine g_iload_n dX11_end_20 rfl 1 rfl ?_
      refine g_wF fl_X11_99 dX11_end_21 (rfl) rfl h (fun ω h => ?_)
      refine g_iconst (v := 1) dX11_end_24 (by decide) ?_
      cases h
      exact g_zret rfl rfl dX11_end_25 rfl
    · rw [if_neg c3] at h
      refine G.lsub [] rfl ?_
      exact ok_J_X11_end_17 Θ _ _ r h
def J_X11_isAt_42 (Θ : GP) (s0 : Int32) (ω : OW) (n : Nat) : RO := bz s0 (some (.inl (some (.int s0), ω, n)))
def J_X11_isAt_41 (Θ : GP) (ω : OW) (n : Nat) : RO := J_X11_isAt_42 Θ 0 ω n
def F_X11_isAt (Θ : GP) (l0 : Nat) (l1 : Int32) (l2 : Int32) (ω : OW) (n : Nat) : RO := rI ω l0 11 10 (fun x2 => rI ω l0 11 11 (fun x3 => if x3 ≤ x2 then (J_X11_isAt_41 Θ ω n) else (rA ω l0 11 8 (fun a5 => rI ω l0 11 10 (fun x6 => lI ω (gB Θ) a5 x6 (fun x7 => if x7 < l1 then (J_X11_isAt_41 Θ ω n) else (rA ω l0 11 8 (fun a9 => rI ω l0 11 10 (fun x10 => lI ω (gB Θ) a9 x10 (fun x11 => if l2 < x11 then (J_X11_isAt_41 Θ ω n) else (J_X11_isAt_42 Θ 1 ω n)))))))))))
theorem ok_J_X11_isAt_42 (Θ : GP) (s0 : Int32) (ω : OW) (n : Nat) (r : Out) (h : J_X11_isAt_42 Θ s0 ω n = some r) : GR Θ yX11_isAt cX11_isAt 3 (some .boolean) 1 (0, 0) 42 [] [.int s0] ω n r := by
  unfold J_X11_isAt_42 at h
  obtain ⟨z1, h⟩ := bz_inv h
  cases h
  exact g_zret rfl z1 dX11_isAt_42 rfl
theorem ok_J_X11_isAt_41 (Θ : GP) (ω : OW) (n : Nat) (r : Out) (h : J_X11_isAt_41 Θ ω n = some r) : GR Θ yX11_isAt cX11_isAt 3 (some .boolean) 1 (0, 0) 41 [] [] ω n r := by
  unfold J_X11_isAt_41 at h
  refine g_iconst (v := 0) dX11_isAt_41 (by decide) ?_
  exact ok_J_X11_isAt_42 Θ 0 _ _ r h
theorem ok_X11_isAt (Θ : GP) (l0 : Nat) (l1 : Int32) (l2 : Int32) (ω : OW) (n : Nat) : Ok Θ 1 0 0 yX11_isAt cX11_isAt 3 (some .boolean) [.ref l0, .int l1, .int l2] ω n (F_X11_isAt Θ l0 l1 l2 ω n) := by
  refine Ok.of (by decide +kernel) (Nat.le_of_ble_eq_true rfl) (fun r h => ?_)
  unfold F_X11_isAt at h
  show GR Θ yX11_isAt cX11_isAt 3 (some .boolean) 1 (0, 0) 0 [(0, .ref l0), (1, .int l1), (2, .int l2)] [] ω n r
  refine g_aload_n dX11_isAt_0 rfl 0 rfl ?_
  refine g_rI fl_X11_102 dX11_isAt_1 h (fun x2 h => ?_)
  refine g_aload_n dX11_isAt_4 rfl 0 rfl ?_
  refine g_rI fl_X11_105 dX11_isAt_5 h (fun x3 h => ?_)
  refine g_icmp_ge (tgt := 41) dX11_isAt_8 (by decide) (fun c4 => ?_) (fun c4 => ?_)
  · rw [if_pos c4] at h
    refine G.lsub [] rfl ?_
    exact ok_J_X11_isAt_41 Θ _ _ r h
  · rw [if_neg c4] at h
    refine g_aload_n dX11_isAt_11 rfl 0 rfl ?_
    refine g_rA fl_X11_29 dX11_isAt_12 h (fun a5 h => ?_)
    refine g_aload_n dX11_isAt_15 rfl 0 rfl ?_
    refine g_rI fl_X11_102 dX11_isAt_16 h (fun x6 h => ?_)
    refine g_lIb dX11_isAt_19 h (fun x7 h => ?_)
    refine g_iload_n dX11_isAt_20 rfl 1 rfl ?_
    refine g_icmp_lt (tgt := 41) dX11_isAt_21 (by decide) (fun c8 => ?_) (fun c8 => ?_)
    · rw [if_pos c8] at h
      refine G.lsub [] rfl ?_
      exact ok_J_X11_isAt_41 Θ _ _ r h
    · rw [if_neg c8] at h
      refine g_aload_n dX11_isAt_24 rfl 0 rfl ?_
      refine g_rA fl_X11_29 dX11_isAt_25 h (fun a9 h => ?_)
      refine g_aload_n dX11_isAt_28 rfl 0 rfl ?_
      refine g_rI fl_X11_102 dX11_isAt_29 h (fun x10 h => ?_)
      refine g_lIb dX11_isAt_32 h (fun x11 h => ?_)
      refine g_iload_n dX11_isAt_33 rfl 2 rfl ?_
      refine g_icmp_gt (tgt := 41) dX11_isAt_34 (by decide) (fun c12 => ?_) (fun c12 => ?_)
      · rw [if_pos c12] at h
        refine G.lsub [] rfl ?_
        exact ok_J_X11_isAt_41 Θ _ _ r h
      · rw [if_neg c12] at h
        refine g_iconst (v := 1) dX11_isAt_37 (by decide) ?_
        refine g_goto (tgt := 42) dX11_isAt_38 (by decide) ?_
        refine G.lsub [] rfl ?_
        exact ok_J_X11_isAt_42 Θ 1 _ _ r h
def B_X11_blanks_0 (Θ : GP) (k_0 : Nat → OW → Nat → RO) (l0 : Nat) (ω : OW) (n : Nat) : RO := cO ω l0 11 (kI (F_X11_isAt Θ l0 32 32 ω n) (fun x1 ω n => if x1 = 0 then (rI ω l0 11 10 (fun x3 => wF ω l0 11 12 (.int x3) (fun ω => some (.inl (none, ω, n))))) else (rI ω l0 11 10 (fun x4 => wF ω l0 11 10 (.int (x4 + 1)) (fun ω => k_0 l0 ω n)))))
def L_X11_blanks_0 (Θ : GP) : Nat → Nat → OW → Nat → RO
  | 0, _, _, _ => none
  | f + 1, l0, ω, n => B_X11_blanks_0 Θ (L_X11_blanks_0 Θ f) l0 ω n
def F_X11_blanks (Θ : GP) (l0 : Nat) (ω : OW) (n : Nat) : RO := L_X11_blanks_0 Θ 5000 l0 ω n
theorem ok_B_X11_blanks_0 (Θ : GP) (k_0 : Nat → OW → Nat → RO) (hk_0 : ∀ l0 ω n r, k_0 l0 ω n = some r → GR Θ yX11_blanks cX11_blanks 1 (none : Option Jvm.ClassFile.FieldType) 2 (0, 0) 0 [(0, .ref l0)] [] ω n r) (l0 : Nat) (ω : OW) (n : Nat) (r : Out) (h : B_X11_blanks_0 Θ k_0 l0 ω n = some r) : GR Θ yX11_blanks cX11_blanks 1 (none : Option Jvm.ClassFile.FieldType) 2 (0, 0) 0 [(0, .ref l0)] [] ω n r := by
  unfold B_X11_blanks_0 at h
  refine g_aload_n dX11_blanks_0 rfl 0 rfl ?_
  refine g_bipush (v := 32) dX11_blanks_1 (by decide) ?_
  refine g_bipush (v := 32) dX11_blanks_3 (by decide) ?_
  refine g_cI (ci := 11) (As := [.int 32, .int 32]) mv_X11_108 dX11_blanks_5 rfl (ok_X11_isAt Θ l0 32 32 _ _) rfl rfl (Nat.le_of_ble_eq_true rfl) (by decide) (by decide) (by decide) h (fun x1 ω n h => ?_)
  refine G.less (B' := (0, 0)) (by decide) (by decide) ?_
  refine g_if_eq (tgt := 24) dX11_blanks_8 (by decide) (fun c2 => ?_) (fun c2 => ?_)
  · rw [if_pos c2] at h
    refine g_aload_n dX11_blanks_24 rfl 0 rfl ?_
    refine g_aload_n dX11_blanks_25 rfl 0 rfl ?_
    refine g_rI fl_X11_102 dX11_blanks_26 h (fun x3 h => ?_)
    refine g_wF fl_X11_112 dX11_blanks_29 (rfl) rfl h (fun ω h => ?_)
    cases h
    exact g_vret rfl dX11_blanks_32 rfl
  · rw [if_neg c2] at h
    refine g_aload_n dX11_blanks_11 rfl 0 rfl ?_
    refine g_dup dX11_blanks_12 rfl ?_
    refine g_rI fl_X11_102 dX11_blanks_13 h (fun x4 h => ?_)
    refine g_iconst (v := 1) dX11_blanks_16 (by decide) ?_
    refine g_iadd dX11_blanks_17 ?_
    refine g_wF fl_X11_102 dX11_blanks_18 (rfl) rfl h (fun ω h => ?_)
    refine g_goto (tgt := 0) dX11_blanks_21 (by decide) ?_
    exact hk_0 l0 _ _ r h
theorem ok_L_X11_blanks_0 (Θ : GP) : ∀ (f : Nat) (l0 : Nat) (ω : OW) (n : Nat) (r : Out), L_X11_blanks_0 Θ f l0 ω n = some r → GR Θ yX11_blanks cX11_blanks 1 (none : Option Jvm.ClassFile.FieldType) 2 (0, 0) 0 [(0, .ref l0)] [] ω n r := by
  intro f
  induction f with
  | zero =>
    intro l0 ω n r h
    unfold L_X11_blanks_0 at h
    cases h
  | succ f ih =>
    intro l0 ω n r h
    unfold L_X11_blanks_0 at h
    exact ok_B_X11_blanks_0 Θ (L_X11_blanks_0 Θ f) ih l0 ω n r h
theorem ok_X11_blanks (Θ : GP) (l0 : Nat) (ω : OW) (n : Nat) : Ok Θ 2 0 0 yX11_blanks cX11_blanks 1 (none : Option Jvm.ClassFile.FieldType) [.ref l0] ω n (F_X11_blanks Θ l0 ω n) := by
  refine Ok.of (by decide +kernel) (Nat.le_of_ble_eq_true rfl) (fun r h => ?_)
  unfold F_X11_blanks at h
  show GR Θ yX11_blanks cX11_blanks 1 (none : Option Jvm.ClassFile.FieldType) 2 (0, 0) 0 [(0, .ref l0)] [] ω n r
  exact ok_L_X11_blanks_0 Θ 5000 l0 _ _ r h
def B_X11_letters_4 (Θ : GP) (k_4 : Nat → OW → Nat → RO) (l0 : Nat) (ω : OW) (n : Nat) : RO := cO ω l0 11 (kI (F_X11_isAt Θ l0 97 122 ω n) (fun x1 ω n => if x1 = 0 then (some (.inl (none, ω, n))) else (rI ω l0 11 10 (fun x3 => wF ω l0 11 10 (.int (x3 + 1)) (fun ω => k_4 l0 ω n)))))
def L_X11_letters_4 (Θ : GP) : Nat → Nat → OW → Nat → RO
  | 0, _, _, _ => none
  | f + 1, l0, ω, n => B_X11_letters_4 Θ (L_X11_letters_4 Θ f) l0 ω n
def F_X11_letters (Θ : GP) (l0 : Nat) (ω : OW) (n : Nat) : RO := cO ω l0 11 (kV (F_X11_blanks Θ l0 ω n) (fun ω n => L_X11_letters_4 Θ 5000 l0 ω n))
theorem ok_B_X11_letters_4 (Θ : GP) (k_4 : Nat → OW → Nat → RO) (hk_4 : ∀ l0 ω n r, k_4 l0 ω n = some r → GR Θ yX11_letters cX11_letters 1 (none : Option Jvm.ClassFile.FieldType) 3 (0, 0) 4 [(0, .ref l0)] [] ω n r) (l0 : Nat) (ω : OW) (n : Nat) (r : Out) (h : B_X11_letters_4 Θ k_4 l0 ω n = some r) : GR Θ yX11_letters cX11_letters 1 (none : Option Jvm.ClassFile.FieldType) 3 (0, 0) 4 [(0, .ref l0)] [] ω n r := by
  unfold B_X11_letters_4 at h
  refine g_aload_n dX11_letters_4 rfl 0 rfl ?_
  refine g_bipush (v := 97) dX11_letters_5 (by decide) ?_
  refine g_bipush (v := 122) dX11_letters_7 (by decide) ?_
  refine g_cI (ci := 11) (As := [.int 97, .int 122]) mv_X11_108 dX11_letters_9 rfl (ok_X11_isAt Θ l0 97 122 _ _) rfl rfl (Nat.le_of_ble_eq_true rfl) (by decide) (by decide) (by decide) h (fun x1 ω n h => ?_)
  refine G.less (B' := (0, 0)) (by decide) (by decide) ?_
  refine g_if_eq (tgt := 28) dX11_letters_12 (by decide) (fun c2 => ?_) (fun c2 => ?_)
  · rw [if_pos c2] at h
    cases h
    exact g_vret rfl dX11_letters_28 rfl
  · rw [if_neg c2] at h
    refine g_aload_n dX11_letters_15 rfl 0 rfl ?_
    refine g_dup dX11_letters_16 rfl ?_
    refine g_rI fl_X11_102 dX11_letters_17 h (fun x3 h => ?_)
    refine g_iconst (v := 1) dX11_letters_20 (by decide) ?_
    refine g_iadd dX11_letters_21 ?_
    refine g_wF fl_X11_102 dX11_letters_22 (rfl) rfl h (fun ω h => ?_)
    refine g_goto (tgt := 4) dX11_letters_25 (by decide) ?_
    exact hk_4 l0 _ _ r h
theorem ok_L_X11_letters_4 (Θ : GP) : ∀ (f : Nat) (l0 : Nat) (ω : OW) (n : Nat) (r : Out), L_X11_letters_4 Θ f l0 ω n = some r → GR Θ yX11_letters cX11_letters 1 (none : Option Jvm.ClassFile.FieldType) 3 (0, 0) 4 [(0, .ref l0)] [] ω n r := by
  intro f
  induction f with
  | zero =>
    intro l0 ω n r h
    unfold L_X11_letters_4 at h
    cases h
  | succ f ih =>
    intro l0 ω n r h
    unfold L_X11_letters_4 at h
    exact ok_B_X11_letters_4 Θ (L_X11_letters_4 Θ f) ih l0 ω n r h
theorem ok_X11_letters (Θ : GP) (l0 : Nat) (ω : OW) (n : Nat) : Ok Θ 3 0 0 yX11_letters cX11_letters 1 (none : Option Jvm.ClassFile.FieldType) [.ref l0] ω n (F_X11_letters Θ l0 ω n) := by
  refine Ok.of (by decide +kernel) (Nat.le_of_ble_eq_true rfl) (fun r h => ?_)
  unfold F_X11_letters at h
  show GR Θ yX11_letters cX11_letters 1 (none : Option Jvm.ClassFile.FieldType) 3 (0, 0) 0 [(0, .ref l0)] [] ω n r
  refine g_aload_n dX11_letters_0 rfl 0 rfl ?_
  refine g_cV (ci := 11) (As := []) mv_X11_115 dX11_letters_1 rfl (ok_X11_blanks Θ l0 _ _) rfl rfl (Nat.le_of_ble_eq_true rfl) (by decide) (by decide) (by decide) h (fun ω n h => ?_)
  refine G.less (B' := (0, 0)) (by decide) (by decide) ?_
  exact ok_L_X11_letters_4 Θ 5000 l0 _ _ r h
def F_X11_sign (Θ : GP) (l0 : Nat) (l1 : Int32) (ω : OW) (n : Nat) : RO := cO ω l0 11 (kV (F_X11_blanks Θ l0 ω n) (fun ω n => cO ω l0 11 (kI (F_X11_isAt Θ l0 l1 l1 ω n) (fun x2 ω n => if x2 = 0 then (some (.inl (some (.int 0), ω, n))) else (rI ω l0 11 10 (fun x4 => wF ω l0 11 10 (.int (x4 + 1)) (fun ω => some (.inl (some (.int 1), ω, n)))))))))
theorem ok_X11_sign (Θ : GP) (l0 : Nat) (l1 : Int32) (ω : OW) (n : Nat) : Ok Θ 3 0 0 yX11_sign cX11_sign 2 (some .boolean) [.ref l0, .int l1] ω n (F_X11_sign Θ l0 l1 ω n) := by
  refine Ok.of (by decide +kernel) (Nat.le_of_ble_eq_true rfl) (fun r h => ?_)
  unfold F_X11_sign at h
  show GR Θ yX11_sign cX11_sign 2 (some .boolean) 3 (0, 0) 0 [(0, .ref l0), (1, .int l1)] [] ω n r
  refine g_aload_n dX11_sign_0 rfl 0 rfl ?_
  refine g_cV (ci := 11) (As := []) mv_X11_115 dX11_sign_1 rfl (ok_X11_blanks Θ l0 _ _) rfl rfl (Nat.le_of_ble_eq_true rfl) (by decide) (by decide) (by decide) h (fun ω n h => ?_)
  refine G.less (B' := (0, 0)) (by decide) (by decide) ?_
  refine g_aload_n dX11_sign_4 rfl 0 rfl ?_
  refine g_iload_n dX11_sign_5 rfl 1 rfl ?_
  refine g_iload_n dX11_sign_6 rfl 1 rfl ?_
  refine g_cI (ci := 11) (As := [.int l1, .int l1]) mv_X11_108 dX11_sign_7 rfl (ok_X11_isAt Θ l0 l1 l1 _ _) rfl rfl (Nat.le_of_ble_eq_true rfl) (by decide) (by decide) (by decide) h (fun x2 ω n h => ?_)
  refine G.less (B' := (0, 0)) (by decide) (by decide) ?_
  refine g_if_ne (tgt := 15) dX11_sign_10 (by decide) (fun c3 => ?_) (fun c3 => ?_)
  · rw [if_neg c3] at h
    refine g_aload_n dX11_sign_15 rfl 0 rfl ?_
    refine g_dup dX11_sign_16 rfl ?_
    refine g_rI fl_X11_102 dX11_sign_17 h (fun x4 h => ?_)
    refine g_iconst (v := 1) dX11_sign_20 (by decide) ?_
    refine g_iadd dX11_sign_21 ?_
    refine g_wF fl_X11_102 dX11_sign_22 (rfl) rfl h (fun ω h => ?_)
    refine g_iconst (v := 1) dX11_sign_25 (by decide) ?_
    cases h
    exact g_zret rfl rfl dX11_sign_26 rfl
  · rw [if_pos c3] at h
    refine g_iconst (v := 0) dX11_sign_13 (by decide) ?_
    cases h
    exact g_zret rfl rfl dX11_sign_14 rfl
def J_X11_number_104 (Θ : GP) (s0 : Int32) (ω : OW) (n : Nat) : RO := some (.inl (some (.int s0), ω, n))
def J_X11_number_99 (Θ : GP) (ω : OW) (n : Nat) : RO := J_X11_number_104 Θ (-1) ω n
def J_X11_number_51 (Θ : GP) (k_6 : Nat → Int32 → Int32 → Int32 → OW → Nat → RO) (l0 : Nat) (l1 : Int32) (l2 : Int32) (s0 : Int32) (ω : OW) (n : Nat) : RO := rI ω l0 11 10 (fun x1 => wF ω l0 11 10 (.int (x1 + 1)) (fun ω => k_6 l0 l1 l2 s0 ω n))
def B_X11_number_6 (Θ : GP) (k_6 : Nat → Int32 → Int32 → Int32 → OW → Nat → RO) (l0 : Nat) (l1 : Int32) (l2 : Int32) (l3 : Int32) (ω : OW) (n : Nat) : RO := cO ω l0 11 (kI (F_X11_isAt Θ l0 48 57 ω n) (fun x2 ω n => if x2 = 0 then (rI ω l0 11 10 (fun x4 => rI ω l0 11 12 (fun x5 => if x4 = x5 then (J_X11_number_99 Θ ω n) else (rI ω l0 11 10 (fun x7 => rI ω l0 11 12 (fun x8 => if 3 < (x7 - x8) then (J_X11_number_99 Θ ω n) else (if l3 < l1 then (J_X11_number_99 Θ ω n) else (if l3 ≤ l2 then (J_X11_number_104 Θ l3 ω n) else (J_X11_number_99 Θ ω n))))))))) else (rI ω l0 11 10 (fun x12 => rI ω l0 11 12 (fun x13 => if 3 ≤ (x12 - x13) then (J_X11_number_51 Θ k_6 l0 l1 l2 l3 ω n) else (rA ω l0 11 8 (fun a15 => rI ω l0 11 10 (fun x16 => lI ω (gB Θ) a15 x16 (fun x17 => J_X11_number_51 Θ k_6 l0 l1 l2 (((10 * l3) + x17) - 48) ω n)))))))))
def L_X11_number_6 (Θ : GP) : Nat → Nat → Int32 → Int32 → Int32 → OW → Nat → RO
  | 0, _, _, _, _, _, _ => none
  | f + 1, l0, l1, l2, l3, ω, n => B_X11_number_6 Θ (L_X11_number_6 Θ f) l0 l1 l2 l3 ω n
def F_X11_number (Θ : GP) (l0 : Nat) (l1 : Int32) (l2 : Int32) (ω : OW) (n : Nat) : RO := cO ω l0 11 (kV (F_X11_blanks Θ l0 ω n) (fun ω n => L_X11_number_6 Θ 5000 l0 l1 l2 0 ω n))
theorem ok_J_X11_number_104 (Θ : GP) (s0 : Int32) (ω : OW) (n : Nat) (r : Out) (h : J_X11_number_104 Θ s0 ω n = some r) : GR Θ yX11_number cX11_number 4 (some .int) 3 (0, 0) 104 [] [.int s0] ω n r := by
  unfold J_X11_number_104 at h
  cases h
  exact g_iret rfl dX11_number_104 rfl
theorem ok_J_X11_number_99 (Θ : GP) (ω : OW) (n : Nat) (r : Out) (h : J_X11_number_99 Θ ω n = some r) : GR Θ yX11_number cX11_number 4 (some .int) 3 (0, 0) 99 [] [] ω n r := by
  unfold J_X11_number_99 at h
  refine g_iconst (v := (-1)) dX11_number_99 (by decide) ?_
  refine g_goto (tgt := 104) dX11_number_100 (by decide) ?_
  exact ok_J_X11_number_104 Θ (-1) _ _ r h
theorem ok_J_X11_number_51 (Θ : GP) (k_6 : Nat → Int32 → Int32 → Int32 → OW → Nat → RO) (hk_6 : ∀ l0 l1 l2 l3 ω n r, k_6 l0 l1 l2 l3 ω n = some r → GR Θ yX11_number cX11_number 4 (some .int) 3 (0, 0) 6 [(0, .ref l0), (1, .int l1), (2, .int l2), (3, .int l3)] [] ω n r) (l0 : Nat) (l1 : Int32) (l2 : Int32) (s0 : Int32) (ω : OW) (n : Nat) (r : Out) (h : J_X11_number_51 Θ k_6 l0 l1 l2 s0 ω n = some r) : GR Θ yX11_number cX11_number 4 (some .int) 3 (0, 0) 51 [(0, .ref l0), (1, .int l1), (2, .int l2)] [.int s0] ω n r := by
  unfold J_X11_number_51 at h
  refine g_istore_n (lv' := [(3, .int s0), (0, .ref l0), (1, .int l1), (2, .int l2)]) dX11_number_51 rfl (by decide) rfl ?_
  refine g_aload_n dX11_number_52 rfl 1 rfl ?_
  refine g_dup dX11_number_53 rfl ?_
  refine g_rI fl_X11_102 dX11_number_54 h (fun x1 h => ?_)
  refine g_iconst (v := 1) dX11_number_57 (by decide) ?_
  refine g_iadd dX11_number_58 ?_
  refine g_wF fl_X11_102 dX11_number_59 (rfl) rfl h (fun ω h => ?_)
  refine g_goto (tgt := 6) dX11_number_62 (by decide) ?_
  refine G.lsub [1, 2, 3, 0] rfl ?_
  exact hk_6 l0 l1 l2 s0 _ _ r h
theorem ok_B_X11_number_6 (Θ : GP) (k_6 : Nat → Int32 → Int32 → Int32 → OW → Nat → RO) (hk_6 : ∀ l0 l1 l2 l3 ω n r, k_6 l0 l1 l2 l3 ω n = some r → GR Θ yX11_number cX11_number 4 (some .int) 3 (0, 0) 6 [(0, .ref l0), (1, .int l1), (2, .int l2), (3, .int l3)] [] ω n r) (l0 : Nat) (l1 : Int32) (l2 : Int32) (l3 : Int32) (ω : OW) (n : Nat) (r : Out) (h : B_X11_number_6 Θ k_6 l0 l1 l2 l3 ω n = some r) : GR Θ yX11_number cX11_number 4 (some .int) 3 (0, 0) 6 [(0, .ref l0), (1, .int l1), (2, .int l2), (3, .int l3)] [] ω n r := by
  unfold B_X11_number_6 at h
  refine g_aload_n dX11_number_6 rfl 0 rfl ?_
  refine g_bipush (v := 48) dX11_number_7 (by decide) ?_
  refine g_bipush (v := 57) dX11_number_9 (by decide) ?_
  refine g_cI (ci := 11) (As := [.int 48, .int 57]) mv_X11_108 dX11_number_11 rfl (ok_X11_isAt Θ l0 48 57 _ _) rfl rfl (Nat.le_of_ble_eq_true rfl) (by decide) (by decide) (by decide) h (fun x2 ω n h => ?_)
  refine G.less (B' := (0, 0)) (by decide) (by decide) ?_
  refine g_if_eq (tgt := 65) dX11_number_14 (by decide) (fun c3 => ?_) (fun c3 => ?_)
  · rw [if_pos c3] at h
    refine g_aload_n dX11_number_65 rfl 0 rfl ?_
    refine g_rI fl_X11_102 dX11_number_66 h (fun x4 h => ?_)
    refine g_aload_n dX11_number_69 rfl 0 rfl ?_
    refine g_rI fl_X11_112 dX11_number_70 h (fun x5 h => ?_)
    refine g_icmp_eq (tgt := 99) dX11_number_73 (by decide) (fun c6 => ?_) (fun c6 => ?_)
    · rw [if_pos c6] at h
      refine G.lsub [] rfl ?_
      exact ok_J_X11_number_99 Θ _ _ r h
    · rw [if_neg c6] at h
      refine g_aload_n dX11_number_76 rfl 0 rfl ?_
      refine g_rI fl_X11_102 dX11_number_77 h (fun x7 h => ?_)
      refine g_aload_n dX11_number_80 rfl 0 rfl ?_
      refine g_rI fl_X11_112 dX11_number_81 h (fun x8 h => ?_)
      refine g_isub dX11_number_84 ?_
      refine g_iconst (v := 3) dX11_number_85 (by decide) ?_
      refine g_icmp_gt (tgt := 99) dX11_number_86 (by decide) (fun c9 => ?_) (fun c9 => ?_)
      · rw [if_pos c9] at h
        refine G.lsub [] rfl ?_
        exact ok_J_X11_number_99 Θ _ _ r h
      · rw [if_neg c9] at h
        refine g_iload_n dX11_number_89 rfl 3 rfl ?_
        refine g_iload_n dX11_number_90 rfl 1 rfl ?_
        refine g_icmp_lt (tgt := 99) dX11_number_91 (by decide) (fun c10 => ?_) (fun c10 => ?_)
        · rw [if_pos c10] at h
          refine G.lsub [] rfl ?_
          exact ok_J_X11_number_99 Θ _ _ r h
        · rw [if_neg c10] at h
          refine g_iload_n dX11_number_94 rfl 3 rfl ?_
          refine g_iload_n dX11_number_95 rfl 2 rfl ?_
          refine g_icmp_le (tgt := 103) dX11_number_96 (by decide) (fun c11 => ?_) (fun c11 => ?_)
          · rw [if_pos c11] at h
            refine g_iload_n dX11_number_103 rfl 3 rfl ?_
            refine G.lsub [] rfl ?_
            exact ok_J_X11_number_104 Θ l3 _ _ r h
          · rw [if_neg c11] at h
            refine G.lsub [] rfl ?_
            exact ok_J_X11_number_99 Θ _ _ r h
  · rw [if_neg c3] at h
    refine g_aload_n dX11_number_17 rfl 0 rfl ?_
    refine g_rI fl_X11_102 dX11_number_18 h (fun x12 h => ?_)
    refine g_aload_n dX11_number_21 rfl 0 rfl ?_
    refine g_rI fl_X11_112 dX11_number_22 h (fun x13 h => ?_)
    refine g_isub dX11_number_25 ?_
    refine g_iconst (v := 3) dX11_number_26 (by decide) ?_
    refine g_icmp_ge (tgt := 50) dX11_number_27 (by decide) (fun c14 => ?_) (fun c14 => ?_)
    · rw [if_pos c14] at h
      refine g_iload_n dX11_number_50 rfl 3 rfl ?_
      refine G.lsub [0, 1, 2] rfl ?_
      exact ok_J_X11_number_51 Θ k_6 hk_6 l0 l1 l2 l3 _ _ r h
    · rw [if_neg c14] at h
      refine g_bipush (v := 10) dX11_number_30 (by decide) ?_
      refine g_iload_n dX11_number_32 rfl 3 rfl ?_
      refine g_imul dX11_number_33 ?_
      refine g_aload_n dX11_number_34 rfl 0 rfl ?_
      refine g_rA fl_X11_29 dX11_number_35 h (fun a15 h => ?_)
      refine g_aload_n dX11_number_38 rfl 0 rfl ?_
      refine g_rI fl_X11_102 dX11_number_39 h (fun x16 h => ?_)
      refine g_lIb dX11_number_42 h (fun x17 h => ?_)
      refine g_iadd dX11_number_43 ?_
      refine g_bipush (v := 48) dX11_number_44 (by decide) ?_
      refine g_isub dX11_number_46 ?_
      refine g_goto (tgt := 51) dX11_number_47 (by decide) ?_
      refine G.lsub [0, 1, 2] rfl ?_
      exact ok_J_X11_number_51 Θ k_6 hk_6 l0 l1 l2 (((10 * l3) + x17) - 48) _ _ r h
theorem ok_L_X11_number_6 (Θ : GP) : ∀ (f : Nat) (l0 : Nat) (l1 : Int32) (l2 : Int32) (l3 : Int32) (ω : OW) (n : Nat) (r : Out), L_X11_number_6 Θ f l0 l1 l2 l3 ω n = some r → GR Θ yX11_number cX11_number 4 (some .int) 3 (0, 0) 6 [(0, .ref l0), (1, .int l1), (2, .int l2), (3, .int l3)] [] ω n r := by
  intro f
  induction f with
  | zero =>
    intro l0 l1 l2 l3 ω n r h
    unfold L_X11_number_6 at h
    cases h
  | succ f ih =>
    intro l0 l1 l2 l3 ω n r h
    unfold L_X11_number_6 at h
    exact ok_B_X11_number_6 Θ (L_X11_number_6 Θ f) ih l0 l1 l2 l3 ω n r h
theorem ok_X11_number (Θ : GP) (l0 : Nat) (l1 : Int32) (l2 : Int32) (ω : OW) (n : Nat) : Ok Θ 3 0 0 yX11_number cX11_number 4 (some .int) [.ref l0, .int l1, .int l2] ω n (F_X11_number Θ l0 l1 l2 ω n) := by
  refine Ok.of (by decide +kernel) (Nat.le_of_ble_eq_true rfl) (fun r h => ?_)
  unfold F_X11_number at h
  show GR Θ yX11_number cX11_number 4 (some .int) 3 (0, 0) 0 [(0, .ref l0), (1, .int l1), (2, .int l2)] [] ω n r
  refine g_aload_n dX11_number_0 rfl 0 rfl ?_
  refine g_cV (ci := 11) (As := []) mv_X11_115 dX11_number_1 rfl (ok_X11_blanks Θ l0 _ _) rfl rfl (Nat.le_of_ble_eq_true rfl) (by decide) (by decide) (by decide) h (fun ω n h => ?_)
  refine G.less (B' := (0, 0)) (by decide) (by decide) ?_
  refine g_iconst (v := 0) dX11_number_4 (by decide) ?_
  refine g_istore_n (lv' := [(3, .int 0), (0, .ref l0), (1, .int l1), (2, .int l2)]) dX11_number_5 rfl (by decide) rfl ?_
  refine G.lsub [1, 2, 3, 0] rfl ?_
  exact ok_L_X11_number_6 Θ 5000 l0 l1 l2 0 _ _ r h
def F_X11_fault (Θ : GP) (l0 : Nat) (ω : OW) (n : Nat) : RO := wF ω l0 11 0 (.int 0) (fun ω => rI ω l0 11 14 (fun x1 => some (.inl (some (.int x1), ω, n))))
theorem ok_X11_fault (Θ : GP) (l0 : Nat) (ω : OW) (n : Nat) : Ok Θ 1 0 0 yX11_fault cX11_fault 1 (some .int) [.ref l0] ω n (F_X11_fault Θ l0 ω n) := by
  refine Ok.of (by decide +kernel) (Nat.le_of_ble_eq_true rfl) (fun r h => ?_)
  unfold F_X11_fault at h
  show GR Θ yX11_fault cX11_fault 1 (some .int) 1 (0, 0) 0 [(0, .ref l0)] [] ω n r
  refine g_aload_n dX11_fault_0 rfl 0 rfl ?_
  refine g_iconst (v := 0) dX11_fault_1 (by decide) ?_
  refine g_wF fl_X11_3 dX11_fault_2 (rfl) rfl h (fun ω h => ?_)
  refine g_aload_n dX11_fault_5 rfl 0 rfl ?_
  refine g_rI fl_X11_33 dX11_fault_6 h (fun x1 h => ?_)
  cases h
  exact g_iret rfl dX11_fault_9 rfl
def F_X11_uses (Θ : GP) (l0 : Nat) (ω : OW) (n : Nat) : RO := wF ω l0 11 0 (.int 0) (fun ω => rI ω l0 11 9 (fun x1 => wF ω l0 11 11 (.int x1) (fun ω => wF ω l0 11 9 (.int 0) (fun ω => wF ω l0 11 10 (.int 0) (fun ω => some (.inl (none, ω, n)))))))
theorem ok_X11_uses (Θ : GP) (l0 : Nat) (ω : OW) (n : Nat) : Ok Θ 1 0 0 yX11_uses cX11_uses 1 (none : Option Jvm.ClassFile.FieldType) [.ref l0] ω n (F_X11_uses Θ l0 ω n) := by
  refine Ok.of (by decide +kernel) (Nat.le_of_ble_eq_true rfl) (fun r h => ?_)
  unfold F_X11_uses at h
  show GR Θ yX11_uses cX11_uses 1 (none : Option Jvm.ClassFile.FieldType) 1 (0, 0) 0 [(0, .ref l0)] [] ω n r
  refine g_aload_n dX11_uses_0 rfl 0 rfl ?_
  refine g_iconst (v := 0) dX11_uses_1 (by decide) ?_
  refine g_wF fl_X11_3 dX11_uses_2 (rfl) rfl h (fun ω h => ?_)
  refine g_aload_n dX11_uses_5 rfl 0 rfl ?_
  refine g_aload_n dX11_uses_6 rfl 0 rfl ?_
  refine g_rI fl_X11_99 dX11_uses_7 h (fun x1 h => ?_)
  refine g_wF fl_X11_105 dX11_uses_10 (rfl) rfl h (fun ω h => ?_)
  refine g_aload_n dX11_uses_13 rfl 0 rfl ?_
  refine g_iconst (v := 0) dX11_uses_14 (by decide) ?_
  refine g_wF fl_X11_99 dX11_uses_15 (rfl) rfl h (fun ω h => ?_)
  refine g_aload_n dX11_uses_18 rfl 0 rfl ?_
  refine g_iconst (v := 0) dX11_uses_19 (by decide) ?_
  refine g_wF fl_X11_102 dX11_uses_20 (rfl) rfl h (fun ω h => ?_)
  cases h
  exact g_vret rfl dX11_uses_23 rfl
def J_X11_readNumber_40 (Θ : GP) (s0 : Int32) (ω : OW) (n : Nat) : RO := bz s0 (some (.inl (some (.int s0), ω, n)))
def J_X11_readNumber_29 (Θ : GP) (l4 : Int32) (s0 : Int32) (s1 : Int32) (s2 : Nat) (ω : OW) (n : Nat) : RO := sI ω (gI Θ) s2 s1 s0 (fun ω => if l4 < 0 then (J_X11_readNumber_40 Θ 0 ω n) else (J_X11_readNumber_40 Θ 1 ω n))
def F_X11_readNumber (Θ : GP) (l0 : Nat) (l1 : Int32) (l2 : Int32) (l3 : Int32) (ω : OW) (n : Nat) : RO := cO ω l0 11 (kI (F_X11_number Θ l0 l2 l3 ω n) (fun x3 ω n => rA ω l0 11 1 (fun a4 => if 0 ≤ x3 then (J_X11_readNumber_29 Θ x3 x3 l1 a4 ω n) else (rA ω l0 11 1 (fun a6 => lI ω (gI Θ) a6 l1 (fun x7 => J_X11_readNumber_29 Θ x3 x7 l1 a4 ω n))))))
theorem ok_J_X11_readNumber_40 (Θ : GP) (s0 : Int32) (ω : OW) (n : Nat) (r : Out) (h : J_X11_readNumber_40 Θ s0 ω n = some r) : GR Θ yX11_readNumber cX11_readNumber 5 (some .boolean) 4 (0, 0) 40 [] [.int s0] ω n r := by
  unfold J_X11_readNumber_40 at h
  obtain ⟨z1, h⟩ := bz_inv h
  cases h
  exact g_zret rfl z1 dX11_readNumber_40 rfl
theorem ok_J_X11_readNumber_29 (Θ : GP) (l4 : Int32) (s0 : Int32) (s1 : Int32) (s2 : Nat) (ω : OW) (n : Nat) (r : Out) (h : J_X11_readNumber_29 Θ l4 s0 s1 s2 ω n = some r) : GR Θ yX11_readNumber cX11_readNumber 5 (some .boolean) 4 (0, 0) 29 [(4, .int l4)] [.int s0, .int s1, .ref s2] ω n r := by
  unfold J_X11_readNumber_29 at h
  refine g_sIi dX11_readNumber_29 h (fun ω h => ?_)
  refine g_iload dX11_readNumber_30 0 rfl ?_
  refine g_if_lt (tgt := 39) dX11_readNumber_32 (by decide) (fun c2 => ?_) (fun c2 => ?_)
  · rw [if_pos c2] at h
    refine g_iconst (v := 0) dX11_readNumber_39 (by decide) ?_
    refine G.lsub [] rfl ?_
    exact ok_J_X11_readNumber_40 Θ 0 _ _ r h
  · rw [if_neg c2] at h
    refine g_iconst (v := 1) dX11_readNumber_35 (by decide) ?_
    refine g_goto (tgt := 40) dX11_readNumber_36 (by decide) ?_
    refine G.lsub [] rfl ?_
    exact ok_J_X11_readNumber_40 Θ 1 _ _ r h
theorem ok_X11_readNumber (Θ : GP) (l0 : Nat) (l1 : Int32) (l2 : Int32) (l3 : Int32) (ω : OW) (n : Nat) : Ok Θ 4 0 0 yX11_readNumber cX11_readNumber 5 (some .boolean) [.ref l0, .int l1, .int l2, .int l3] ω n (F_X11_readNumber Θ l0 l1 l2 l3 ω n) := by
  refine Ok.of (by decide +kernel) (Nat.le_of_ble_eq_true rfl) (fun r h => ?_)
  unfold F_X11_readNumber at h
  show GR Θ yX11_readNumber cX11_readNumber 5 (some .boolean) 4 (0, 0) 0 [(0, .ref l0), (1, .int l1), (2, .int l2), (3, .int l3)] [] ω n r
  refine g_aload_n dX11_readNumber_0 rfl 0 rfl ?_
  refine g_iload_n dX11_readNumber_1 rfl 2 rfl ?_
  refine g_iload_n dX11_readNumber_2 rfl 3 rfl ?_
  refine g_cI (ci := 11) (As := [.int l2, .int l3]) mv_X11_134 dX11_readNumber_3 rfl (ok_X11_number Θ l0 l2 l3 _ _) rfl rfl (Nat.le_of_ble_eq_true rfl) (by decide) (by decide) (by decide) h (fun x3 ω n h => ?_)
  refine G.less (B' := (0, 0)) (by decide) (by decide) ?_
  refine g_istore (lv' := [(4, .int x3), (0, .ref l0), (1, .int l1), (2, .int l2), (3, .int l3)]) dX11_readNumber_6 (by decide) rfl ?_
  refine g_aload_n dX11_readNumber_8 rfl 1 rfl ?_
  refine g_rA fl_X11_13 dX11_readNumber_9 h (fun a4 h => ?_)
  refine g_iload_n dX11_readNumber_12 rfl 2 rfl ?_
  refine g_iload dX11_readNumber_13 0 rfl ?_
  refine g_if_ge (tgt := 27) dX11_readNumber_15 (by decide) (fun c5 => ?_) (fun c5 => ?_)
  · rw [if_pos c5] at h
    refine g_iload dX11_readNumber_27 0 rfl ?_
    refine G.lsub [0] rfl ?_
    exact ok_J_X11_readNumber_29 Θ x3 x3 l1 a4 _ _ r h
  · rw [if_neg c5] at h
    refine g_aload_n dX11_readNumber_18 rfl 1 rfl ?_
    refine g_rA fl_X11_13 dX11_readNumber_19 h (fun a6 h => ?_)
    refine g_iload_n dX11_readNumber_22 rfl 2 rfl ?_
    refine g_lIi dX11_readNumber_23 h (fun x7 h => ?_)
    refine g_goto (tgt := 29) dX11_readNumber_24 (by decide) ?_
    refine G.lsub [0] rfl ?_
    exact ok_J_X11_readNumber_29 Θ x3 x7 l1 a4 _ _ r h
def J_X11_deedsTold_106 (Θ : GP) (s0 : Int32) (ω : OW) (n : Nat) : RO := some (.inl (some (.int s0), ω, n))
def J_X11_deedsTold_97 (Θ : GP) (l1 : Int32) (l2 : Int32) (ω : OW) (n : Nat) : RO := if l2 = 0 then (J_X11_deedsTold_106 Θ (-1) ω n) else (J_X11_deedsTold_106 Θ l1 ω n)
def J_X11_deedsTold_89 (Θ : GP) (k_28 : Nat → Int32 → Int32 → Int32 → OW → Nat → RO) (l0 : Nat) (l2 : Int32) (l3 : Int32) (s0 : Int32) (s1 : Int32) (ω : OW) (n : Nat) : RO := k_28 l0 (s1 ||| s0) l2 (l3 + 1) ω n
def J_X11_deedsTold_75 (Θ : GP) (k_28 : Nat → Int32 → Int32 → Int32 → OW → Nat → RO) (l0 : Nat) (l1 : Int32) (l3 : Int32) (l4 : Int32) (s0 : Int32) (ω : OW) (n : Nat) : RO := if s0 = 0 then (J_X11_deedsTold_89 Θ k_28 l0 s0 l3 0 l1 ω n) else (J_X11_deedsTold_89 Θ k_28 l0 s0 l3 (1 <<< ((l4 : Int32) &&& 31)) l1 ω n)
def J_X11_deedsTold_74 (Θ : GP) (k_28 : Nat → Int32 → Int32 → Int32 → OW → Nat → RO) (l0 : Nat) (l1 : Int32) (l3 : Int32) (l4 : Int32) (ω : OW) (n : Nat) : RO := J_X11_deedsTold_75 Θ k_28 l0 l1 l3 l4 0 ω n
def B_X11_deedsTold_28 (Θ : GP) (k_28 : Nat → Int32 → Int32 → Int32 → OW → Nat → RO) (l0 : Nat) (l1 : Int32) (l2 : Int32) (l3 : Int32) (ω : OW) (n : Nat) : RO := rI ω l0 11 10 (fun x3 => if x3 ≤ l3 then (J_X11_deedsTold_97 Θ l1 l2 ω n) else (if l2 = 0 then (J_X11_deedsTold_97 Θ l1 l2 ω n) else (rA ω l0 11 8 (fun a6 => lI ω (gB Θ) a6 l3 (fun x7 => kI (F_X11_in Θ (x7 - 97) 0 5 ω n) (fun x8 ω n => if x8 = 0 then (J_X11_deedsTold_74 Θ k_28 l0 l1 l3 (x7 - 97) ω n) else (kI (F_X11_has Θ l1 (x7 - 97) ω n) (fun x10 ω n => if x10 = 0 then (J_X11_deedsTold_75 Θ k_28 l0 l1 l3 (x7 - 97) 1 ω n) else (J_X11_deedsTold_74 Θ k_28 l0 l1 l3 (x7 - 97) ω n)))))))))
def L_X11_deedsTold_28 (Θ : GP) : Nat → Nat → Int32 → Int32 → Int32 → OW → Nat → RO
  | 0, _, _, _, _, _, _ => none
  | f + 1, l0, l1, l2, l3, ω, n => B_X11_deedsTold_28 Θ (L_X11_deedsTold_28 Θ f) l0 l1 l2 l3 ω n
def J_X11_deedsTold_22 (Θ : GP) (l0 : Nat) (l1 : Int32) (s0 : Int32) (ω : OW) (n : Nat) : RO := rI ω l0 11 12 (fun x12 => L_X11_deedsTold_28 Θ 5000 l0 l1 s0 x12 ω n)
def F_X11_deedsTold (Θ : GP) (l0 : Nat) (ω : OW) (n : Nat) : RO := cO ω l0 11 (kV (F_X11_letters Θ l0 ω n) (fun ω n => rI ω l0 11 10 (fun x14 => rI ω l0 11 12 (fun x15 => if x14 ≤ x15 then (J_X11_deedsTold_22 Θ l0 0 0 ω n) else (J_X11_deedsTold_22 Θ l0 0 1 ω n)))))
theorem ok_J_X11_deedsTold_106 (Θ : GP) (s0 : Int32) (ω : OW) (n : Nat) (r : Out) (h : J_X11_deedsTold_106 Θ s0 ω n = some r) : GR Θ yX11_deedsTold cX11_deedsTold 5 (some .int) 4 (0, 0) 106 [] [.int s0] ω n r := by
  unfold J_X11_deedsTold_106 at h
  cases h
  exact g_iret rfl dX11_deedsTold_106 rfl
theorem ok_J_X11_deedsTold_97 (Θ : GP) (l1 : Int32) (l2 : Int32) (ω : OW) (n : Nat) (r : Out) (h : J_X11_deedsTold_97 Θ l1 l2 ω n = some r) : GR Θ yX11_deedsTold cX11_deedsTold 5 (some .int) 4 (0, 0) 97 [(1, .int l1), (2, .int l2)] [] ω n r := by
  unfold J_X11_deedsTold_97 at h
  refine g_iload_n dX11_deedsTold_97 rfl 1 rfl ?_
  refine g_if_eq (tgt := 105) dX11_deedsTold_98 (by decide) (fun c1 => ?_) (fun c1 => ?_)
  · rw [if_pos c1] at h
    refine g_iconst (v := (-1)) dX11_deedsTold_105 (by decide) ?_
    refine G.lsub [] rfl ?_
    exact ok_J_X11_deedsTold_106 Θ (-1) _ _ r h
  · rw [if_neg c1] at h
    refine g_iload_n dX11_deedsTold_101 rfl 0 rfl ?_
    refine g_goto (tgt := 106) dX11_deedsTold_102 (by decide) ?_
    refine G.lsub [] rfl ?_
    exact ok_J_X11_deedsTold_106 Θ l1 _ _ r h
theorem ok_J_X11_deedsTold_89 (Θ : GP) (k_28 : Nat → Int32 → Int32 → Int32 → OW → Nat → RO) (hk_28 : ∀ l0 l1 l2 l3 ω n r, k_28 l0 l1 l2 l3 ω n = some r → GR Θ yX11_deedsTold cX11_deedsTold 5 (some .int) 4 (0, 0) 28 [(0, .ref l0), (1, .int l1), (2, .int l2), (3, .int l3)] [] ω n r) (l0 : Nat) (l2 : Int32) (l3 : Int32) (s0 : Int32) (s1 : Int32) (ω : OW) (n : Nat) (r : Out) (h : J_X11_deedsTold_89 Θ k_28 l0 l2 l3 s0 s1 ω n = some r) : GR Θ yX11_deedsTold cX11_deedsTold 5 (some .int) 4 (0, 0) 89 [(0, .ref l0), (2, .int l2), (3, .int l3)] [.int s0, .int s1] ω n r := by
  unfold J_X11_deedsTold_89 at h
  refine g_ior dX11_deedsTold_89 ?_
  refine g_istore_n (lv' := [(1, .int (s1 ||| s0)), (0, .ref l0), (2, .int l2), (3, .int l3)]) dX11_deedsTold_90 rfl (by decide) rfl ?_
  refine g_iinc (j := 3) (v := l3 + 1) (lv' := [(3, .int (l3 + 1)), (1, .int (s1 ||| s0)), (0, .ref l0), (2, .int l2)]) dX11_deedsTold_91 rfl rfl (by decide) rfl ?_
  refine g_goto (tgt := 28) dX11_deedsTold_94 (by decide) ?_
  refine G.lsub [2, 1, 3, 0] rfl ?_
  exact hk_28 l0 (s1 ||| s0) l2 (l3 + 1) _ _ r h
theorem ok_J_X11_deedsTold_75 (Θ : GP) (k_28 : Nat → Int32 → Int32 → Int32 → OW → Nat → RO) (hk_28 : ∀ l0 l1 l2 l3 ω n r, k_28 l0 l1 l2 l3 ω n = some r → GR Θ yX11_deedsTold cX11_deedsTold 5 (some .int) 4 (0, 0) 28 [(0, .ref l0), (1, .int l1), (2, .int l2), (3, .int l3)] [] ω n r) (l0 : Nat) (l1 : Int32) (l3 : Int32) (l4 : Int32) (s0 : Int32) (ω : OW) (n : Nat) (r : Out) (h : J_X11_deedsTold_75 Θ k_28 l0 l1 l3 l4 s0 ω n = some r) : GR Θ yX11_deedsTold cX11_deedsTold 5 (some .int) 4 (0, 0) 75 [(0, .ref l0), (1, .int l1), (3, .int l3), (4, .int l4)] [.int s0] ω n r := by
  unfold J_X11_deedsTold_75 at h
  refine g_istore_n (lv' := [(2, .int s0), (0, .ref l0), (1, .int l1), (3, .int l3), (4, .int l4)]) dX11_deedsTold_75 rfl (by decide) rfl ?_
  refine g_iload_n dX11_deedsTold_76 rfl 2 rfl ?_
  refine g_iload_n dX11_deedsTold_77 rfl 0 rfl ?_
  refine g_if_eq (tgt := 88) dX11_deedsTold_78 (by decide) (fun c2 => ?_) (fun c2 => ?_)
  · rw [if_pos c2] at h
    refine g_iconst (v := 0) dX11_deedsTold_88 (by decide) ?_
    refine G.lsub [1, 0, 3] rfl ?_
    exact ok_J_X11_deedsTold_89 Θ k_28 hk_28 l0 s0 l3 0 l1 _ _ r h
  · rw [if_neg c2] at h
    refine g_iconst (v := 1) dX11_deedsTold_81 (by decide) ?_
    refine g_iload dX11_deedsTold_82 4 rfl ?_
    refine g_ishl dX11_deedsTold_84 ?_
    refine g_goto (tgt := 89) dX11_deedsTold_85 (by decide) ?_
    refine G.lsub [1, 0, 3] rfl ?_
    exact ok_J_X11_deedsTold_89 Θ k_28 hk_28 l0 s0 l3 (1 <<< ((l4 : Int32) &&& 31)) l1 _ _ r h
theorem ok_J_X11_deedsTold_74 (Θ : GP) (k_28 : Nat → Int32 → Int32 → Int32 → OW → Nat → RO) (hk_28 : ∀ l0 l1 l2 l3 ω n r, k_28 l0 l1 l2 l3 ω n = some r → GR Θ yX11_deedsTold cX11_deedsTold 5 (some .int) 4 (0, 0) 28 [(0, .ref l0), (1, .int l1), (2, .int l2), (3, .int l3)] [] ω n r) (l0 : Nat) (l1 : Int32) (l3 : Int32) (l4 : Int32) (ω : OW) (n : Nat) (r : Out) (h : J_X11_deedsTold_74 Θ k_28 l0 l1 l3 l4 ω n = some r) : GR Θ yX11_deedsTold cX11_deedsTold 5 (some .int) 4 (0, 0) 74 [(0, .ref l0), (1, .int l1), (3, .int l3), (4, .int l4)] [] ω n r := by
  unfold J_X11_deedsTold_74 at h
  refine g_iconst (v := 0) dX11_deedsTold_74 (by decide) ?_
  exact ok_J_X11_deedsTold_75 Θ k_28 hk_28 l0 l1 l3 l4 0 _ _ r h
theorem ok_B_X11_deedsTold_28 (Θ : GP) (k_28 : Nat → Int32 → Int32 → Int32 → OW → Nat → RO) (hk_28 : ∀ l0 l1 l2 l3 ω n r, k_28 l0 l1 l2 l3 ω n = some r → GR Θ yX11_deedsTold cX11_deedsTold 5 (some .int) 4 (0, 0) 28 [(0, .ref l0), (1, .int l1), (2, .int l2), (3, .int l3)] [] ω n r) (l0 : Nat) (l1 : Int32) (l2 : Int32) (l3 : Int32) (ω : OW) (n : Nat) (r : Out) (h : B_X11_deedsTold_28 Θ k_28 l0 l1 l2 l3 ω n = some r) : GR Θ yX11_deedsTold cX11_deedsTold 5 (some .int) 4 (0, 0) 28 [(0, .ref l0), (1, .int l1), (2, .int l2), (3, .int l3)] [] ω n r := by
  unfold B_X11_deedsTold_28 at h
  refine g_iload_n dX11_deedsTold_28 rfl 3 rfl ?_
  refine g_aload_n dX11_deedsTold_29 rfl 0 rfl ?_
  refine g_rI fl_X11_102 dX11_deedsTold_30 h (fun x3 h => ?_)
  refine g_icmp_ge (tgt := 97) dX11_deedsTold_33 (by decide) (fun c4 => ?_) (fun c4 => ?_)
  · rw [if_pos c4] at h
    refine G.lsub [1, 2] rfl ?_
    exact ok_J_X11_deedsTold_97 Θ l1 l2 _ _ r h
  · rw [if_neg c4] at h
    refine g_iload_n dX11_deedsTold_36 rfl 2 rfl ?_
    refine g_if_eq (tgt := 97) dX11_deedsTold_37 (by decide) (fun c5 => ?_) (fun c5 => ?_)
    · rw [if_pos c5] at h
      refine G.lsub [1, 2] rfl ?_
      exact ok_J_X11_deedsTold_97 Θ l1 l2 _ _ r h
    · rw [if_neg c5] at h
      refine g_aload_n dX11_deedsTold_40 rfl 0 rfl ?_
      refine g_rA fl_X11_29 dX11_deedsTold_41 h (fun a6 h => ?_)
      refine g_iload_n dX11_deedsTold_44 rfl 3 rfl ?_
      refine g_lIb dX11_deedsTold_45 h (fun x7 h => ?_)
      refine g_bipush (v := 97) dX11_deedsTold_46 (by decide) ?_
      refine g_isub dX11_deedsTold_48 ?_
      refine g_istore (lv' := [(4, .int (x7 - 97)), (0, .ref l0), (1, .int l1), (2, .int l2), (3, .int l3)]) dX11_deedsTold_49 (by decide) rfl ?_
      refine g_iload dX11_deedsTold_51 0 rfl ?_
      refine g_iconst (v := 0) dX11_deedsTold_53 (by decide) ?_
      refine g_iconst (v := 5) dX11_deedsTold_54 (by decide) ?_
      refine g_sI (As := [.int (x7 - 97), .int 0, .int 5]) ms_X11_87 dX11_deedsTold_55 (ok_X11_in Θ (x7 - 97) 0 5 _ _) rfl rfl (Nat.le_of_ble_eq_true rfl) (by decide) (by decide) (by decide) h (fun x8 ω n h => ?_)
      refine G.less (B' := (0, 0)) (by decide) (by decide) ?_
      refine g_if_eq (tgt := 74) dX11_deedsTold_58 (by decide) (fun c9 => ?_) (fun c9 => ?_)
      · rw [if_pos c9] at h
        refine G.lsub [1, 2, 4, 0] rfl ?_
        exact ok_J_X11_deedsTold_74 Θ k_28 hk_28 l0 l1 l3 (x7 - 97) _ _ r h
      · rw [if_neg c9] at h
        refine g_iload_n dX11_deedsTold_61 rfl 2 rfl ?_
        refine g_iload dX11_deedsTold_62 0 rfl ?_
        refine g_sI (As := [.int l1, .int (x7 - 97)]) ms_X11_137 dX11_deedsTold_64 (ok_X11_has Θ l1 (x7 - 97) _ _) rfl rfl (Nat.le_of_ble_eq_true rfl) (by decide) (by decide) (by decide) h (fun x10 ω n h => ?_)
        refine G.less (B' := (0, 0)) (by decide) (by decide) ?_
        refine g_if_ne (tgt := 74) dX11_deedsTold_67 (by decide) (fun c11 => ?_) (fun c11 => ?_)
        · rw [if_neg c11] at h
          refine G.lsub [1, 2, 4, 0] rfl ?_
          exact ok_J_X11_deedsTold_74 Θ k_28 hk_28 l0 l1 l3 (x7 - 97) _ _ r h
        · rw [if_pos c11] at h
          refine g_iconst (v := 1) dX11_deedsTold_70 (by decide) ?_
          refine g_goto (tgt := 75) dX11_deedsTold_71 (by decide) ?_
          refine G.lsub [1, 2, 4, 0] rfl ?_
          exact ok_J_X11_deedsTold_75 Θ k_28 hk_28 l0 l1 l3 (x7 - 97) 1 _ _ r h
theorem ok_L_X11_deedsTold_28 (Θ : GP) : ∀ (f : Nat) (l0 : Nat) (l1 : Int32) (l2 : Int32) (l3 : Int32) (ω : OW) (n : Nat) (r : Out), L_X11_deedsTold_28 Θ f l0 l1 l2 l3 ω n = some r → GR Θ yX11_deedsTold cX11_deedsTold 5 (some .int) 4 (0, 0) 28 [(0, .ref l0), (1, .int l1), (2, .int l2), (3, .int l3)] [] ω n r := by
  intro f
  induction f with
  | zero =>
    intro l0 l1 l2 l3 ω n r h
    unfold L_X11_deedsTold_28 at h
    cases h
  | succ f ih =>
    intro l0 l1 l2 l3 ω n r h
    unfold L_X11_deedsTold_28 at h
    exact ok_B_X11_deedsTold_28 Θ (L_X11_deedsTold_28 Θ f) ih l0 l1 l2 l3 ω n r h
theorem ok_J_X11_deedsTold_22 (Θ : GP) (l0 : Nat) (l1 : Int32) (s0 : Int32) (ω : OW) (n : Nat) (r : Out) (h : J_X11_deedsTold_22 Θ l0 l1 s0 ω n = some r) : GR Θ yX11_deedsTold cX11_deedsTold 5 (some .int) 4 (0, 0) 22 [(0, .ref l0), (1, .int l1)] [.int s0] ω n r := by
  unfold J_X11_deedsTold_22 at h
  refine g_istore_n (lv' := [(2, .int s0), (0, .ref l0), (1, .int l1)]) dX11_deedsTold_22 rfl (by decide) rfl ?_
  refine g_aload_n dX11_deedsTold_23 rfl 1 rfl ?_
  refine g_rI fl_X11_112 dX11_deedsTold_24 h (fun x12 h => ?_)
  refine g_istore_n (lv' := [(3, .int x12), (2, .int s0), (0, .ref l0), (1, .int l1)]) dX11_deedsTold_27 rfl (by decide) rfl ?_
  refine G.lsub [2, 3, 1, 0] rfl ?_
  exact ok_L_X11_deedsTold_28 Θ 5000 l0 l1 s0 x12 _ _ r h
theorem ok_X11_deedsTold (Θ : GP) (l0 : Nat) (ω : OW) (n : Nat) : Ok Θ 4 0 0 yX11_deedsTold cX11_deedsTold 5 (some .int) [.ref l0] ω n (F_X11_deedsTold Θ l0 ω n) := by
  refine Ok.of (by decide +kernel) (Nat.le_of_ble_eq_true rfl) (fun r h => ?_)
  unfold F_X11_deedsTold at h
  show GR Θ yX11_deedsTold cX11_deedsTold 5 (some .int) 4 (0, 0) 0 [(0, .ref l0)] [] ω n r
  refine g_aload_n dX11_deedsTold_0 rfl 0 rfl ?_
  refine g_cV (ci := 11) (As := []) mv_X11_127 dX11_deedsTold_1 rfl (ok_X11_letters Θ l0 _ _) rfl rfl (Nat.le_of_ble_eq_true rfl) (by decide) (by decide) (by decide) h (fun ω n h => ?_)
  refine G.less (B' := (0, 0)) (by decide) (by decide) ?_
  refine g_iconst (v := 0) dX11_deedsTold_4 (by decide) ?_
  refine g_istore_n (lv' := [(1, .int 0), (0, .ref l0)]) dX11_deedsTold_5 rfl (by decide) rfl ?_
  refine g_aload_n dX11_deedsTold_6 rfl 1 rfl ?_
  refine g_rI fl_X11_102 dX11_deedsTold_7 h (fun x14 h => ?_)
  refine g_aload_n dX11_deedsTold_10 rfl 1 rfl ?_
  refine g_rI fl_X11_112 dX11_deedsTold_11 h (fun x15 h => ?_)
  refine g_icmp_le (tgt := 21) dX11_deedsTold_14 (by decide) (fun c16 => ?_) (fun c16 => ?_)
  · rw [if_pos c16] at h
    refine g_iconst (v := 0) dX11_deedsTold_21 (by decide) ?_
    refine G.lsub [1, 0] rfl ?_
    exact ok_J_X11_deedsTold_22 Θ l0 0 0 _ _ r h
  · rw [if_neg c16] at h
    refine g_iconst (v := 1) dX11_deedsTold_17 (by decide) ?_
    refine g_goto (tgt := 22) dX11_deedsTold_18 (by decide) ?_
    refine G.lsub [1, 0] rfl ?_
    exact ok_J_X11_deedsTold_22 Θ l0 0 1 _ _ r h
def F_X11_emits (Θ : GP) (l0 : Nat) (l1 : Int32) (l2 : Int32) (ω : OW) (n : Nat) : RO := rA ω l0 11 1 (fun a1 => rI ω l0 11 16 (fun x2 => sI ω (gI Θ) a1 (1203 + (2 * x2)) l1 (fun ω => rA ω l0 11 1 (fun a3 => rI ω l0 11 16 (fun x4 => sI ω (gI Θ) a3 ((1203 + (2 * x4)) + 1) l2 (fun ω => rI ω l0 11 16 (fun x5 => wF ω l0 11 16 (.int (x5 + 1)) (fun ω => some (.inl (none, ω, n))))))))))
theorem ok_X11_emits (Θ : GP) (l0 : Nat) (l1 : Int32) (l2 : Int32) (ω : OW) (n : Nat) : Ok Θ 1 0 0 yX11_emits cX11_emits 3 (none : Option Jvm.ClassFile.FieldType) [.ref l0, .int l1, .int l2] ω n (F_X11_emits Θ l0 l1 l2 ω n) := by
  refine Ok.of (by decide +kernel) (Nat.le_of_ble_eq_true rfl) (fun r h => ?_)
  unfold F_X11_emits at h
  show GR Θ yX11_emits cX11_emits 3 (none : Option Jvm.ClassFile.FieldType) 1 (0, 0) 0 [(0, .ref l0), (1, .int l1), (2, .int l2)] [] ω n r
  refine g_aload_n dX11_emits_0 rfl 0 rfl ?_
  refine g_rA fl_X11_13 dX11_emits_1 h (fun a1 h => ?_)
  refine g_sipush (v := 1203) dX11_emits_4 (by decide) ?_
  refine g_iconst (v := 2) dX11_emits_7 (by decide) ?_
  refine g_aload_n dX11_emits_8 rfl 0 rfl ?_
  refine g_rI fl_X11_194 dX11_emits_9 h (fun x2 h => ?_)
  refine g_imul dX11_emits_12 ?_
  refine g_iadd dX11_emits_13 ?_
  refine g_iload_n dX11_emits_14 rfl 1 rfl ?_
  refine g_sIi dX11_emits_15 h (fun ω h => ?_)
  refine g_aload_n dX11_emits_16 rfl 0 rfl ?_
  refine g_rA fl_X11_13 dX11_emits_17 h (fun a3 h => ?_)
  refine g_sipush (v := 1203) dX11_emits_20 (by decide) ?_
  refine g_iconst (v := 2) dX11_emits_23 (by decide) ?_
  refine g_aload_n dX11_emits_24 rfl 0 rfl ?_
  refine g_rI fl_X11_194 dX11_emits_25 h (fun x4 h => ?_)
  refine g_imul dX11_emits_28 ?_
  refine g_iadd dX11_emits_29 ?_
  refine g_iconst (v := 1) dX11_emits_30 (by decide) ?_
  refine g_iadd dX11_emits_31 ?_
  refine g_iload_n dX11_emits_32 rfl 2 rfl ?_
  refine g_sIi dX11_emits_33 h (fun ω h => ?_)
  refine g_aload_n dX11_emits_34 rfl 0 rfl ?_
  refine g_dup dX11_emits_35 rfl ?_
  refine g_rI fl_X11_194 dX11_emits_36 h (fun x5 h => ?_)
  refine g_iconst (v := 1) dX11_emits_39 (by decide) ?_
  refine g_iadd dX11_emits_40 ?_
  refine g_wF fl_X11_194 dX11_emits_41 (rfl) rfl h (fun ω h => ?_)
  cases h
  exact g_vret rfl dX11_emits_44 rfl
def F_X11_looksAt (Θ : GP) (l0 : Nat) (l1 : Int32) (ω : OW) (n : Nat) : RO := cO ω l0 11 (kI (F_X11_of Θ l0 l1 0 ω n) (fun x1 ω n => wF ω l0 11 18 (.int x1) (fun ω => cO ω l0 11 (kI (F_X11_of Θ l0 l1 1 ω n) (fun x2 ω n => wF ω l0 11 19 (.int x2) (fun ω => cO ω l0 11 (kI (F_X11_of Θ l0 l1 2 ω n) (fun x3 ω n => wF ω l0 11 20 (.int x3) (fun ω => some (.inl (none, ω, n)))))))))))
theorem ok_X11_looksAt (Θ : GP) (l0 : Nat) (l1 : Int32) (ω : OW) (n : Nat) : Ok Θ 3 0 0 yX11_looksAt cX11_looksAt 2 (none : Option Jvm.ClassFile.FieldType) [.ref l0, .int l1] ω n (F_X11_looksAt Θ l0 l1 ω n) := by
  refine Ok.of (by decide +kernel) (Nat.le_of_ble_eq_true rfl) (fun r h => ?_)
  unfold F_X11_looksAt at h
  show GR Θ yX11_looksAt cX11_looksAt 2 (none : Option Jvm.ClassFile.FieldType) 3 (0, 0) 0 [(0, .ref l0), (1, .int l1)] [] ω n r
  refine g_aload_n dX11_looksAt_0 rfl 0 rfl ?_
  refine g_aload_n dX11_looksAt_1 rfl 0 rfl ?_
  refine g_iload_n dX11_looksAt_2 rfl 1 rfl ?_
  refine g_iconst (v := 0) dX11_looksAt_3 (by decide) ?_
  refine g_cI (ci := 11) (As := [.int l1, .int 0]) mv_X11_80 dX11_looksAt_4 rfl (ok_X11_of Θ l0 l1 0 _ _) rfl rfl (Nat.le_of_ble_eq_true rfl) (by decide) (by decide) (by decide) h (fun x1 ω n h => ?_)
  refine G.less (B' := (0, 0)) (by decide) (by decide) ?_
  refine g_wF fl_X11_265 dX11_looksAt_7 (rfl) rfl h (fun ω h => ?_)
  refine g_aload_n dX11_looksAt_10 rfl 0 rfl ?_
  refine g_aload_n dX11_looksAt_11 rfl 0 rfl ?_
  refine g_iload_n dX11_looksAt_12 rfl 1 rfl ?_
  refine g_iconst (v := 1) dX11_looksAt_13 (by decide) ?_
  refine g_cI (ci := 11) (As := [.int l1, .int 1]) mv_X11_80 dX11_looksAt_14 rfl (ok_X11_of Θ l0 l1 1 _ _) rfl rfl (Nat.le_of_ble_eq_true rfl) (by decide) (by decide) (by decide) h (fun x2 ω n h => ?_)
  refine G.less (B' := (0, 0)) (by decide) (by decide) ?_
  refine g_wF fl_X11_268 dX11_looksAt_17 (rfl) rfl h (fun ω h => ?_)
  refine g_aload_n dX11_looksAt_20 rfl 0 rfl ?_
  refine g_aload_n dX11_looksAt_21 rfl 0 rfl ?_
  refine g_iload_n dX11_looksAt_22 rfl 1 rfl ?_
  refine g_iconst (v := 2) dX11_looksAt_23 (by decide) ?_
  refine g_cI (ci := 11) (As := [.int l1, .int 2]) mv_X11_80 dX11_looksAt_24 rfl (ok_X11_of Θ l0 l1 2 _ _) rfl rfl (Nat.le_of_ble_eq_true rfl) (by decide) (by decide) (by decide) h (fun x3 ω n h => ?_)
  refine G.less (B' := (0, 0)) (by decide) (by decide) ?_
  refine g_wF fl_X11_271 dX11_looksAt_27 (rfl) rfl h (fun ω h => ?_)
  cases h
  exact g_vret rfl dX11_looksAt_30 rfl
def J_X11_factOf_137 (Θ : GP) (s0 : Int32) (ω : OW) (n : Nat) : RO := some (.inl (some (.int s0), ω, n))
def J_X11_factOf_112 (Θ : GP) (s0 : Int32) (ω : OW) (n : Nat) : RO := some (.inl (some (.int s0), ω, n))
def F_X11_factOf (Θ : GP) (l0 : Nat) (l1 : Int32) (l2 : Int32) (ω : OW) (n : Nat) : RO := if l1 = 0 then (rI ω l0 11 21 (fun x1 => some (.inl (some (.int x1), ω, n)))) else (if l1 = 1 then (rI ω l0 11 21 (fun x2 => cO ω l0 11 (kI (F_X11_ofProp Θ l0 x2 3 ω n) (fun x3 ω n => some (.inl (some (.int x3), ω, n)))))) else (if l1 = 2 then (rI ω l0 11 21 (fun x4 => cO ω l0 11 (kI (F_X11_ofProp Θ l0 x4 1 ω n) (fun x5 ω n => some (.inl (some (.int x5), ω, n)))))) else (if l1 = 3 then (rI ω l0 11 21 (fun x6 => cO ω l0 11 (kI (F_X11_ofProp Θ l0 x6 2 ω n) (fun x7 ω n => some (.inl (some (.int x7), ω, n)))))) else (if l1 = 4 then (rI ω l0 11 22 (fun x8 => some (.inl (some (.int x8), ω, n)))) else (if l1 = 5 then (rI ω l0 11 19 (fun x9 => some (.inl (some (.int x9), ω, n)))) else (if l1 = 6 then (rI ω l0 11 20 (fun x10 => rI ω l0 11 21 (fun x11 => kI (F_X11_has Θ x10 x11 ω n) (fun x12 ω n => if x12 = 0 then (J_X11_factOf_112 Θ 0 ω n) else (J_X11_factOf_112 Θ 1 ω n))))) else (if l1 = 7 then (rI ω l0 11 18 (fun x14 => rI ω l0 11 21 (fun x15 => cO ω l0 11 (kI (F_X11_ofProp Θ l0 x15 0 ω n) (fun x16 ω n => kI (F_X11_has Θ x14 x16 ω n) (fun x17 ω n => if x17 = 0 then (J_X11_factOf_137 Θ 0 ω n) else (J_X11_factOf_137 Θ 1 ω n))))))) else (some (.inl (some (.int l2), ω, n))))))))))
theorem ok_J_X11_factOf_137 (Θ : GP) (s0 : Int32) (ω : OW) (n : Nat) (r : Out) (h : J_X11_factOf_137 Θ s0 ω n = some r) : GR Θ yX11_factOf cX11_factOf 3 (some .int) 3 (0, 0) 137 [] [.int s0] ω n r := by
  unfold J_X11_factOf_137 at h
  cases h
  exact g_iret rfl dX11_factOf_137 rfl
theorem ok_J_X11_factOf_112 (Θ : GP) (s0 : Int32) (ω : OW) (n : Nat) (r : Out) (h : J_X11_factOf_112 Θ s0 ω n = some r) : GR Θ yX11_factOf cX11_factOf 3 (some .int) 3 (0, 0) 112 [] [.int s0] ω n r := by
  unfold J_X11_factOf_112 at h
  cases h
  exact g_iret rfl dX11_factOf_112 rfl
theorem ok_X11_factOf (Θ : GP) (l0 : Nat) (l1 : Int32) (l2 : Int32) (ω : OW) (n : Nat) : Ok Θ 3 0 0 yX11_factOf cX11_factOf 3 (some .int) [.ref l0, .int l1, .int l2] ω n (F_X11_factOf Θ l0 l1 l2 ω n) := by
  refine Ok.of (by decide +kernel) (Nat.le_of_ble_eq_true rfl) (fun r h => ?_)
  unfold F_X11_factOf at h
  show GR Θ yX11_factOf cX11_factOf 3 (some .int) 3 (0, 0) 0 [(0, .ref l0), (1, .int l1), (2, .int l2)] [] ω n r
  refine g_iload_n dX11_factOf_0 rfl 1 rfl ?_
  by_cases c19_0 : l1 = 0
  · rw [if_pos c19_0] at h
    refine g_tableIn (off := 47) (tgt := 48) dX11_factOf_1 (by rw [c19_0]; decide) (by rw [c19_0]; decide) (by rw [c19_0]; decide) (by decide) ?_
    refine g_aload_n dX11_factOf_48 rfl 0 rfl ?_
    refine g_rI fl_X11_274 dX11_factOf_49 h (fun x1 h => ?_)
    cases h
    exact g_iret rfl dX11_factOf_52 rfl
  rw [if_neg c19_0] at h
  by_cases c19_1 : l1 = 1
  · rw [if_pos c19_1] at h
    refine g_tableIn (off := 52) (tgt := 53) dX11_factOf_1 (by rw [c19_1]; decide) (by rw [c19_1]; decide) (by rw [c19_1]; decide) (by decide) ?_
    refine g_aload_n dX11_factOf_53 rfl 0 rfl ?_
    refine g_aload_n dX11_factOf_54 rfl 0 rfl ?_
    refine g_rI fl_X11_274 dX11_factOf_55 h (fun x2 h => ?_)
    refine g_iconst (v := 3) dX11_factOf_58 (by decide) ?_
    refine g_cI (ci := 11) (As := [.int x2, .int 3]) mv_X11_74 dX11_factOf_59 rfl (ok_X11_ofProp Θ l0 x2 3 _ _) rfl rfl (Nat.le_of_ble_eq_true rfl) (by decide) (by decide) (by decide) h (fun x3 ω n h => ?_)
    refine G.less (B' := (0, 0)) (by decide) (by decide) ?_
    cases h
    exact g_iret rfl dX11_factOf_62 rfl
  rw [if_neg c19_1] at h
  by_cases c19_2 : l1 = 2
  · rw [if_pos c19_2] at h
    refine g_tableIn (off := 62) (tgt := 63) dX11_factOf_1 (by rw [c19_2]; decide) (by rw [c19_2]; decide) (by rw [c19_2]; decide) (by decide) ?_
    refine g_aload_n dX11_factOf_63 rfl 0 rfl ?_
    refine g_aload_n dX11_factOf_64 rfl 0 rfl ?_
    refine g_rI fl_X11_274 dX11_factOf_65 h (fun x4 h => ?_)
    refine g_iconst (v := 1) dX11_factOf_68 (by decide) ?_
    refine g_cI (ci := 11) (As := [.int x4, .int 1]) mv_X11_74 dX11_factOf_69 rfl (ok_X11_ofProp Θ l0 x4 1 _ _) rfl rfl (Nat.le_of_ble_eq_true rfl) (by decide) (by decide) (by decide) h (fun x5 ω n h => ?_)
    refine G.less (B' := (0, 0)) (by decide) (by decide) ?_
    cases h
    exact g_iret rfl dX11_factOf_72 rfl
  rw [if_neg c19_2] at h
  by_cases c19_3 : l1 = 3
  · rw [if_pos c19_3] at h
    refine g_tableIn (off := 72) (tgt := 73) dX11_factOf_1 (by rw [c19_3]; decide) (by rw [c19_3]; decide) (by rw [c19_3]; decide) (by decide) ?_
    refine g_aload_n dX11_factOf_73 rfl 0 rfl ?_
    refine g_aload_n dX11_factOf_74 rfl 0 rfl ?_
    refine g_rI fl_X11_274 dX11_factOf_75 h (fun x6 h => ?_)
    refine g_iconst (v := 2) dX11_factOf_78 (by decide) ?_
    refine g_cI (ci := 11) (As := [.int x6, .int 2]) mv_X11_74 dX11_factOf_79 rfl (ok_X11_ofProp Θ l0 x6 2 _ _) rfl rfl (Nat.le_of_ble_eq_true rfl) (by decide) (by decide) (by decide) h (fun x7 ω n h => ?_)
    refine G.less (B' := (0, 0)) (by decide) (by decide) ?_
    cases h
    exact g_iret rfl dX11_factOf_82 rfl
  rw [if_neg c19_3] at h
  by_cases c19_4 : l1 = 4
  · rw [if_pos c19_4] at h
    refine g_tableIn (off := 82) (tgt := 83) dX11_factOf_1 (by rw [c19_4]; decide) (by rw [c19_4]; decide) (by rw [c19_4]; decide) (by decide) ?_
    refine g_aload_n dX11_factOf_83 rfl 0 rfl ?_
    refine g_rI fl_X11_277 dX11_factOf_84 h (fun x8 h => ?_)
    cases h
    exact g_iret rfl dX11_factOf_87 rfl
  rw [if_neg c19_4] at h
  by_cases c19_5 : l1 = 5
  · rw [if_pos c19_5] at h
    refine g_tableIn (off := 87) (tgt := 88) dX11_factOf_1 (by rw [c19_5]; decide) (by rw [c19_5]; decide) (by rw [c19_5]; decide) (by decide) ?_
    refine g_aload_n dX11_factOf_88 rfl 0 rfl ?_
    refine g_rI fl_X11_268 dX11_factOf_89 h (fun x9 h => ?_)
    cases h
    exact g_iret rfl dX11_factOf_92 rfl
  rw [if_neg c19_5] at h
  by_cases c19_6 : l1 = 6
  · rw [if_pos c19_6] at h
    refine g_tableIn (off := 92) (tgt := 93) dX11_factOf_1 (by rw [c19_6]; decide) (by rw [c19_6]; decide) (by rw [c19_6]; decide) (by decide) ?_
    refine g_aload_n dX11_factOf_93 rfl 0 rfl ?_
    refine g_rI fl_X11_271 dX11_factOf_94 h (fun x10 h => ?_)
    refine g_aload_n dX11_factOf_97 rfl 0 rfl ?_
    refine g_rI fl_X11_274 dX11_factOf_98 h (fun x11 h => ?_)
    refine g_sI (As := [.int x10, .int x11]) ms_X11_137 dX11_factOf_101 (ok_X11_has Θ x10 x11 _ _) rfl rfl (Nat.le_of_ble_eq_true rfl) (by decide) (by decide) (by decide) h (fun x12 ω n h => ?_)
    refine G.less (B' := (0, 0)) (by decide) (by decide) ?_
    refine g_if_eq (tgt := 111) dX11_factOf_104 (by decide) (fun c13 => ?_) (fun c13 => ?_)
    · rw [if_pos c13] at h
      refine g_iconst (v := 0) dX11_factOf_111 (by decide) ?_
      refine G.lsub [] rfl ?_
      exact ok_J_X11_factOf_112 Θ 0 _ _ r h
    · rw [if_neg c13] at h
      refine g_iconst (v := 1) dX11_factOf_107 (by decide) ?_
      refine g_goto (tgt := 112) dX11_factOf_108 (by decide) ?_
      refine G.lsub [] rfl ?_
      exact ok_J_X11_factOf_112 Θ 1 _ _ r h
  rw [if_neg c19_6] at h
  by_cases c19_7 : l1 = 7
  · rw [if_pos c19_7] at h
    refine g_tableIn (off := 112) (tgt := 113) dX11_factOf_1 (by rw [c19_7]; decide) (by rw [c19_7]; decide) (by rw [c19_7]; decide) (by decide) ?_
    refine g_aload_n dX11_factOf_113 rfl 0 rfl ?_
    refine g_rI fl_X11_265 dX11_factOf_114 h (fun x14 h => ?_)
    refine g_aload_n dX11_factOf_117 rfl 0 rfl ?_
    refine g_aload_n dX11_factOf_118 rfl 0 rfl ?_
    refine g_rI fl_X11_274 dX11_factOf_119 h (fun x15 h => ?_)
    refine g_iconst (v := 0) dX11_factOf_122 (by decide) ?_
    refine g_cI (ci := 11) (As := [.int x15, .int 0]) mv_X11_74 dX11_factOf_123 rfl (ok_X11_ofProp Θ l0 x15 0 _ _) rfl rfl (Nat.le_of_ble_eq_true rfl) (by decide) (by decide) (by decide) h (fun x16 ω n h => ?_)
    refine G.less (B' := (0, 0)) (by decide) (by decide) ?_
    refine g_sI (As := [.int x14, .int x16]) ms_X11_137 dX11_factOf_126 (ok_X11_has Θ x14 x16 _ _) rfl rfl (Nat.le_of_ble_eq_true rfl) (by decide) (by decide) (by decide) h (fun x17 ω n h => ?_)
    refine G.less (B' := (0, 0)) (by decide) (by decide) ?_
    refine g_if_eq (tgt := 136) dX11_factOf_129 (by decide) (fun c18 => ?_) (fun c18 => ?_)
    · rw [if_pos c18] at h
      refine g_iconst (v := 0) dX11_factOf_136 (by decide) ?_
      refine G.lsub [] rfl ?_
      exact ok_J_X11_factOf_137 Θ 0 _ _ r h
    · rw [if_neg c18] at h
      refine g_iconst (v := 1) dX11_factOf_132 (by decide) ?_
      refine g_goto (tgt := 137) dX11_factOf_133 (by decide) ?_
      refine G.lsub [] rfl ?_
      exact ok_J_X11_factOf_137 Θ 1 _ _ r h
  rw [if_neg c19_7] at h
  have qc19_0 := ne_toInt c19_0 (z := 0) (by decide)
  have qc19_1 := ne_toInt c19_1 (z := 1) (by decide)
  have qc19_2 := ne_toInt c19_2 (z := 2) (by decide)
  have qc19_3 := ne_toInt c19_3 (z := 3) (by decide)
  have qc19_4 := ne_toInt c19_4 (z := 4) (by decide)
  have qc19_5 := ne_toInt c19_5 (z := 5) (by decide)
  have qc19_6 := ne_toInt c19_6 (z := 6) (by decide)
  have qc19_7 := ne_toInt c19_7 (z := 7) (by decide)
  refine g_tableOut (tgt := 138) dX11_factOf_1 (by omega) (by decide) ?_
  refine g_iload_n dX11_factOf_138 rfl 2 rfl ?_
  cases h
  exact g_iret rfl dX11_factOf_139 rfl
def J_X11_holdsLine_278 (Θ : GP) (s0 : Int32) (ω : OW) (n : Nat) : RO := bz s0 (some (.inl (some (.int s0), ω, n)))
def J_X11_holdsLine_273 (Θ : GP) (ω : OW) (n : Nat) : RO := J_X11_holdsLine_278 Θ 1 ω n
def J_X11_holdsLine_253 (Θ : GP) (k_20 : Nat → Int32 → Int32 → Int32 → OW → Nat → RO) (l0 : Nat) (l2 : Int32) (l3 : Int32) (l4 : Int32) (ω : OW) (n : Nat) : RO := k_20 l0 l2 l3 (l4 + 1) ω n
def J_X11_holdsLine_252 (Θ : GP) (k_20 : Nat → Int32 → Int32 → Int32 → OW → Nat → RO) (l0 : Nat) (l2 : Int32) (l3 : Int32) (l4 : Int32) (s0 : Int32) (s1 : Int32) (s2 : Nat) (ω : OW) (n : Nat) : RO := sI ω (gI Θ) s2 s1 s0 (fun ω => J_X11_holdsLine_253 Θ k_20 l0 l2 l3 l4 ω n)
def J_X11_holdsLine_218 (Θ : GP) (k_20 : Nat → Int32 → Int32 → Int32 → OW → Nat → RO) (l0 : Nat) (l2 : Int32) (l3 : Int32) (l4 : Int32) (l5 : Int32) (l6 : Int32) (l7 : Int32) (s0 : Int32) (ω : OW) (n : Nat) : RO := rA ω l0 11 17 (fun a2 => if l5 = 9 then (J_X11_holdsLine_252 Θ k_20 l0 l2 l3 l4 (l6 + l7) (l2 - 1) a2 ω n) else (if s0 = 0 then (J_X11_holdsLine_252 Θ k_20 l0 l2 l3 l4 0 (l2 - 1) a2 ω n) else (J_X11_holdsLine_252 Θ k_20 l0 l2 l3 l4 1 (l2 - 1) a2 ω n)))
def B_X11_holdsLine_20 (Θ : GP) (k_20 : Nat → Int32 → Int32 → Int32 → OW → Nat → RO) (l0 : Nat) (l2 : Int32) (l3 : Int32) (l4 : Int32) (ω : OW) (n : Nat) : RO := rA ω l0 11 1 (fun a5 => lI ω (gI Θ) a5 (l3 + 3) (fun x6 => if x6 ≤ l4 then (if l2 = 0 then (J_X11_holdsLine_273 Θ ω n) else (rA ω l0 11 17 (fun a9 => lI ω (gI Θ) a9 0 (fun x10 => if x10 = 1 then (J_X11_holdsLine_273 Θ ω n) else (J_X11_holdsLine_278 Θ 0 ω n))))) else (rA ω l0 11 1 (fun a12 => lI ω (gI Θ) a12 (354 + (2 * l4)) (fun x13 => if 8 < x13 then (if x13 = 12 then (rA ω l0 11 17 (fun a27 => rA ω l0 11 17 (fun a28 => lI ω (gI Θ) a28 (l2 - 1) (fun x29 => sI ω (gI Θ) a27 (l2 - 1) (1 - x29) (fun ω => J_X11_holdsLine_253 Θ k_20 l0 l2 l3 l4 ω n))))) else (rA ω l0 11 17 (fun a16 => lI ω (gI Θ) a16 ((l2 + (-1)) - 1) (fun x17 => rA ω l0 11 17 (fun a18 => lI ω (gI Θ) a18 (l2 + (-1)) (fun x19 => if x13 = 10 then (if x19 ≤ x17 then (J_X11_holdsLine_218 Θ k_20 l0 (l2 + (-1)) l3 l4 x13 x17 x19 0 ω n) else (J_X11_holdsLine_218 Θ k_20 l0 (l2 + (-1)) l3 l4 x13 x17 x19 1 ω n)) else (if x13 = 11 then (if x17 ≤ x19 then (J_X11_holdsLine_218 Θ k_20 l0 (l2 + (-1)) l3 l4 x13 x17 x19 0 ω n) else (J_X11_holdsLine_218 Θ k_20 l0 (l2 + (-1)) l3 l4 x13 x17 x19 1 ω n)) else (if x13 = 13 then (if (x17 + x19) = 2 then (J_X11_holdsLine_218 Θ k_20 l0 (l2 + (-1)) l3 l4 x13 x17 x19 1 ω n) else (J_X11_holdsLine_218 Θ k_20 l0 (l2 + (-1)) l3 l4 x13 x17 x19 0 ω n)) else (if (x17 + x19) ≤ 0 then (J_X11_holdsLine_218 Θ k_20 l0 (l2 + (-1)) l3 l4 x13 x17 x19 0 ω n) else (J_X11_holdsLine_218 Θ k_20 l0 (l2 + (-1)) l3 l4 x13 x17 x19 1 ω n)))))))))) else (rA ω l0 11 17 (fun a30 => rA ω l0 11 1 (fun a31 => lI ω (gI Θ) a31 ((354 + (2 * l4)) + 1) (fun x32 => cO ω l0 11 (kI (F_X11_factOf Θ l0 x13 x32 ω n) (fun x33 ω n => sI ω (gI Θ) a30 l2 x33 (fun ω => J_X11_holdsLine_253 Θ k_20 l0 (l2 + 1) l3 l4 ω n))))))))))))
def L_X11_holdsLine_20 (Θ : GP) : Nat → Nat → Int32 → Int32 → Int32 → OW → Nat → RO
  | 0, _, _, _, _, _, _ => none
  | f + 1, l0, l2, l3, l4, ω, n => B_X11_holdsLine_20 Θ (L_X11_holdsLine_20 Θ f) l0 l2 l3 l4 ω n
def F_X11_holdsLine (Θ : GP) (l0 : Nat) (l1 : Int32) (ω : OW) (n : Nat) : RO := rA ω l0 11 1 (fun a34 => lI ω (gI Θ) a34 ((306 + (4 * l1)) + 2) (fun x35 => L_X11_holdsLine_20 Θ 5000 l0 0 (306 + (4 * l1)) x35 ω n))
theorem ok_J_X11_holdsLine_278 (Θ : GP) (s0 : Int32) (ω : OW) (n : Nat) (r : Out) (h : J_X11_holdsLine_278 Θ s0 ω n = some r) : GR Θ yX11_holdsLine cX11_holdsLine 9 (some .boolean) 4 (0, 0) 278 [] [.int s0] ω n r := by
  unfold J_X11_holdsLine_278 at h
  obtain ⟨z1, h⟩ := bz_inv h
  cases h
  exact g_zret rfl z1 dX11_holdsLine_278 rfl
theorem ok_J_X11_holdsLine_273 (Θ : GP) (ω : OW) (n : Nat) (r : Out) (h : J_X11_holdsLine_273 Θ ω n = some r) : GR Θ yX11_holdsLine cX11_holdsLine 9 (some .boolean) 4 (0, 0) 273 [] [] ω n r := by
  unfold J_X11_holdsLine_273 at h
  refine g_iconst (v := 1) dX11_holdsLine_273 (by decide) ?_
  refine g_goto (tgt := 278) dX11_holdsLine_274 (by decide) ?_
  exact ok_J_X11_holdsLine_278 Θ 1 _ _ r h
theorem ok_J_X11_holdsLine_253 (Θ : GP) (k_20 : Nat → Int32 → Int32 → Int32 → OW → Nat → RO) (hk_20 : ∀ l0 l2 l3 l4 ω n r, k_20 l0 l2 l3 l4 ω n = some r → GR Θ yX11_holdsLine cX11_holdsLine 9 (some .boolean) 4 (0, 0) 20 [(0, .ref l0), (2, .int l2), (3, .int l3), (4, .int l4)] [] ω n r) (l0 : Nat) (l2 : Int32) (l3 : Int32) (l4 : Int32) (ω : OW) (n : Nat) (r : Out) (h : J_X11_holdsLine_253 Θ k_20 l0 l2 l3 l4 ω n = some r) : GR Θ yX11_holdsLine cX11_holdsLine 9 (some .boolean) 4 (0, 0) 253 [(0, .ref l0), (2, .int l2), (3, .int l3), (4, .int l4)] [] ω n r := by
  unfold J_X11_holdsLine_253 at h
  refine g_iinc (j := 3) (v := l4 + 1) (lv' := [(4, .int (l4 + 1)), (0, .ref l0), (2, .int l2), (3, .int l3)]) dX11_holdsLine_253 rfl rfl (by decide) rfl ?_
  refine g_goto (tgt := 20) dX11_holdsLine_256 (by decide) ?_
  refine G.lsub [1, 2, 3, 0] rfl ?_
  exact hk_20 l0 l2 l3 (l4 + 1) _ _ r h
theorem ok_J_X11_holdsLine_252 (Θ : GP) (k_20 : Nat → Int32 → Int32 → Int32 → OW → Nat → RO) (hk_20 : ∀ l0 l2 l3 l4 ω n r, k_20 l0 l2 l3 l4 ω n = some r → GR Θ yX11_holdsLine cX11_holdsLine 9 (some .boolean) 4 (0, 0) 20 [(0, .ref l0), (2, .int l2), (3, .int l3), (4, .int l4)] [] ω n r) (l0 : Nat) (l2 : Int32) (l3 : Int32) (l4 : Int32) (s0 : Int32) (s1 : Int32) (s2 : Nat) (ω : OW) (n : Nat) (r : Out) (h : J_X11_holdsLine_252 Θ k_20 l0 l2 l3 l4 s0 s1 s2 ω n = some r) : GR Θ yX11_holdsLine cX11_holdsLine 9 (some .boolean) 4 (0, 0) 252 [(0, .ref l0), (2, .int l2), (3, .int l3), (4, .int l4)] [.int s0, .int s1, .ref s2] ω n r := by
  unfold J_X11_holdsLine_252 at h
  refine g_sIi dX11_holdsLine_252 h (fun ω h => ?_)
  exact ok_J_X11_holdsLine_253 Θ k_20 hk_20 l0 l2 l3 l4 _ _ r h
theorem ok_J_X11_holdsLine_218 (Θ : GP) (k_20 : Nat → Int32 → Int32 → Int32 → OW → Nat → RO) (hk_20 : ∀ l0 l2 l3 l4 ω n r, k_20 l0 l2 l3 l4 ω n = some r → GR Θ yX11_holdsLine cX11_holdsLine 9 (some .boolean) 4 (0, 0) 20 [(0, .ref l0), (2, .int l2), (3, .int l3), (4, .int l4)] [] ω n r) (l0 : Nat) (l2 : Int32) (l3 : Int32) (l4 : Int32) (l5 : Int32) (l6 : Int32) (l7 : Int32) (s0 : Int32) (ω : OW) (n : Nat) (r : Out) (h : J_X11_holdsLine_218 Θ k_20 l0 l2 l3 l4 l5 l6 l7 s0 ω n = some r) : GR Θ yX11_holdsLine cX11_holdsLine 9 (some .boolean) 4 (0, 0) 218 [(0, .ref l0), (2, .int l2), (3, .int l3), (4, .int l4), (5, .int l5), (6, .int l6), (7, .int l7)] [.int s0] ω n r := by
  unfold J_X11_holdsLine_218 at h
  refine g_istore (lv' := [(8, .int s0), (0, .ref l0), (2, .int l2), (3, .int l3), (4, .int l4), (5, .int l5), (6, .int l6), (7, .int l7)]) dX11_holdsLine_218 (by decide) rfl ?_
  refine g_aload_n dX11_holdsLine_220 rfl 1 rfl ?_
  refine g_rA fl_X11_39 dX11_holdsLine_221 h (fun a2 h => ?_)
  refine g_iload_n dX11_holdsLine_224 rfl 2 rfl ?_
  refine g_iconst (v := 1) dX11_holdsLine_225 (by decide) ?_
  refine g_isub dX11_holdsLine_226 ?_
  refine g_iload dX11_holdsLine_227 5 rfl ?_
  refine g_bipush (v := 9) dX11_holdsLine_229 (by decide) ?_
  refine g_icmp_ne (tgt := 242) dX11_holdsLine_231 (by decide) (fun c3 => ?_) (fun c3 => ?_)
  · rw [if_neg c3] at h
    refine g_iload dX11_holdsLine_242 0 rfl ?_
    refine g_if_eq (tgt := 251) dX11_holdsLine_244 (by decide) (fun c4 => ?_) (fun c4 => ?_)
    · rw [if_pos c4] at h
      refine g_iconst (v := 0) dX11_holdsLine_251 (by decide) ?_
      refine G.lsub [1, 2, 3, 4] rfl ?_
      exact ok_J_X11_holdsLine_252 Θ k_20 hk_20 l0 l2 l3 l4 0 (l2 - 1) a2 _ _ r h
    · rw [if_neg c4] at h
      refine g_iconst (v := 1) dX11_holdsLine_247 (by decide) ?_
      refine g_goto (tgt := 252) dX11_holdsLine_248 (by decide) ?_
      refine G.lsub [1, 2, 3, 4] rfl ?_
      exact ok_J_X11_holdsLine_252 Θ k_20 hk_20 l0 l2 l3 l4 1 (l2 - 1) a2 _ _ r h
  · rw [if_pos c3] at h
    refine g_iload dX11_holdsLine_234 6 rfl ?_
    refine g_iload dX11_holdsLine_236 7 rfl ?_
    refine g_iadd dX11_holdsLine_238 ?_
    refine g_goto (tgt := 252) dX11_holdsLine_239 (by decide) ?_
    refine G.lsub [1, 2, 3, 4] rfl ?_
    exact ok_J_X11_holdsLine_252 Θ k_20 hk_20 l0 l2 l3 l4 (l6 + l7) (l2 - 1) a2 _ _ r h
theorem ok_B_X11_holdsLine_20 (Θ : GP) (k_20 : Nat → Int32 → Int32 → Int32 → OW → Nat → RO) (hk_20 : ∀ l0 l2 l3 l4 ω n r, k_20 l0 l2 l3 l4 ω n = some r → GR Θ yX11_holdsLine cX11_holdsLine 9 (some .boolean) 4 (0, 0) 20 [(0, .ref l0), (2, .int l2), (3, .int l3), (4, .int l4)] [] ω n r) (l0 : Nat) (l2 : Int32) (l3 : Int32) (l4 : Int32) (ω : OW) (n : Nat) (r : Out) (h : B_X11_holdsLine_20 Θ k_20 l0 l2 l3 l4 ω n = some r) : GR Θ yX11_holdsLine cX11_holdsLine 9 (some .boolean) 4 (0, 0) 20 [(0, .ref l0), (2, .int l2), (3, .int l3), (4, .int l4)] [] ω n r := by
  unfold B_X11_holdsLine_20 at h
  refine g_iload dX11_holdsLine_20 3 rfl ?_
  refine g_aload_n dX11_holdsLine_22 rfl 0 rfl ?_
  refine g_rA fl_X11_13 dX11_holdsLine_23 h (fun a5 h => ?_)
  refine g_iload_n dX11_holdsLine_26 rfl 2 rfl ?_
  refine g_iconst (v := 3) dX11_holdsLine_27 (by decide) ?_
  refine g_iadd dX11_holdsLine_28 ?_
  refine g_lIi dX11_holdsLine_29 h (fun x6 h => ?_)
  refine g_icmp_ge (tgt := 259) dX11_holdsLine_30 (by decide) (fun c7 => ?_) (fun c7 => ?_)
  · rw [if_pos c7] at h
    refine g_iload_n dX11_holdsLine_259 rfl 1 rfl ?_
    refine g_if_eq (tgt := 273) dX11_holdsLine_260 (by decide) (fun c8 => ?_) (fun c8 => ?_)
    · rw [if_pos c8] at h
      refine G.lsub [] rfl ?_
      exact ok_J_X11_holdsLine_273 Θ _ _ r h
    · rw [if_neg c8] at h
      refine g_aload_n dX11_holdsLine_263 rfl 0 rfl ?_
      refine g_rA fl_X11_39 dX11_holdsLine_264 h (fun a9 h => ?_)
      refine g_iconst (v := 0) dX11_holdsLine_267 (by decide) ?_
      refine g_lIi dX11_holdsLine_268 h (fun x10 h => ?_)
      refine g_iconst (v := 1) dX11_holdsLine_269 (by decide) ?_
      refine g_icmp_ne (tgt := 277) dX11_holdsLine_270 (by decide) (fun c11 => ?_) (fun c11 => ?_)
      · rw [if_neg c11] at h
        refine g_iconst (v := 0) dX11_holdsLine_277 (by decide) ?_
        refine G.lsub [] rfl ?_
        exact ok_J_X11_holdsLine_278 Θ 0 _ _ r h
      · rw [if_pos c11] at h
        refine G.lsub [] rfl ?_
        exact ok_J_X11_holdsLine_273 Θ _ _ r h
  · rw [if_neg c7] at h
    refine g_aload_n dX11_holdsLine_33 rfl 0 rfl ?_
    refine g_rA fl_X11_13 dX11_holdsLine_34 h (fun a12 h => ?_)
    refine g_sipush (v := 354) dX11_holdsLine_37 (by decide) ?_
    refine g_iconst (v := 2) dX11_holdsLine_40 (by decide) ?_
    refine g_iload dX11_holdsLine_41 3 rfl ?_
    refine g_imul dX11_holdsLine_43 ?_
    refine g_iadd dX11_holdsLine_44 ?_
    refine g_lIi dX11_holdsLine_45 h (fun x13 h => ?_)
    refine g_istore (lv' := [(5, .int x13), (0, .ref l0), (2, .int l2), (3, .int l3), (4, .int l4)]) dX11_holdsLine_46 (by decide) rfl ?_
    refine g_iload dX11_holdsLine_48 0 rfl ?_
    refine g_bipush (v := 8) dX11_holdsLine_50 (by decide) ?_
    refine g_icmp_gt (tgt := 88) dX11_holdsLine_52 (by decide) (fun c14 => ?_) (fun c14 => ?_)
    · rw [if_pos c14] at h
      refine g_iload dX11_holdsLine_88 0 rfl ?_
      refine g_bipush (v := 12) dX11_holdsLine_90 (by decide) ?_
      refine g_icmp_ne (tgt := 116) dX11_holdsLine_92 (by decide) (fun c15 => ?_) (fun c15 => ?_)
      · rw [if_neg c15] at h
        refine g_iinc (j := 2) (v := l2 + (-1)) (lv' := [(2, .int (l2 + (-1))), (5, .int x13), (0, .ref l0), (3, .int l3), (4, .int l4)]) dX11_holdsLine_116 rfl rfl (by decide) rfl ?_
        refine g_aload_n dX11_holdsLine_119 rfl 2 rfl ?_
        refine g_rA fl_X11_39 dX11_holdsLine_120 h (fun a16 h => ?_)
        refine g_iload_n dX11_holdsLine_123 rfl 0 rfl ?_
        refine g_iconst (v := 1) dX11_holdsLine_124 (by decide) ?_
        refine g_isub dX11_holdsLine_125 ?_
        refine g_lIi dX11_holdsLine_126 h (fun x17 h => ?_)
        refine g_istore (lv' := [(6, .int x17), (2, .int (l2 + (-1))), (5, .int x13), (0, .ref l0), (3, .int l3), (4, .int l4)]) dX11_holdsLine_127 (by decide) rfl ?_
        refine g_aload_n dX11_holdsLine_129 rfl 3 rfl ?_
        refine g_rA fl_X11_39 dX11_holdsLine_130 h (fun a18 h => ?_)
        refine g_iload_n dX11_holdsLine_133 rfl 1 rfl ?_
        refine g_lIi dX11_holdsLine_134 h (fun x19 h => ?_)
        refine g_istore (lv' := [(7, .int x19), (6, .int x17), (2, .int (l2 + (-1))), (5, .int x13), (0, .ref l0), (3, .int l3), (4, .int l4)]) dX11_holdsLine_135 (by decide) rfl ?_
        refine g_iload dX11_holdsLine_137 3 rfl ?_
        refine g_bipush (v := 10) dX11_holdsLine_139 (by decide) ?_
        refine g_icmp_ne (tgt := 159) dX11_holdsLine_141 (by decide) (fun c20 => ?_) (fun c20 => ?_)
        · rw [if_neg c20] at h
          refine g_iload dX11_holdsLine_159 3 rfl ?_
          refine g_bipush (v := 11) dX11_holdsLine_161 (by decide) ?_
          refine g_icmp_ne (tgt := 181) dX11_holdsLine_163 (by decide) (fun c21 => ?_) (fun c21 => ?_)
          · rw [if_neg c21] at h
            refine g_iload dX11_holdsLine_181 3 rfl ?_
            refine g_bipush (v := 13) dX11_holdsLine_183 (by decide) ?_
            refine g_icmp_ne (tgt := 205) dX11_holdsLine_185 (by decide) (fun c22 => ?_) (fun c22 => ?_)
            · rw [if_neg c22] at h
              refine g_iload dX11_holdsLine_205 1 rfl ?_
              refine g_iload dX11_holdsLine_207 0 rfl ?_
              refine g_iadd dX11_holdsLine_209 ?_
              refine g_if_le (tgt := 217) dX11_holdsLine_210 (by decide) (fun c23 => ?_) (fun c23 => ?_)
              · rw [if_pos c23] at h
                refine g_iconst (v := 0) dX11_holdsLine_217 (by decide) ?_
                refine G.lsub [4, 2, 5, 6, 3, 1, 0] rfl ?_
                exact ok_J_X11_holdsLine_218 Θ k_20 hk_20 l0 (l2 + (-1)) l3 l4 x13 x17 x19 0 _ _ r h
              · rw [if_neg c23] at h
                refine g_iconst (v := 1) dX11_holdsLine_213 (by decide) ?_
                refine g_goto (tgt := 218) dX11_holdsLine_214 (by decide) ?_
                refine G.lsub [4, 2, 5, 6, 3, 1, 0] rfl ?_
                exact ok_J_X11_holdsLine_218 Θ k_20 hk_20 l0 (l2 + (-1)) l3 l4 x13 x17 x19 1 _ _ r h
            · rw [if_pos c22] at h
              refine g_iload dX11_holdsLine_188 1 rfl ?_
              refine g_iload dX11_holdsLine_190 0 rfl ?_
              refine g_iadd dX11_holdsLine_192 ?_
              refine g_iconst (v := 2) dX11_holdsLine_193 (by decide) ?_
              refine g_icmp_ne (tgt := 201) dX11_holdsLine_194 (by decide) (fun c24 => ?_) (fun c24 => ?_)
              · rw [if_neg c24] at h
                refine g_iconst (v := 0) dX11_holdsLine_201 (by decide) ?_
                refine g_goto (tgt := 218) dX11_holdsLine_202 (by decide) ?_
                refine G.lsub [4, 2, 5, 6, 3, 1, 0] rfl ?_
                exact ok_J_X11_holdsLine_218 Θ k_20 hk_20 l0 (l2 + (-1)) l3 l4 x13 x17 x19 0 _ _ r h
              · rw [if_pos c24] at h
                refine g_iconst (v := 1) dX11_holdsLine_197 (by decide) ?_
                refine g_goto (tgt := 218) dX11_holdsLine_198 (by decide) ?_
                refine G.lsub [4, 2, 5, 6, 3, 1, 0] rfl ?_
                exact ok_J_X11_holdsLine_218 Θ k_20 hk_20 l0 (l2 + (-1)) l3 l4 x13 x17 x19 1 _ _ r h
          · rw [if_pos c21] at h
            refine g_iload dX11_holdsLine_166 1 rfl ?_
            refine g_iload dX11_holdsLine_168 0 rfl ?_
            refine g_icmp_le (tgt := 177) dX11_holdsLine_170 (by decide) (fun c25 => ?_) (fun c25 => ?_)
            · rw [if_pos c25] at h
              refine g_iconst (v := 0) dX11_holdsLine_177 (by decide) ?_
              refine g_goto (tgt := 218) dX11_holdsLine_178 (by decide) ?_
              refine G.lsub [4, 2, 5, 6, 3, 1, 0] rfl ?_
              exact ok_J_X11_holdsLine_218 Θ k_20 hk_20 l0 (l2 + (-1)) l3 l4 x13 x17 x19 0 _ _ r h
            · rw [if_neg c25] at h
              refine g_iconst (v := 1) dX11_holdsLine_173 (by decide) ?_
              refine g_goto (tgt := 218) dX11_holdsLine_174 (by decide) ?_
              refine G.lsub [4, 2, 5, 6, 3, 1, 0] rfl ?_
              exact ok_J_X11_holdsLine_218 Θ k_20 hk_20 l0 (l2 + (-1)) l3 l4 x13 x17 x19 1 _ _ r h
        · rw [if_pos c20] at h
          refine g_iload dX11_holdsLine_144 1 rfl ?_
          refine g_iload dX11_holdsLine_146 0 rfl ?_
          refine g_icmp_ge (tgt := 155) dX11_holdsLine_148 (by decide) (fun c26 => ?_) (fun c26 => ?_)
          · rw [if_pos c26] at h
            refine g_iconst (v := 0) dX11_holdsLine_155 (by decide) ?_
            refine g_goto (tgt := 218) dX11_holdsLine_156 (by decide) ?_
            refine G.lsub [4, 2, 5, 6, 3, 1, 0] rfl ?_
            exact ok_J_X11_holdsLine_218 Θ k_20 hk_20 l0 (l2 + (-1)) l3 l4 x13 x17 x19 0 _ _ r h
          · rw [if_neg c26] at h
            refine g_iconst (v := 1) dX11_holdsLine_151 (by decide) ?_
            refine g_goto (tgt := 218) dX11_holdsLine_152 (by decide) ?_
            refine G.lsub [4, 2, 5, 6, 3, 1, 0] rfl ?_
            exact ok_J_X11_holdsLine_218 Θ k_20 hk_20 l0 (l2 + (-1)) l3 l4 x13 x17 x19 1 _ _ r h
      · rw [if_pos c15] at h
        refine g_aload_n dX11_holdsLine_95 rfl 1 rfl ?_
        refine g_rA fl_X11_39 dX11_holdsLine_96 h (fun a27 h => ?_)
        refine g_iload_n dX11_holdsLine_99 rfl 2 rfl ?_
        refine g_iconst (v := 1) dX11_holdsLine_100 (by decide) ?_
        refine g_isub dX11_holdsLine_101 ?_
        refine g_iconst (v := 1) dX11_holdsLine_102 (by decide) ?_
        refine g_aload_n dX11_holdsLine_103 rfl 1 rfl ?_
        refine g_rA fl_X11_39 dX11_holdsLine_104 h (fun a28 h => ?_)
        refine g_iload_n dX11_holdsLine_107 rfl 2 rfl ?_
        refine g_iconst (v := 1) dX11_holdsLine_108 (by decide) ?_
        refine g_isub dX11_holdsLine_109 ?_
        refine g_lIi dX11_holdsLine_110 h (fun x29 h => ?_)
        refine g_isub dX11_holdsLine_111 ?_
        refine g_sIi dX11_holdsLine_112 h (fun ω h => ?_)
        refine g_goto (tgt := 253) dX11_holdsLine_113 (by decide) ?_
        refine G.lsub [1, 2, 3, 4] rfl ?_
        exact ok_J_X11_holdsLine_253 Θ k_20 hk_20 l0 l2 l3 l4 _ _ r h
    · rw [if_neg c14] at h
      refine g_aload_n dX11_holdsLine_55 rfl 1 rfl ?_
      refine g_rA fl_X11_39 dX11_holdsLine_56 h (fun a30 h => ?_)
      refine g_iload_n dX11_holdsLine_59 rfl 2 rfl ?_
      refine g_aload_n dX11_holdsLine_60 rfl 1 rfl ?_
      refine g_iload dX11_holdsLine_61 0 rfl ?_
      refine g_aload_n dX11_holdsLine_63 rfl 1 rfl ?_
      refine g_rA fl_X11_13 dX11_holdsLine_64 h (fun a31 h => ?_)
      refine g_sipush (v := 354) dX11_holdsLine_67 (by decide) ?_
      refine g_iconst (v := 2) dX11_holdsLine_70 (by decide) ?_
      refine g_iload dX11_holdsLine_71 4 rfl ?_
      refine g_imul dX11_holdsLine_73 ?_
      refine g_iadd dX11_holdsLine_74 ?_
      refine g_iconst (v := 1) dX11_holdsLine_75 (by decide) ?_
      refine g_iadd dX11_holdsLine_76 ?_
      refine g_lIi dX11_holdsLine_77 h (fun x32 h => ?_)
      refine g_cI (ci := 11) (As := [.int x13, .int x32]) mv_X11_280 dX11_holdsLine_78 rfl (ok_X11_factOf Θ l0 x13 x32 _ _) rfl rfl (Nat.le_of_ble_eq_true rfl) (by decide) (by decide) (by decide) h (fun x33 ω n h => ?_)
      refine G.less (B' := (0, 0)) (by decide) (by decide) ?_
      refine g_sIi dX11_holdsLine_81 h (fun ω h => ?_)
      refine g_iinc (j := 2) (v := l2 + 1) (lv' := [(2, .int (l2 + 1)), (5, .int x13), (0, .ref l0), (3, .int l3), (4, .int l4)]) dX11_holdsLine_82 rfl rfl (by decide) rfl ?_
      refine g_goto (tgt := 253) dX11_holdsLine_85 (by decide) ?_
      refine G.lsub [2, 0, 3, 4] rfl ?_
      exact ok_J_X11_holdsLine_253 Θ k_20 hk_20 l0 (l2 + 1) l3 l4 _ _ r h
theorem ok_L_X11_holdsLine_20 (Θ : GP) : ∀ (f : Nat) (l0 : Nat) (l2 : Int32) (l3 : Int32) (l4 : Int32) (ω : OW) (n : Nat) (r : Out), L_X11_holdsLine_20 Θ f l0 l2 l3 l4 ω n = some r → GR Θ yX11_holdsLine cX11_holdsLine 9 (some .boolean) 4 (0, 0) 20 [(0, .ref l0), (2, .int l2), (3, .int l3), (4, .int l4)] [] ω n r := by
  intro f
  induction f with
  | zero =>
    intro l0 l2 l3 l4 ω n r h
    unfold L_X11_holdsLine_20 at h
    cases h
  | succ f ih =>
    intro l0 l2 l3 l4 ω n r h
    unfold L_X11_holdsLine_20 at h
    exact ok_B_X11_holdsLine_20 Θ (L_X11_holdsLine_20 Θ f) ih l0 l2 l3 l4 ω n r h
theorem ok_X11_holdsLine (Θ : GP) (l0 : Nat) (l1 : Int32) (ω : OW) (n : Nat) : Ok Θ 4 0 0 yX11_holdsLine cX11_holdsLine 9 (some .boolean) [.ref l0, .int l1] ω n (F_X11_holdsLine Θ l0 l1 ω n) := by
  refine Ok.of (by decide +kernel) (Nat.le_of_ble_eq_true rfl) (fun r h => ?_)
  unfold F_X11_holdsLine at h
  show GR Θ yX11_holdsLine cX11_holdsLine 9 (some .boolean) 4 (0, 0) 0 [(0, .ref l0), (1, .int l1)] [] ω n r
  refine g_iconst (v := 0) dX11_holdsLine_0 (by decide) ?_
  refine g_istore_n (lv' := [(2, .int 0), (0, .ref l0), (1, .int l1)]) dX11_holdsLine_1 rfl (by decide) rfl ?_
  refine g_sipush (v := 306) dX11_holdsLine_2 (by decide) ?_
  refine g_iconst (v := 4) dX11_holdsLine_5 (by decide) ?_
  refine g_iload_n dX11_holdsLine_6 rfl 2 rfl ?_
  refine g_imul dX11_holdsLine_7 ?_
  refine g_iadd dX11_holdsLine_8 ?_
  refine g_istore_n (lv' := [(3, .int (306 + (4 * l1))), (2, .int 0), (0, .ref l0), (1, .int l1)]) dX11_holdsLine_9 rfl (by decide) rfl ?_
  refine g_aload_n dX11_holdsLine_10 rfl 2 rfl ?_
  refine g_rA fl_X11_13 dX11_holdsLine_11 h (fun a34 h => ?_)
  refine g_iload_n dX11_holdsLine_14 rfl 0 rfl ?_
  refine g_iconst (v := 2) dX11_holdsLine_15 (by decide) ?_
  refine g_iadd dX11_holdsLine_16 ?_
  refine g_lIi dX11_holdsLine_17 h (fun x35 h => ?_)
  refine g_istore (lv' := [(4, .int x35), (3, .int (306 + (4 * l1))), (2, .int 0), (0, .ref l0), (1, .int l1)]) dX11_holdsLine_18 (by decide) rfl ?_
  refine G.lsub [3, 2, 1, 0] rfl ?_
  exact ok_L_X11_holdsLine_20 Θ 5000 l0 0 (306 + (4 * l1)) x35 _ _ r h
def J_X11_sumOf_73 (Θ : GP) (l2 : Int32) (ω : OW) (n : Nat) : RO := some (.inl (some (.int l2), ω, n))
def J_X11_sumOf_67 (Θ : GP) (k_4 : Nat → Int32 → Int32 → Int32 → OW → Nat → RO) (l0 : Nat) (l1 : Int32) (l2 : Int32) (l3 : Int32) (ω : OW) (n : Nat) : RO := k_4 l0 l1 l2 (l3 + 1) ω n
def B_X11_sumOf_4 (Θ : GP) (k_4 : Nat → Int32 → Int32 → Int32 → OW → Nat → RO) (l0 : Nat) (l1 : Int32) (l2 : Int32) (l3 : Int32) (ω : OW) (n : Nat) : RO := rA ω l0 11 1 (fun a1 => lI ω (gI Θ) a1 3 (fun x2 => if x2 = 1 then (rA ω l0 11 1 (fun a4 => lI ω (gI Θ) a4 305 (fun x5 => if x5 ≤ l3 then (J_X11_sumOf_73 Θ l2 ω n) else (rA ω l0 11 1 (fun a7 => lI ω (gI Θ) a7 (306 + (4 * l3)) (fun x8 => if x8 = l1 then (cO ω l0 11 (kI (F_X11_holdsLine Θ l0 l3 ω n) (fun x10 ω n => if x10 = 0 then (J_X11_sumOf_67 Θ k_4 l0 l1 l2 l3 ω n) else (rA ω l0 11 1 (fun a12 => lI ω (gI Θ) a12 ((306 + (4 * l3)) + 1) (fun x13 => J_X11_sumOf_67 Θ k_4 l0 l1 (l2 + x13) l3 ω n)))))) else (J_X11_sumOf_67 Θ k_4 l0 l1 l2 l3 ω n))))))) else (J_X11_sumOf_73 Θ l2 ω n)))
def L_X11_sumOf_4 (Θ : GP) : Nat → Nat → Int32 → Int32 → Int32 → OW → Nat → RO
  | 0, _, _, _, _, _, _ => none
  | f + 1, l0, l1, l2, l3, ω, n => B_X11_sumOf_4 Θ (L_X11_sumOf_4 Θ f) l0 l1 l2 l3 ω n
def F_X11_sumOf (Θ : GP) (l0 : Nat) (l1 : Int32) (ω : OW) (n : Nat) : RO := L_X11_sumOf_4 Θ 5000 l0 l1 0 0 ω n
theorem ok_J_X11_sumOf_73 (Θ : GP) (l2 : Int32) (ω : OW) (n : Nat) (r : Out) (h : J_X11_sumOf_73 Θ l2 ω n = some r) : GR Θ yX11_sumOf cX11_sumOf 4 (some .int) 5 (0, 0) 73 [(2, .int l2)] [] ω n r := by
  unfold J_X11_sumOf_73 at h
  refine g_iload_n dX11_sumOf_73 rfl 0 rfl ?_
  cases h
  exact g_iret rfl dX11_sumOf_74 rfl
theorem ok_J_X11_sumOf_67 (Θ : GP) (k_4 : Nat → Int32 → Int32 → Int32 → OW → Nat → RO) (hk_4 : ∀ l0 l1 l2 l3 ω n r, k_4 l0 l1 l2 l3 ω n = some r → GR Θ yX11_sumOf cX11_sumOf 4 (some .int) 5 (0, 0) 4 [(0, .ref l0), (1, .int l1), (2, .int l2), (3, .int l3)] [] ω n r) (l0 : Nat) (l1 : Int32) (l2 : Int32) (l3 : Int32) (ω : OW) (n : Nat) (r : Out) (h : J_X11_sumOf_67 Θ k_4 l0 l1 l2 l3 ω n = some r) : GR Θ yX11_sumOf cX11_sumOf 4 (some .int) 5 (0, 0) 67 [(0, .ref l0), (1, .int l1), (2, .int l2), (3, .int l3)] [] ω n r := by
  unfold J_X11_sumOf_67 at h
  refine g_iinc (j := 3) (v := l3 + 1) (lv' := [(3, .int (l3 + 1)), (0, .ref l0), (1, .int l1), (2, .int l2)]) dX11_sumOf_67 rfl rfl (by decide) rfl ?_
  refine g_goto (tgt := 4) dX11_sumOf_70 (by decide) ?_
  refine G.lsub [1, 2, 3, 0] rfl ?_
  exact hk_4 l0 l1 l2 (l3 + 1) _ _ r h
theorem ok_B_X11_sumOf_4 (Θ : GP) (k_4 : Nat → Int32 → Int32 → Int32 → OW → Nat → RO) (hk_4 : ∀ l0 l1 l2 l3 ω n r, k_4 l0 l1 l2 l3 ω n = some r → GR Θ yX11_sumOf cX11_sumOf 4 (some .int) 5 (0, 0) 4 [(0, .ref l0), (1, .int l1), (2, .int l2), (3, .int l3)] [] ω n r) (l0 : Nat) (l1 : Int32) (l2 : Int32) (l3 : Int32) (ω : OW) (n : Nat) (r : Out) (h : B_X11_sumOf_4 Θ k_4 l0 l1 l2 l3 ω n = some r) : GR Θ yX11_sumOf cX11_sumOf 4 (some .int) 5 (0, 0) 4 [(0, .ref l0), (1, .int l1), (2, .int l2), (3, .int l3)] [] ω n r := by
  unfold B_X11_sumOf_4 at h
  refine g_aload_n dX11_sumOf_4 rfl 0 rfl ?_
  refine g_rA fl_X11_13 dX11_sumOf_5 h (fun a1 h => ?_)
  refine g_iconst (v := 3) dX11_sumOf_8 (by decide) ?_
  refine g_lIi dX11_sumOf_9 h (fun x2 h => ?_)
  refine g_iconst (v := 1) dX11_sumOf_10 (by decide) ?_
  refine g_icmp_ne (tgt := 73) dX11_sumOf_11 (by decide) (fun c3 => ?_) (fun c3 => ?_)
  · rw [if_neg c3] at h
    refine G.lsub [2] rfl ?_
    exact ok_J_X11_sumOf_73 Θ l2 _ _ r h
  · rw [if_pos c3] at h
    refine g_iload_n dX11_sumOf_14 rfl 3 rfl ?_
    refine g_aload_n dX11_sumOf_15 rfl 0 rfl ?_
    refine g_rA fl_X11_13 dX11_sumOf_16 h (fun a4 h => ?_)
    refine g_sipush (v := 305) dX11_sumOf_19 (by decide) ?_
    refine g_lIi dX11_sumOf_22 h (fun x5 h => ?_)
    refine g_icmp_ge (tgt := 73) dX11_sumOf_23 (by decide) (fun c6 => ?_) (fun c6 => ?_)
    · rw [if_pos c6] at h
      refine G.lsub [2] rfl ?_
      exact ok_J_X11_sumOf_73 Θ l2 _ _ r h
    · rw [if_neg c6] at h
      refine g_aload_n dX11_sumOf_26 rfl 0 rfl ?_
      refine g_rA fl_X11_13 dX11_sumOf_27 h (fun a7 h => ?_)
      refine g_sipush (v := 306) dX11_sumOf_30 (by decide) ?_
      refine g_iconst (v := 4) dX11_sumOf_33 (by decide) ?_
      refine g_iload_n dX11_sumOf_34 rfl 3 rfl ?_
      refine g_imul dX11_sumOf_35 ?_
      refine g_iadd dX11_sumOf_36 ?_
      refine g_lIi dX11_sumOf_37 h (fun x8 h => ?_)
      refine g_iload_n dX11_sumOf_38 rfl 1 rfl ?_
      refine g_icmp_ne (tgt := 67) dX11_sumOf_39 (by decide) (fun c9 => ?_) (fun c9 => ?_)
      · rw [if_neg c9] at h
        exact ok_J_X11_sumOf_67 Θ k_4 hk_4 l0 l1 l2 l3 _ _ r h
      · rw [if_pos c9] at h
        refine g_aload_n dX11_sumOf_42 rfl 0 rfl ?_
        refine g_iload_n dX11_sumOf_43 rfl 3 rfl ?_
        refine g_cI (ci := 11) (As := [.int l3]) mv_X11_283 dX11_sumOf_44 rfl (ok_X11_holdsLine Θ l0 l3 _ _) rfl rfl (Nat.le_of_ble_eq_true rfl) (by decide) (by decide) (by decide) h (fun x10 ω n h => ?_)
        refine G.less (B' := (0, 0)) (by decide) (by decide) ?_
        refine g_if_eq (tgt := 67) dX11_sumOf_47 (by decide) (fun c11 => ?_) (fun c11 => ?_)
        · rw [if_pos c11] at h
          exact ok_J_X11_sumOf_67 Θ k_4 hk_4 l0 l1 l2 l3 _ _ r h
        · rw [if_neg c11] at h
          refine g_iload_n dX11_sumOf_50 rfl 2 rfl ?_
          refine g_aload_n dX11_sumOf_51 rfl 0 rfl ?_
          refine g_rA fl_X11_13 dX11_sumOf_52 h (fun a12 h => ?_)
          refine g_sipush (v := 306) dX11_sumOf_55 (by decide) ?_
          refine g_iconst (v := 4) dX11_sumOf_58 (by decide) ?_
          refine g_iload_n dX11_sumOf_59 rfl 3 rfl ?_
          refine g_imul dX11_sumOf_60 ?_
          refine g_iadd dX11_sumOf_61 ?_
          refine g_iconst (v := 1) dX11_sumOf_62 (by decide) ?_
          refine g_iadd dX11_sumOf_63 ?_
          refine g_lIi dX11_sumOf_64 h (fun x13 h => ?_)
          refine g_iadd dX11_sumOf_65 ?_
          refine g_istore_n (lv' := [(2, .int (l2 + x13)), (0, .ref l0), (1, .int l1), (3, .int l3)]) dX11_sumOf_66 rfl (by decide) rfl ?_
          refine G.lsub [1, 2, 0, 3] rfl ?_
          exact ok_J_X11_sumOf_67 Θ k_4 hk_4 l0 l1 (l2 + x13) l3 _ _ r h
theorem ok_L_X11_sumOf_4 (Θ : GP) : ∀ (f : Nat) (l0 : Nat) (l1 : Int32) (l2 : Int32) (l3 : Int32) (ω : OW) (n : Nat) (r : Out), L_X11_sumOf_4 Θ f l0 l1 l2 l3 ω n = some r → GR Θ yX11_sumOf cX11_sumOf 4 (some .int) 5 (0, 0) 4 [(0, .ref l0), (1, .int l1), (2, .int l2), (3, .int l3)] [] ω n r := by
  intro f
  induction f with
  | zero =>
    intro l0 l1 l2 l3 ω n r h
    unfold L_X11_sumOf_4 at h
    cases h
  | succ f ih =>
    intro l0 l1 l2 l3 ω n r h
    unfold L_X11_sumOf_4 at h
    exact ok_B_X11_sumOf_4 Θ (L_X11_sumOf_4 Θ f) ih l0 l1 l2 l3 ω n r h
theorem ok_X11_sumOf (Θ : GP) (l0 : Nat) (l1 : Int32) (ω : OW) (n : Nat) : Ok Θ 5 0 0 yX11_sumOf cX11_sumOf 4 (some .int) [.ref l0, .int l1] ω n (F_X11_sumOf Θ l0 l1 ω n) := by
  refine Ok.of (by decide +kernel) (Nat.le_of_ble_eq_true rfl) (fun r h => ?_)
  unfold F_X11_sumOf at h
  show GR Θ yX11_sumOf cX11_sumOf 4 (some .int) 5 (0, 0) 0 [(0, .ref l0), (1, .int l1)] [] ω n r
  refine g_iconst (v := 0) dX11_sumOf_0 (by decide) ?_
  refine g_istore_n (lv' := [(2, .int 0), (0, .ref l0), (1, .int l1)]) dX11_sumOf_1 rfl (by decide) rfl ?_
  refine g_iconst (v := 0) dX11_sumOf_2 (by decide) ?_
  refine g_istore_n (lv' := [(3, .int 0), (2, .int 0), (0, .ref l0), (1, .int l1)]) dX11_sumOf_3 rfl (by decide) rfl ?_
  refine G.lsub [2, 3, 1, 0] rfl ?_
  exact ok_L_X11_sumOf_4 Θ 5000 l0 l1 0 0 _ _ r h
def F_X11_frightsBy (Θ : GP) (l0 : Nat) (l1 : Int32) (l2 : Int32) (ω : OW) (n : Nat) : RO := wF ω l0 11 21 (.int l1) (fun ω => wF ω l0 11 22 (.int l2) (fun ω => cO ω l0 11 (kI (F_X11_ofProp Θ l0 l1 1 ω n) (fun x1 ω n => cO ω l0 11 (kI (F_X11_ofProp Θ l0 l1 2 ω n) (fun x2 ω n => cO ω l0 11 (kI (F_X11_sumOf Θ l0 0 ω n) (fun x3 ω n => cO ω l0 11 (kI (F_X11_sumOf Θ l0 1 ω n) (fun x4 ω n => some (.inl (some (.int (if 0 < (((x1 - (x2 / 10)) + x3) - x4) then (((x1 - (x2 / 10)) + x3) - x4) else 0)), ω, n))))))))))))
theorem ok_X11_frightsBy (Θ : GP) (l0 : Nat) (l1 : Int32) (l2 : Int32) (ω : OW) (n : Nat) : Ok Θ 6 0 0 yX11_frightsBy cX11_frightsBy 3 (some .int) [.ref l0, .int l1, .int l2] ω n (F_X11_frightsBy Θ l0 l1 l2 ω n) := by
  refine Ok.of (by decide +kernel) (Nat.le_of_ble_eq_true rfl) (fun r h => ?_)
  unfold F_X11_frightsBy at h
  show GR Θ yX11_frightsBy cX11_frightsBy 3 (some .int) 6 (0, 0) 0 [(0, .ref l0), (1, .int l1), (2, .int l2)] [] ω n r
  refine g_aload_n dX11_frightsBy_0 rfl 0 rfl ?_
  refine g_iload_n dX11_frightsBy_1 rfl 1 rfl ?_
  refine g_wF fl_X11_274 dX11_frightsBy_2 (rfl) rfl h (fun ω h => ?_)
  refine g_aload_n dX11_frightsBy_5 rfl 0 rfl ?_
  refine g_iload_n dX11_frightsBy_6 rfl 2 rfl ?_
  refine g_wF fl_X11_277 dX11_frightsBy_7 (rfl) rfl h (fun ω h => ?_)
  refine g_iconst (v := 0) dX11_frightsBy_10 (by decide) ?_
  refine g_aload_n dX11_frightsBy_11 rfl 0 rfl ?_
  refine g_iload_n dX11_frightsBy_12 rfl 1 rfl ?_
  refine g_iconst (v := 1) dX11_frightsBy_13 (by decide) ?_
  refine g_cI (ci := 11) (As := [.int l1, .int 1]) mv_X11_74 dX11_frightsBy_14 rfl (ok_X11_ofProp Θ l0 l1 1 _ _) rfl rfl (Nat.le_of_ble_eq_true rfl) (by decide) (by decide) (by decide) h (fun x1 ω n h => ?_)
  refine G.less (B' := (0, 0)) (by decide) (by decide) ?_
  refine g_aload_n dX11_frightsBy_17 rfl 0 rfl ?_
  refine g_iload_n dX11_frightsBy_18 rfl 1 rfl ?_
  refine g_iconst (v := 2) dX11_frightsBy_19 (by decide) ?_
  refine g_cI (ci := 11) (As := [.int l1, .int 2]) mv_X11_74 dX11_frightsBy_20 rfl (ok_X11_ofProp Θ l0 l1 2 _ _) rfl rfl (Nat.le_of_ble_eq_true rfl) (by decide) (by decide) (by decide) h (fun x2 ω n h => ?_)
  refine G.less (B' := (0, 0)) (by decide) (by decide) ?_
  refine g_bipush (v := 10) dX11_frightsBy_23 (by decide) ?_
  refine g_idiv dX11_frightsBy_25 (by decide) ?_
  refine g_isub dX11_frightsBy_26 ?_
  refine g_aload_n dX11_frightsBy_27 rfl 0 rfl ?_
  refine g_iconst (v := 0) dX11_frightsBy_28 (by decide) ?_
  refine g_cI (ci := 11) (As := [.int 0]) mv_X11_286 dX11_frightsBy_29 rfl (ok_X11_sumOf Θ l0 0 _ _) rfl rfl (Nat.le_of_ble_eq_true rfl) (by decide) (by decide) (by decide) h (fun x3 ω n h => ?_)
  refine G.less (B' := (0, 0)) (by decide) (by decide) ?_
  refine g_iadd dX11_frightsBy_32 ?_
  refine g_aload_n dX11_frightsBy_33 rfl 0 rfl ?_
  refine g_iconst (v := 1) dX11_frightsBy_34 (by decide) ?_
  refine g_cI (ci := 11) (As := [.int 1]) mv_X11_286 dX11_frightsBy_35 rfl (ok_X11_sumOf Θ l0 1 _ _) rfl rfl (Nat.le_of_ble_eq_true rfl) (by decide) (by decide) (by decide) h (fun x4 ω n h => ?_)
  refine G.less (B' := (0, 0)) (by decide) (by decide) ?_
  refine g_isub dX11_frightsBy_38 ?_
  refine g_max wd_1817 wd_610 wd_135 wd_611 dX11_frightsBy_39 (by decide) (Nat.le_of_ble_eq_true rfl) ?_
  cases h
  exact g_iret rfl dX11_frightsBy_42 rfl
def F_X11_wearsBy (Θ : GP) (l0 : Nat) (l1 : Int32) (l2 : Int32) (ω : OW) (n : Nat) : RO := wF ω l0 11 21 (.int l1) (fun ω => wF ω l0 11 22 (.int l2) (fun ω => cO ω l0 11 (kI (F_X11_sumOf Θ l0 2 ω n) (fun x1 ω n => some (.inl (some (.int (1 + x1)), ω, n))))))
theorem ok_X11_wearsBy (Θ : GP) (l0 : Nat) (l1 : Int32) (l2 : Int32) (ω : OW) (n : Nat) : Ok Θ 6 0 0 yX11_wearsBy cX11_wearsBy 3 (some .int) [.ref l0, .int l1, .int l2] ω n (F_X11_wearsBy Θ l0 l1 l2 ω n) := by
  refine Ok.of (by decide +kernel) (Nat.le_of_ble_eq_true rfl) (fun r h => ?_)
  unfold F_X11_wearsBy at h
  show GR Θ yX11_wearsBy cX11_wearsBy 3 (some .int) 6 (0, 0) 0 [(0, .ref l0), (1, .int l1), (2, .int l2)] [] ω n r
  refine g_aload_n dX11_wearsBy_0 rfl 0 rfl ?_
  refine g_iload_n dX11_wearsBy_1 rfl 1 rfl ?_
  refine g_wF fl_X11_274 dX11_wearsBy_2 (rfl) rfl h (fun ω h => ?_)
  refine g_aload_n dX11_wearsBy_5 rfl 0 rfl ?_
  refine g_iload_n dX11_wearsBy_6 rfl 2 rfl ?_
  refine g_wF fl_X11_277 dX11_wearsBy_7 (rfl) rfl h (fun ω h => ?_)
  refine g_iconst (v := 1) dX11_wearsBy_10 (by decide) ?_
  refine g_aload_n dX11_wearsBy_11 rfl 0 rfl ?_
  refine g_iconst (v := 2) dX11_wearsBy_12 (by decide) ?_
  refine g_cI (ci := 11) (As := [.int 2]) mv_X11_286 dX11_wearsBy_13 rfl (ok_X11_sumOf Θ l0 2 _ _) rfl rfl (Nat.le_of_ble_eq_true rfl) (by decide) (by decide) (by decide) h (fun x1 ω n h => ?_)
  refine G.less (B' := (0, 0)) (by decide) (by decide) ?_
  refine g_iadd dX11_wearsBy_16 ?_
  cases h
  exact g_iret rfl dX11_wearsBy_17 rfl
def J_X11_prop_50 (Θ : GP) (s0 : Int32) (ω : OW) (n : Nat) : RO := some (.inl (some (.int s0), ω, n))
def J_X11_prop_40 (Θ : GP) (ω : OW) (n : Nat) : RO := J_X11_prop_50 Θ 0 ω n
def J_X11_prop_33 (Θ : GP) (l0 : Nat) (l1 : Int32) (l2 : Int32) (s0 : Int32) (s1 : Nat) (ω : OW) (n : Nat) : RO := cO ω s1 11 (kI (F_X11_throwsIf Θ s1 s0 2 ω n) (fun x1 ω n => if x1 = 0 then (cO ω l0 11 (kI (F_X11_ofProp Θ l0 l1 l2 ω n) (fun x3 ω n => J_X11_prop_50 Θ x3 ω n))) else (J_X11_prop_40 Θ ω n)))
def F_X11_prop (Θ : GP) (l0 : Nat) (l1 : Int32) (l2 : Int32) (ω : OW) (n : Nat) : RO := wF ω l0 11 0 (.int 0) (fun ω => cO ω l0 11 (kI (F_X11_noProp Θ l0 l1 ω n) (fun x4 ω n => cO ω l0 11 (kI (F_X11_throwsIf Θ l0 x4 1 ω n) (fun x5 ω n => if x5 = 0 then (kI (F_X11_in Θ l2 0 3 ω n) (fun x7 ω n => if x7 = 0 then (J_X11_prop_33 Θ l0 l1 l2 1 l0 ω n) else (J_X11_prop_33 Θ l0 l1 l2 0 l0 ω n))) else (J_X11_prop_40 Θ ω n))))))
theorem ok_J_X11_prop_50 (Θ : GP) (s0 : Int32) (ω : OW) (n : Nat) (r : Out) (h : J_X11_prop_50 Θ s0 ω n = some r) : GR Θ yX11_prop cX11_prop 3 (some .int) 3 (0, 0) 50 [] [.int s0] ω n r := by
  unfold J_X11_prop_50 at h
  cases h
  exact g_iret rfl dX11_prop_50 rfl
theorem ok_J_X11_prop_40 (Θ : GP) (ω : OW) (n : Nat) (r : Out) (h : J_X11_prop_40 Θ ω n = some r) : GR Θ yX11_prop cX11_prop 3 (some .int) 3 (0, 0) 40 [] [] ω n r := by
  unfold J_X11_prop_40 at h
  refine g_iconst (v := 0) dX11_prop_40 (by decide) ?_
  refine g_goto (tgt := 50) dX11_prop_41 (by decide) ?_
  exact ok_J_X11_prop_50 Θ 0 _ _ r h
theorem ok_J_X11_prop_33 (Θ : GP) (l0 : Nat) (l1 : Int32) (l2 : Int32) (s0 : Int32) (s1 : Nat) (ω : OW) (n : Nat) (r : Out) (h : J_X11_prop_33 Θ l0 l1 l2 s0 s1 ω n = some r) : GR Θ yX11_prop cX11_prop 3 (some .int) 3 (0, 0) 33 [(0, .ref l0), (1, .int l1), (2, .int l2)] [.int s0, .ref s1] ω n r := by
  unfold J_X11_prop_33 at h
  refine g_iconst (v := 2) dX11_prop_33 (by decide) ?_
  refine g_cI (ci := 11) (As := [.int s0, .int 2]) mv_X11_262 dX11_prop_34 rfl (ok_X11_throwsIf Θ s1 s0 2 _ _) rfl rfl (Nat.le_of_ble_eq_true rfl) (by decide) (by decide) (by decide) h (fun x1 ω n h => ?_)
  refine G.less (B' := (0, 0)) (by decide) (by decide) ?_
  refine g_if_eq (tgt := 44) dX11_prop_37 (by decide) (fun c2 => ?_) (fun c2 => ?_)
  · rw [if_pos c2] at h
    refine g_aload_n dX11_prop_44 rfl 0 rfl ?_
    refine g_iload_n dX11_prop_45 rfl 1 rfl ?_
    refine g_iload_n dX11_prop_46 rfl 2 rfl ?_
    refine g_cI (ci := 11) (As := [.int l1, .int l2]) mv_X11_74 dX11_prop_47 rfl (ok_X11_ofProp Θ l0 l1 l2 _ _) rfl rfl (Nat.le_of_ble_eq_true rfl) (by decide) (by decide) (by decide) h (fun x3 ω n h => ?_)
    refine G.less (B' := (0, 0)) (by decide) (by decide) ?_
    refine G.lsub [] rfl ?_
    exact ok_J_X11_prop_50 Θ x3 _ _ r h
  · rw [if_neg c2] at h
    refine G.lsub [] rfl ?_
    exact ok_J_X11_prop_40 Θ _ _ r h
theorem ok_X11_prop (Θ : GP) (l0 : Nat) (l1 : Int32) (l2 : Int32) (ω : OW) (n : Nat) : Ok Θ 3 0 0 yX11_prop cX11_prop 3 (some .int) [.ref l0, .int l1, .int l2] ω n (F_X11_prop Θ l0 l1 l2 ω n) := by
  refine Ok.of (by decide +kernel) (Nat.le_of_ble_eq_true rfl) (fun r h => ?_)
  unfold F_X11_prop at h
  show GR Θ yX11_prop cX11_prop 3 (some .int) 3 (0, 0) 0 [(0, .ref l0), (1, .int l1), (2, .int l2)] [] ω n r
  refine g_aload_n dX11_prop_0 rfl 0 rfl ?_
  refine g_iconst (v := 0) dX11_prop_1 (by decide) ?_
  refine g_wF fl_X11_3 dX11_prop_2 (rfl) rfl h (fun ω h => ?_)
  refine g_aload_n dX11_prop_5 rfl 0 rfl ?_
  refine g_aload_n dX11_prop_6 rfl 0 rfl ?_
  refine g_iload_n dX11_prop_7 rfl 1 rfl ?_
  refine g_cI (ci := 11) (As := [.int l1]) mv_X11_294 dX11_prop_8 rfl (ok_X11_noProp Θ l0 l1 _ _) rfl rfl (Nat.le_of_ble_eq_true rfl) (by decide) (by decide) (by decide) h (fun x4 ω n h => ?_)
  refine G.less (B' := (0, 0)) (by decide) (by decide) ?_
  refine g_iconst (v := 1) dX11_prop_11 (by decide) ?_
  refine g_cI (ci := 11) (As := [.int x4, .int 1]) mv_X11_262 dX11_prop_12 rfl (ok_X11_throwsIf Θ l0 x4 1 _ _) rfl rfl (Nat.le_of_ble_eq_true rfl) (by decide) (by decide) (by decide) h (fun x5 ω n h => ?_)
  refine G.less (B' := (0, 0)) (by decide) (by decide) ?_
  refine g_if_ne (tgt := 40) dX11_prop_15 (by decide) (fun c6 => ?_) (fun c6 => ?_)
  · rw [if_neg c6] at h
    refine G.lsub [] rfl ?_
    exact ok_J_X11_prop_40 Θ _ _ r h
  · rw [if_pos c6] at h
    refine g_aload_n dX11_prop_18 rfl 0 rfl ?_
    refine g_iload_n dX11_prop_19 rfl 2 rfl ?_
    refine g_iconst (v := 0) dX11_prop_20 (by decide) ?_
    refine g_iconst (v := 3) dX11_prop_21 (by decide) ?_
    refine g_sI (As := [.int l2, .int 0, .int 3]) ms_X11_87 dX11_prop_22 (ok_X11_in Θ l2 0 3 _ _) rfl rfl (Nat.le_of_ble_eq_true rfl) (by decide) (by decide) (by decide) h (fun x7 ω n h => ?_)
    refine G.less (B' := (0, 0)) (by decide) (by decide) ?_
    refine g_if_ne (tgt := 32) dX11_prop_25 (by decide) (fun c8 => ?_) (fun c8 => ?_)
    · rw [if_neg c8] at h
      refine g_iconst (v := 0) dX11_prop_32 (by decide) ?_
      exact ok_J_X11_prop_33 Θ l0 l1 l2 0 l0 _ _ r h
    · rw [if_pos c8] at h
      refine g_iconst (v := 1) dX11_prop_28 (by decide) ?_
      refine g_goto (tgt := 33) dX11_prop_29 (by decide) ?_
      exact ok_J_X11_prop_33 Θ l0 l1 l2 1 l0 _ _ r h
def J_X11_slot_26 (Θ : GP) (s0 : Int32) (ω : OW) (n : Nat) : RO := some (.inl (some (.int s0), ω, n))
def F_X11_slot (Θ : GP) (l0 : Nat) (l1 : Int32) (ω : OW) (n : Nat) : RO := wF ω l0 11 0 (.int 0) (fun ω => kI (F_X11_noSlot Θ l1 ω n) (fun x1 ω n => cO ω l0 11 (kI (F_X11_throwsIf Θ l0 x1 1 ω n) (fun x2 ω n => if x2 = 0 then (cO ω l0 11 (kI (F_X11_propIn Θ l0 l1 ω n) (fun x4 ω n => J_X11_slot_26 Θ x4 ω n))) else (J_X11_slot_26 Θ 0 ω n)))))
theorem ok_J_X11_slot_26 (Θ : GP) (s0 : Int32) (ω : OW) (n : Nat) (r : Out) (h : J_X11_slot_26 Θ s0 ω n = some r) : GR Θ yX11_slot cX11_slot 2 (some .int) 4 (0, 0) 26 [] [.int s0] ω n r := by
  unfold J_X11_slot_26 at h
  cases h
  exact g_iret rfl dX11_slot_26 rfl
theorem ok_X11_slot (Θ : GP) (l0 : Nat) (l1 : Int32) (ω : OW) (n : Nat) : Ok Θ 4 0 0 yX11_slot cX11_slot 2 (some .int) [.ref l0, .int l1] ω n (F_X11_slot Θ l0 l1 ω n) := by
  refine Ok.of (by decide +kernel) (Nat.le_of_ble_eq_true rfl) (fun r h => ?_)
  unfold F_X11_slot at h
  show GR Θ yX11_slot cX11_slot 2 (some .int) 4 (0, 0) 0 [(0, .ref l0), (1, .int l1)] [] ω n r
  refine g_aload_n dX11_slot_0 rfl 0 rfl ?_
  refine g_iconst (v := 0) dX11_slot_1 (by decide) ?_
  refine g_wF fl_X11_3 dX11_slot_2 (rfl) rfl h (fun ω h => ?_)
  refine g_aload_n dX11_slot_5 rfl 0 rfl ?_
  refine g_iload_n dX11_slot_6 rfl 1 rfl ?_
  refine g_sI (As := [.int l1]) ms_X11_297 dX11_slot_7 (ok_X11_noSlot Θ l1 _ _) rfl rfl (Nat.le_of_ble_eq_true rfl) (by decide) (by decide) (by decide) h (fun x1 ω n h => ?_)
  refine G.less (B' := (0, 0)) (by decide) (by decide) ?_
  refine g_iconst (v := 1) dX11_slot_10 (by decide) ?_
  refine g_cI (ci := 11) (As := [.int x1, .int 1]) mv_X11_262 dX11_slot_11 rfl (ok_X11_throwsIf Θ l0 x1 1 _ _) rfl rfl (Nat.le_of_ble_eq_true rfl) (by decide) (by decide) (by decide) h (fun x2 ω n h => ?_)
  refine G.less (B' := (0, 0)) (by decide) (by decide) ?_
  refine g_if_eq (tgt := 21) dX11_slot_14 (by decide) (fun c3 => ?_) (fun c3 => ?_)
  · rw [if_pos c3] at h
    refine g_aload_n dX11_slot_21 rfl 0 rfl ?_
    refine g_iload_n dX11_slot_22 rfl 1 rfl ?_
    refine g_cI (ci := 11) (As := [.int l1]) mv_X11_160 dX11_slot_23 rfl (ok_X11_propIn Θ l0 l1 _ _) rfl rfl (Nat.le_of_ble_eq_true rfl) (by decide) (by decide) (by decide) h (fun x4 ω n h => ?_)
    refine G.less (B' := (0, 0)) (by decide) (by decide) ?_
    refine G.lsub [] rfl ?_
    exact ok_J_X11_slot_26 Θ x4 _ _ r h
  · rw [if_neg c3] at h
    refine g_iconst (v := 0) dX11_slot_17 (by decide) ?_
    refine g_goto (tgt := 26) dX11_slot_18 (by decide) ?_
    refine G.lsub [] rfl ?_
    exact ok_J_X11_slot_26 Θ 0 _ _ r h
def J_X11_accused_50 (Θ : GP) (s0 : Int32) (ω : OW) (n : Nat) : RO := some (.inl (some (.int s0), ω, n))
def J_X11_accused_40 (Θ : GP) (ω : OW) (n : Nat) : RO := J_X11_accused_50 Θ 0 ω n
def J_X11_accused_33 (Θ : GP) (l0 : Nat) (l1 : Int32) (l2 : Int32) (s0 : Int32) (s1 : Nat) (ω : OW) (n : Nat) : RO := cO ω s1 11 (kI (F_X11_throwsIf Θ s1 s0 2 ω n) (fun x1 ω n => if x1 = 0 then (cO ω l0 11 (kI (F_X11_of Θ l0 l1 l2 ω n) (fun x3 ω n => J_X11_accused_50 Θ x3 ω n))) else (J_X11_accused_40 Θ ω n)))
def F_X11_accused (Θ : GP) (l0 : Nat) (l1 : Int32) (l2 : Int32) (ω : OW) (n : Nat) : RO := wF ω l0 11 0 (.int 0) (fun ω => cO ω l0 11 (kI (F_X11_noOne Θ l0 l1 ω n) (fun x4 ω n => cO ω l0 11 (kI (F_X11_throwsIf Θ l0 x4 1 ω n) (fun x5 ω n => if x5 = 0 then (kI (F_X11_in Θ l2 0 3 ω n) (fun x7 ω n => if x7 = 0 then (J_X11_accused_33 Θ l0 l1 l2 1 l0 ω n) else (J_X11_accused_33 Θ l0 l1 l2 0 l0 ω n))) else (J_X11_accused_40 Θ ω n))))))
theorem ok_J_X11_accused_50 (Θ : GP) (s0 : Int32) (ω : OW) (n : Nat) (r : Out) (h : J_X11_accused_50 Θ s0 ω n = some r) : GR Θ yX11_accused cX11_accused 3 (some .int) 3 (0, 0) 50 [] [.int s0] ω n r := by
  unfold J_X11_accused_50 at h
  cases h
  exact g_iret rfl dX11_accused_50 rfl
theorem ok_J_X11_accused_40 (Θ : GP) (ω : OW) (n : Nat) (r : Out) (h : J_X11_accused_40 Θ ω n = some r) : GR Θ yX11_accused cX11_accused 3 (some .int) 3 (0, 0) 40 [] [] ω n r := by
  unfold J_X11_accused_40 at h
  refine g_iconst (v := 0) dX11_accused_40 (by decide) ?_
  refine g_goto (tgt := 50) dX11_accused_41 (by decide) ?_
  exact ok_J_X11_accused_50 Θ 0 _ _ r h
theorem ok_J_X11_accused_33 (Θ : GP) (l0 : Nat) (l1 : Int32) (l2 : Int32) (s0 : Int32) (s1 : Nat) (ω : OW) (n : Nat) (r : Out) (h : J_X11_accused_33 Θ l0 l1 l2 s0 s1 ω n = some r) : GR Θ yX11_accused cX11_accused 3 (some .int) 3 (0, 0) 33 [(0, .ref l0), (1, .int l1), (2, .int l2)] [.int s0, .ref s1] ω n r := by
  unfold J_X11_accused_33 at h
  refine g_iconst (v := 2) dX11_accused_33 (by decide) ?_
  refine g_cI (ci := 11) (As := [.int s0, .int 2]) mv_X11_262 dX11_accused_34 rfl (ok_X11_throwsIf Θ s1 s0 2 _ _) rfl rfl (Nat.le_of_ble_eq_true rfl) (by decide) (by decide) (by decide) h (fun x1 ω n h => ?_)
  refine G.less (B' := (0, 0)) (by decide) (by decide) ?_
  refine g_if_eq (tgt := 44) dX11_accused_37 (by decide) (fun c2 => ?_) (fun c2 => ?_)
  · rw [if_pos c2] at h
    refine g_aload_n dX11_accused_44 rfl 0 rfl ?_
    refine g_iload_n dX11_accused_45 rfl 1 rfl ?_
    refine g_iload_n dX11_accused_46 rfl 2 rfl ?_
    refine g_cI (ci := 11) (As := [.int l1, .int l2]) mv_X11_80 dX11_accused_47 rfl (ok_X11_of Θ l0 l1 l2 _ _) rfl rfl (Nat.le_of_ble_eq_true rfl) (by decide) (by decide) (by decide) h (fun x3 ω n h => ?_)
    refine G.less (B' := (0, 0)) (by decide) (by decide) ?_
    refine G.lsub [] rfl ?_
    exact ok_J_X11_accused_50 Θ x3 _ _ r h
  · rw [if_neg c2] at h
    refine G.lsub [] rfl ?_
    exact ok_J_X11_accused_40 Θ _ _ r h
theorem ok_X11_accused (Θ : GP) (l0 : Nat) (l1 : Int32) (l2 : Int32) (ω : OW) (n : Nat) : Ok Θ 3 0 0 yX11_accused cX11_accused 3 (some .int) [.ref l0, .int l1, .int l2] ω n (F_X11_accused Θ l0 l1 l2 ω n) := by
  refine Ok.of (by decide +kernel) (Nat.le_of_ble_eq_true rfl) (fun r h => ?_)
  unfold F_X11_accused at h
  show GR Θ yX11_accused cX11_accused 3 (some .int) 3 (0, 0) 0 [(0, .ref l0), (1, .int l1), (2, .int l2)] [] ω n r
  refine g_aload_n dX11_accused_0 rfl 0 rfl ?_
  refine g_iconst (v := 0) dX11_accused_1 (by decide) ?_
  refine g_wF fl_X11_3 dX11_accused_2 (rfl) rfl h (fun ω h => ?_)
  refine g_aload_n dX11_accused_5 rfl 0 rfl ?_
  refine g_aload_n dX11_accused_6 rfl 0 rfl ?_
  refine g_iload_n dX11_accused_7 rfl 1 rfl ?_
  refine g_cI (ci := 11) (As := [.int l1]) mv_X11_300 dX11_accused_8 rfl (ok_X11_noOne Θ l0 l1 _ _) rfl rfl (Nat.le_of_ble_eq_true rfl) (by decide) (by decide) (by decide) h (fun x4 ω n h => ?_)
  refine G.less (B' := (0, 0)) (by decide) (by decide) ?_
  refine g_iconst (v := 1) dX11_accused_11 (by decide) ?_
  refine g_cI (ci := 11) (As := [.int x4, .int 1]) mv_X11_262 dX11_accused_12 rfl (ok_X11_throwsIf Θ l0 x4 1 _ _) rfl rfl (Nat.le_of_ble_eq_true rfl) (by decide) (by decide) (by decide) h (fun x5 ω n h => ?_)
  refine G.less (B' := (0, 0)) (by decide) (by decide) ?_
  refine g_if_ne (tgt := 40) dX11_accused_15 (by decide) (fun c6 => ?_) (fun c6 => ?_)
  · rw [if_neg c6] at h
    refine G.lsub [] rfl ?_
    exact ok_J_X11_accused_40 Θ _ _ r h
  · rw [if_pos c6] at h
    refine g_aload_n dX11_accused_18 rfl 0 rfl ?_
    refine g_iload_n dX11_accused_19 rfl 2 rfl ?_
    refine g_iconst (v := 0) dX11_accused_20 (by decide) ?_
    refine g_iconst (v := 3) dX11_accused_21 (by decide) ?_
    refine g_sI (As := [.int l2, .int 0, .int 3]) ms_X11_87 dX11_accused_22 (ok_X11_in Θ l2 0 3 _ _) rfl rfl (Nat.le_of_ble_eq_true rfl) (by decide) (by decide) (by decide) h (fun x7 ω n h => ?_)
    refine G.less (B' := (0, 0)) (by decide) (by decide) ?_
    refine g_if_ne (tgt := 32) dX11_accused_25 (by decide) (fun c8 => ?_) (fun c8 => ?_)
    · rw [if_neg c8] at h
      refine g_iconst (v := 0) dX11_accused_32 (by decide) ?_
      exact ok_J_X11_accused_33 Θ l0 l1 l2 0 l0 _ _ r h
    · rw [if_pos c8] at h
      refine g_iconst (v := 1) dX11_accused_28 (by decide) ?_
      refine g_goto (tgt := 33) dX11_accused_29 (by decide) ?_
      exact ok_J_X11_accused_33 Θ l0 l1 l2 1 l0 _ _ r h
def J_X11_fright_100 (Θ : GP) (s0 : Int32) (ω : OW) (n : Nat) : RO := some (.inl (some (.int s0), ω, n))
def J_X11_fright_56 (Θ : GP) (ω : OW) (n : Nat) : RO := some (.inl (some (.int 0), ω, n))
def J_X11_fright_49 (Θ : GP) (l0 : Nat) (l1 : Int32) (l2 : Int32) (l3 : Int32) (l4 : Int32) (s0 : Int32) (s1 : Nat) (ω : OW) (n : Nat) : RO := cO ω s1 11 (kI (F_X11_throwsIf Θ s1 s0 2 ω n) (fun x1 ω n => if x1 = 0 then (cO ω l0 11 (kI (F_X11_propIn Θ l0 l2 ω n) (fun x3 ω n => if x3 = (-1) then (some (.inl (some (.int 0), ω, n))) else (cO ω l0 11 (kV (F_X11_looksAt Θ l0 l1 ω n) (fun ω n => if l4 = 0 then (cO ω l0 11 (kI (F_X11_frightsBy Θ l0 x3 l3 ω n) (fun x7 ω n => J_X11_fright_100 Θ x7 ω n))) else (cO ω l0 11 (kI (F_X11_wearsBy Θ l0 x3 l3 ω n) (fun x8 ω n => J_X11_fright_100 Θ x8 ω n))))))))) else (J_X11_fright_56 Θ ω n)))
def J_X11_fright_26 (Θ : GP) (l0 : Nat) (l1 : Int32) (l2 : Int32) (l3 : Int32) (l4 : Int32) (s0 : Int32) (s1 : Nat) (ω : OW) (n : Nat) : RO := cO ω s1 11 (kI (F_X11_throwsIf Θ s1 s0 1 ω n) (fun x9 ω n => if x9 = 0 then (kI (F_X11_in Θ l3 0 99 ω n) (fun x11 ω n => if x11 = 0 then (J_X11_fright_49 Θ l0 l1 l2 l3 l4 1 l0 ω n) else (J_X11_fright_49 Θ l0 l1 l2 l3 l4 0 l0 ω n))) else (J_X11_fright_56 Θ ω n)))
def J_X11_fright_21 (Θ : GP) (l0 : Nat) (l1 : Int32) (l2 : Int32) (l3 : Int32) (l4 : Int32) (s0 : Nat) (ω : OW) (n : Nat) : RO := J_X11_fright_26 Θ l0 l1 l2 l3 l4 1 s0 ω n
def F_X11_fright (Θ : GP) (l0 : Nat) (l1 : Int32) (l2 : Int32) (l3 : Int32) (l4 : Int32) (ω : OW) (n : Nat) : RO := wF ω l0 11 0 (.int 0) (fun ω => cO ω l0 11 (kI (F_X11_noOne Θ l0 l1 ω n) (fun x13 ω n => if x13 = 0 then (kI (F_X11_noSlot Θ l2 ω n) (fun x15 ω n => if x15 = 0 then (J_X11_fright_26 Θ l0 l1 l2 l3 l4 0 l0 ω n) else (J_X11_fright_21 Θ l0 l1 l2 l3 l4 l0 ω n))) else (J_X11_fright_21 Θ l0 l1 l2 l3 l4 l0 ω n))))
theorem ok_J_X11_fright_100 (Θ : GP) (s0 : Int32) (ω : OW) (n : Nat) (r : Out) (h : J_X11_fright_100 Θ s0 ω n = some r) : GR Θ yX11_fright cX11_fright 6 (some .int) 7 (0, 0) 100 [] [.int s0] ω n r := by
  unfold J_X11_fright_100 at h
  cases h
  exact g_iret rfl dX11_fright_100 rfl
theorem ok_J_X11_fright_56 (Θ : GP) (ω : OW) (n : Nat) (r : Out) (h : J_X11_fright_56 Θ ω n = some r) : GR Θ yX11_fright cX11_fright 6 (some .int) 7 (0, 0) 56 [] [] ω n r := by
  unfold J_X11_fright_56 at h
  refine g_iconst (v := 0) dX11_fright_56 (by decide) ?_
  cases h
  exact g_iret rfl dX11_fright_57 rfl
theorem ok_J_X11_fright_49 (Θ : GP) (l0 : Nat) (l1 : Int32) (l2 : Int32) (l3 : Int32) (l4 : Int32) (s0 : Int32) (s1 : Nat) (ω : OW) (n : Nat) (r : Out) (h : J_X11_fright_49 Θ l0 l1 l2 l3 l4 s0 s1 ω n = some r) : GR Θ yX11_fright cX11_fright 6 (some .int) 7 (0, 0) 49 [(0, .ref l0), (1, .int l1), (2, .int l2), (3, .int l3), (4, .int l4)] [.int s0, .ref s1] ω n r := by
  unfold J_X11_fright_49 at h
  refine g_iconst (v := 2) dX11_fright_49 (by decide) ?_
  refine g_cI (ci := 11) (As := [.int s0, .int 2]) mv_X11_262 dX11_fright_50 rfl (ok_X11_throwsIf Θ s1 s0 2 _ _) rfl rfl (Nat.le_of_ble_eq_true rfl) (by decide) (by decide) (by decide) h (fun x1 ω n h => ?_)
  refine G.less (B' := (0, 0)) (by decide) (by decide) ?_
  refine g_if_eq (tgt := 58) dX11_fright_53 (by decide) (fun c2 => ?_) (fun c2 => ?_)
  · rw [if_pos c2] at h
    refine g_aload_n dX11_fright_58 rfl 0 rfl ?_
    refine g_iload_n dX11_fright_59 rfl 2 rfl ?_
    refine g_cI (ci := 11) (As := [.int l2]) mv_X11_160 dX11_fright_60 rfl (ok_X11_propIn Θ l0 l2 _ _) rfl rfl (Nat.le_of_ble_eq_true rfl) (by decide) (by decide) (by decide) h (fun x3 ω n h => ?_)
    refine G.less (B' := (0, 0)) (by decide) (by decide) ?_
    refine g_istore (lv' := [(5, .int x3), (0, .ref l0), (1, .int l1), (2, .int l2), (3, .int l3), (4, .int l4)]) dX11_fright_63 (by decide) rfl ?_
    refine g_iload dX11_fright_65 0 rfl ?_
    refine g_iconst (v := (-1)) dX11_fright_67 (by decide) ?_
    refine g_icmp_ne (tgt := 73) dX11_fright_68 (by decide) (fun c4 => ?_) (fun c4 => ?_)
    · rw [if_neg c4] at h
      refine g_aload_n dX11_fright_73 rfl 1 rfl ?_
      refine g_iload_n dX11_fright_74 rfl 2 rfl ?_
      refine g_cV (ci := 11) (As := [.int l1]) mv_X11_303 dX11_fright_75 rfl (ok_X11_looksAt Θ l0 l1 _ _) rfl rfl (Nat.le_of_ble_eq_true rfl) (by decide) (by decide) (by decide) h (fun ω n h => ?_)
      refine G.less (B' := (0, 0)) (by decide) (by decide) ?_
      refine g_iload dX11_fright_78 5 rfl ?_
      refine g_if_eq (tgt := 93) dX11_fright_80 (by decide) (fun c6 => ?_) (fun c6 => ?_)
      · rw [if_pos c6] at h
        refine g_aload_n dX11_fright_93 rfl 1 rfl ?_
        refine g_iload dX11_fright_94 0 rfl ?_
        refine g_iload_n dX11_fright_96 rfl 4 rfl ?_
        refine g_cI (ci := 11) (As := [.int x3, .int l3]) mv_X11_310 dX11_fright_97 rfl (ok_X11_frightsBy Θ l0 x3 l3 _ _) rfl rfl (Nat.le_of_ble_eq_true rfl) (by decide) (by decide) (by decide) h (fun x7 ω n h => ?_)
        refine G.less (B' := (0, 0)) (by decide) (by decide) ?_
        refine G.lsub [] rfl ?_
        exact ok_J_X11_fright_100 Θ x7 _ _ r h
      · rw [if_neg c6] at h
        refine g_aload_n dX11_fright_83 rfl 1 rfl ?_
        refine g_iload dX11_fright_84 0 rfl ?_
        refine g_iload_n dX11_fright_86 rfl 4 rfl ?_
        refine g_cI (ci := 11) (As := [.int x3, .int l3]) mv_X11_307 dX11_fright_87 rfl (ok_X11_wearsBy Θ l0 x3 l3 _ _) rfl rfl (Nat.le_of_ble_eq_true rfl) (by decide) (by decide) (by decide) h (fun x8 ω n h => ?_)
        refine G.less (B' := (0, 0)) (by decide) (by decide) ?_
        refine g_goto (tgt := 100) dX11_fright_90 (by decide) ?_
        refine G.lsub [] rfl ?_
        exact ok_J_X11_fright_100 Θ x8 _ _ r h
    · rw [if_pos c4] at h
      refine g_iconst (v := 0) dX11_fright_71 (by decide) ?_
      cases h
      exact g_iret rfl dX11_fright_72 rfl
  · rw [if_neg c2] at h
    refine G.lsub [] rfl ?_
    exact ok_J_X11_fright_56 Θ _ _ r h
theorem ok_J_X11_fright_26 (Θ : GP) (l0 : Nat) (l1 : Int32) (l2 : Int32) (l3 : Int32) (l4 : Int32) (s0 : Int32) (s1 : Nat) (ω : OW) (n : Nat) (r : Out) (h : J_X11_fright_26 Θ l0 l1 l2 l3 l4 s0 s1 ω n = some r) : GR Θ yX11_fright cX11_fright 6 (some .int) 7 (0, 0) 26 [(0, .ref l0), (1, .int l1), (2, .int l2), (3, .int l3), (4, .int l4)] [.int s0, .ref s1] ω n r := by
  unfold J_X11_fright_26 at h
  refine g_iconst (v := 1) dX11_fright_26 (by decide) ?_
  refine g_cI (ci := 11) (As := [.int s0, .int 1]) mv_X11_262 dX11_fright_27 rfl (ok_X11_throwsIf Θ s1 s0 1 _ _) rfl rfl (Nat.le_of_ble_eq_true rfl) (by decide) (by decide) (by decide) h (fun x9 ω n h => ?_)
  refine G.less (B' := (0, 0)) (by decide) (by decide) ?_
  refine g_if_ne (tgt := 56) dX11_fright_30 (by decide) (fun c10 => ?_) (fun c10 => ?_)
  · rw [if_neg c10] at h
    refine G.lsub [] rfl ?_
    exact ok_J_X11_fright_56 Θ _ _ r h
  · rw [if_pos c10] at h
    refine g_aload_n dX11_fright_33 rfl 0 rfl ?_
    refine g_iload_n dX11_fright_34 rfl 3 rfl ?_
    refine g_iconst (v := 0) dX11_fright_35 (by decide) ?_
    refine g_bipush (v := 99) dX11_fright_36 (by decide) ?_
    refine g_sI (As := [.int l3, .int 0, .int 99]) ms_X11_87 dX11_fright_38 (ok_X11_in Θ l3 0 99 _ _) rfl rfl (Nat.le_of_ble_eq_true rfl) (by decide) (by decide) (by decide) h (fun x11 ω n h => ?_)
    refine G.less (B' := (0, 0)) (by decide) (by decide) ?_
    refine g_if_ne (tgt := 48) dX11_fright_41 (by decide) (fun c12 => ?_) (fun c12 => ?_)
    · rw [if_neg c12] at h
      refine g_iconst (v := 0) dX11_fright_48 (by decide) ?_
      exact ok_J_X11_fright_49 Θ l0 l1 l2 l3 l4 0 l0 _ _ r h
    · rw [if_pos c12] at h
      refine g_iconst (v := 1) dX11_fright_44 (by decide) ?_
      refine g_goto (tgt := 49) dX11_fright_45 (by decide) ?_
      exact ok_J_X11_fright_49 Θ l0 l1 l2 l3 l4 1 l0 _ _ r h
theorem ok_J_X11_fright_21 (Θ : GP) (l0 : Nat) (l1 : Int32) (l2 : Int32) (l3 : Int32) (l4 : Int32) (s0 : Nat) (ω : OW) (n : Nat) (r : Out) (h : J_X11_fright_21 Θ l0 l1 l2 l3 l4 s0 ω n = some r) : GR Θ yX11_fright cX11_fright 6 (some .int) 7 (0, 0) 21 [(0, .ref l0), (1, .int l1), (2, .int l2), (3, .int l3), (4, .int l4)] [.ref s0] ω n r := by
  unfold J_X11_fright_21 at h
  refine g_iconst (v := 1) dX11_fright_21 (by decide) ?_
  refine g_goto (tgt := 26) dX11_fright_22 (by decide) ?_
  exact ok_J_X11_fright_26 Θ l0 l1 l2 l3 l4 1 s0 _ _ r h
theorem ok_X11_fright (Θ : GP) (l0 : Nat) (l1 : Int32) (l2 : Int32) (l3 : Int32) (l4 : Int32) (ω : OW) (n : Nat) : Ok Θ 7 0 0 yX11_fright cX11_fright 6 (some .int) [.ref l0, .int l1, .int l2, .int l3, .int l4] ω n (F_X11_fright Θ l0 l1 l2 l3 l4 ω n) := by
  refine Ok.of (by decide +kernel) (Nat.le_of_ble_eq_true rfl) (fun r h => ?_)
  unfold F_X11_fright at h
  show GR Θ yX11_fright cX11_fright 6 (some .int) 7 (0, 0) 0 [(0, .ref l0), (1, .int l1), (2, .int l2), (3, .int l3), (4, .int l4)] [] ω n r
  refine g_aload_n dX11_fright_0 rfl 0 rfl ?_
  refine g_iconst (v := 0) dX11_fright_1 (by decide) ?_
  refine g_wF fl_X11_3 dX11_fright_2 (rfl) rfl h (fun ω h => ?_)
  refine g_aload_n dX11_fright_5 rfl 0 rfl ?_
  refine g_aload_n dX11_fright_6 rfl 0 rfl ?_
  refine g_iload_n dX11_fright_7 rfl 1 rfl ?_
  refine g_cI (ci := 11) (As := [.int l1]) mv_X11_300 dX11_fright_8 rfl (ok_X11_noOne Θ l0 l1 _ _) rfl rfl (Nat.le_of_ble_eq_true rfl) (by decide) (by decide) (by decide) h (fun x13 ω n h => ?_)
  refine G.less (B' := (0, 0)) (by decide) (by decide) ?_
  refine g_if_ne (tgt := 21) dX11_fright_11 (by decide) (fun c14 => ?_) (fun c14 => ?_)
  · rw [if_neg c14] at h
    exact ok_J_X11_fright_21 Θ l0 l1 l2 l3 l4 l0 _ _ r h
  · rw [if_pos c14] at h
    refine g_iload_n dX11_fright_14 rfl 2 rfl ?_
    refine g_sI (As := [.int l2]) ms_X11_297 dX11_fright_15 (ok_X11_noSlot Θ l2 _ _) rfl rfl (Nat.le_of_ble_eq_true rfl) (by decide) (by decide) (by decide) h (fun x15 ω n h => ?_)
    refine G.less (B' := (0, 0)) (by decide) (by decide) ?_
    refine g_if_eq (tgt := 25) dX11_fright_18 (by decide) (fun c16 => ?_) (fun c16 => ?_)
    · rw [if_pos c16] at h
      refine g_iconst (v := 0) dX11_fright_25 (by decide) ?_
      exact ok_J_X11_fright_26 Θ l0 l1 l2 l3 l4 0 l0 _ _ r h
    · rw [if_neg c16] at h
      exact ok_J_X11_fright_21 Θ l0 l1 l2 l3 l4 l0 _ _ r h
def J_X11_propOnTheWay_27 (Θ : GP) (s0 : Int32) (ω : OW) (n : Nat) : RO := some (.inl (some (.int s0), ω, n))
def J_X11_propOnTheWay_26 (Θ : GP) (l2 : Int32) (ω : OW) (n : Nat) : RO := J_X11_propOnTheWay_27 Θ l2 ω n
def F_X11_propOnTheWay (Θ : GP) (l0 : Nat) (l1 : Int32) (ω : OW) (n : Nat) : RO := cO ω l0 11 (kI (F_X11_propIn Θ l0 l1 ω n) (fun x1 ω n => if x1 = (-1) then (J_X11_propOnTheWay_26 Θ x1 ω n) else (rI ω l0 11 23 (fun x3 => kI (F_X11_has Θ x3 x1 ω n) (fun x4 ω n => if x4 = 0 then (J_X11_propOnTheWay_26 Θ x1 ω n) else (J_X11_propOnTheWay_27 Θ (-1) ω n))))))
theorem ok_J_X11_propOnTheWay_27 (Θ : GP) (s0 : Int32) (ω : OW) (n : Nat) (r : Out) (h : J_X11_propOnTheWay_27 Θ s0 ω n = some r) : GR Θ yX11_propOnTheWay cX11_propOnTheWay 3 (some .int) 4 (0, 0) 27 [] [.int s0] ω n r := by
  unfold J_X11_propOnTheWay_27 at h
  cases h
  exact g_iret rfl dX11_propOnTheWay_27 rfl
theorem ok_J_X11_propOnTheWay_26 (Θ : GP) (l2 : Int32) (ω : OW) (n : Nat) (r : Out) (h : J_X11_propOnTheWay_26 Θ l2 ω n = some r) : GR Θ yX11_propOnTheWay cX11_propOnTheWay 3 (some .int) 4 (0, 0) 26 [(2, .int l2)] [] ω n r := by
  unfold J_X11_propOnTheWay_26 at h
  refine g_iload_n dX11_propOnTheWay_26 rfl 0 rfl ?_
  refine G.lsub [] rfl ?_
  exact ok_J_X11_propOnTheWay_27 Θ l2 _ _ r h
theorem ok_X11_propOnTheWay (Θ : GP) (l0 : Nat) (l1 : Int32) (ω : OW) (n : Nat) : Ok Θ 4 0 0 yX11_propOnTheWay cX11_propOnTheWay 3 (some .int) [.ref l0, .int l1] ω n (F_X11_propOnTheWay Θ l0 l1 ω n) := by
  refine Ok.of (by decide +kernel) (Nat.le_of_ble_eq_true rfl) (fun r h => ?_)
  unfold F_X11_propOnTheWay at h
  show GR Θ yX11_propOnTheWay cX11_propOnTheWay 3 (some .int) 4 (0, 0) 0 [(0, .ref l0), (1, .int l1)] [] ω n r
  refine g_aload_n dX11_propOnTheWay_0 rfl 0 rfl ?_
  refine g_iload_n dX11_propOnTheWay_1 rfl 1 rfl ?_
  refine g_cI (ci := 11) (As := [.int l1]) mv_X11_160 dX11_propOnTheWay_2 rfl (ok_X11_propIn Θ l0 l1 _ _) rfl rfl (Nat.le_of_ble_eq_true rfl) (by decide) (by decide) (by decide) h (fun x1 ω n h => ?_)
  refine G.less (B' := (0, 0)) (by decide) (by decide) ?_
  refine g_istore_n (lv' := [(2, .int x1), (0, .ref l0), (1, .int l1)]) dX11_propOnTheWay_5 rfl (by decide) rfl ?_
  refine g_iload_n dX11_propOnTheWay_6 rfl 0 rfl ?_
  refine g_iconst (v := (-1)) dX11_propOnTheWay_7 (by decide) ?_
  refine g_icmp_eq (tgt := 26) dX11_propOnTheWay_8 (by decide) (fun c2 => ?_) (fun c2 => ?_)
  · rw [if_pos c2] at h
    refine G.lsub [0] rfl ?_
    exact ok_J_X11_propOnTheWay_26 Θ x1 _ _ r h
  · rw [if_neg c2] at h
    refine g_aload_n dX11_propOnTheWay_11 rfl 1 rfl ?_
    refine g_rI fl_X11_313 dX11_propOnTheWay_12 h (fun x3 h => ?_)
    refine g_iload_n dX11_propOnTheWay_15 rfl 0 rfl ?_
    refine g_sI (As := [.int x3, .int x1]) ms_X11_137 dX11_propOnTheWay_16 (ok_X11_has Θ x3 x1 _ _) rfl rfl (Nat.le_of_ble_eq_true rfl) (by decide) (by decide) (by decide) h (fun x4 ω n h => ?_)
    refine G.less (B' := (0, 0)) (by decide) (by decide) ?_
    refine g_if_eq (tgt := 26) dX11_propOnTheWay_19 (by decide) (fun c5 => ?_) (fun c5 => ?_)
    · rw [if_pos c5] at h
      refine G.lsub [0] rfl ?_
      exact ok_J_X11_propOnTheWay_26 Θ x1 _ _ r h
    · rw [if_neg c5] at h
      refine g_iconst (v := (-1)) dX11_propOnTheWay_22 (by decide) ?_
      refine g_goto (tgt := 27) dX11_propOnTheWay_23 (by decide) ?_
      refine G.lsub [] rfl ?_
      exact ok_J_X11_propOnTheWay_27 Θ (-1) _ _ r h
def F_X11_calmer (Θ : GP) (l0 : Nat) (l1 : Int32) (ω : OW) (n : Nat) : RO := rA ω l0 11 1 (fun a1 => lI ω (gI Θ) a1 5 (fun x2 => some (.inl (some (.int (if 0 < (l1 - x2) then (l1 - x2) else 0)), ω, n))))
theorem ok_X11_calmer (Θ : GP) (l0 : Nat) (l1 : Int32) (ω : OW) (n : Nat) : Ok Θ 1 0 0 yX11_calmer cX11_calmer 2 (some .int) [.ref l0, .int l1] ω n (F_X11_calmer Θ l0 l1 ω n) := by
  refine Ok.of (by decide +kernel) (Nat.le_of_ble_eq_true rfl) (fun r h => ?_)
  unfold F_X11_calmer at h
  show GR Θ yX11_calmer cX11_calmer 2 (some .int) 1 (0, 0) 0 [(0, .ref l0), (1, .int l1)] [] ω n r
  refine g_iconst (v := 0) dX11_calmer_0 (by decide) ?_
  refine g_iload_n dX11_calmer_1 rfl 1 rfl ?_
  refine g_aload_n dX11_calmer_2 rfl 0 rfl ?_
  refine g_rA fl_X11_13 dX11_calmer_3 h (fun a1 h => ?_)
  refine g_iconst (v := 5) dX11_calmer_6 (by decide) ?_
  refine g_lIi dX11_calmer_7 h (fun x2 h => ?_)
  refine g_isub dX11_calmer_8 ?_
  refine g_max wd_1817 wd_610 wd_135 wd_611 dX11_calmer_9 (by decide) (Nat.le_of_ble_eq_true rfl) ?_
  cases h
  exact g_iret rfl dX11_calmer_12 rfl
def J_X11_comesTo_44 (Θ : GP) (l0 : Nat) (l1 : Int32) (l2 : Int32) (l3 : Int32) (s0 : Int32) (s1 : Int32) (s2 : Nat) (ω : OW) (n : Nat) : RO := sI ω (gI Θ) s2 s1 s0 (fun ω => rI ω l0 11 29 (fun x1 => wF ω l0 11 29 (.int (x1 ||| (1 <<< ((l1 : Int32) &&& 31)))) (fun ω => rI ω l0 11 30 (fun x2 => rA ω l0 11 26 (fun a3 => lI ω (gI Θ) a3 l2 (fun x4 => wF ω l0 11 30 (.int (x2 + (x4 + l3))) (fun ω => some (.inl (none, ω, n)))))))))
def F_X11_comesTo (Θ : GP) (l0 : Nat) (l1 : Int32) (l2 : Int32) (l3 : Int32) (ω : OW) (n : Nat) : RO := rA ω l0 11 27 (fun a5 => rI ω l0 11 30 (fun x6 => cO ω l0 11 (kI (F_X11_wearsBy Θ l0 l1 x6 ω n) (fun x7 ω n => sI ω (gI Θ) a5 l1 x7 (fun ω => rA ω l0 11 26 (fun a8 => rI ω l0 11 24 (fun x9 => kI (F_X11_has Θ x9 l1 ω n) (fun x10 ω n => if x10 = 0 then (rI ω l0 11 30 (fun x12 => cO ω l0 11 (kI (F_X11_frightsBy Θ l0 l1 x12 ω n) (fun x13 ω n => J_X11_comesTo_44 Θ l0 l1 l2 l3 x13 l2 a8 ω n)))) else (J_X11_comesTo_44 Θ l0 l1 l2 l3 0 l2 a8 ω n)))))))))
theorem ok_J_X11_comesTo_44 (Θ : GP) (l0 : Nat) (l1 : Int32) (l2 : Int32) (l3 : Int32) (s0 : Int32) (s1 : Int32) (s2 : Nat) (ω : OW) (n : Nat) (r : Out) (h : J_X11_comesTo_44 Θ l0 l1 l2 l3 s0 s1 s2 ω n = some r) : GR Θ yX11_comesTo cX11_comesTo 4 (none : Option Jvm.ClassFile.FieldType) 7 (0, 0) 44 [(0, .ref l0), (1, .int l1), (2, .int l2), (3, .int l3)] [.int s0, .int s1, .ref s2] ω n r := by
  unfold J_X11_comesTo_44 at h
  refine g_sIi dX11_comesTo_44 h (fun ω h => ?_)
  refine g_aload_n dX11_comesTo_45 rfl 0 rfl ?_
  refine g_dup dX11_comesTo_46 rfl ?_
  refine g_rI fl_X11_322 dX11_comesTo_47 h (fun x1 h => ?_)
  refine g_iconst (v := 1) dX11_comesTo_50 (by decide) ?_
  refine g_iload_n dX11_comesTo_51 rfl 1 rfl ?_
  refine g_ishl dX11_comesTo_52 ?_
  refine g_ior dX11_comesTo_53 ?_
  refine g_wF fl_X11_322 dX11_comesTo_54 (rfl) rfl h (fun ω h => ?_)
  refine g_aload_n dX11_comesTo_57 rfl 0 rfl ?_
  refine g_dup dX11_comesTo_58 rfl ?_
  refine g_rI fl_X11_316 dX11_comesTo_59 h (fun x2 h => ?_)
  refine g_aload_n dX11_comesTo_62 rfl 0 rfl ?_
  refine g_rA fl_X11_45 dX11_comesTo_63 h (fun a3 h => ?_)
  refine g_iload_n dX11_comesTo_66 rfl 2 rfl ?_
  refine g_lIi dX11_comesTo_67 h (fun x4 h => ?_)
  refine g_iload_n dX11_comesTo_68 rfl 3 rfl ?_
  refine g_iadd dX11_comesTo_69 ?_
  refine g_iadd dX11_comesTo_70 ?_
  refine g_wF fl_X11_316 dX11_comesTo_71 (rfl) rfl h (fun ω h => ?_)
  cases h
  exact g_vret rfl dX11_comesTo_74 rfl
theorem ok_X11_comesTo (Θ : GP) (l0 : Nat) (l1 : Int32) (l2 : Int32) (l3 : Int32) (ω : OW) (n : Nat) : Ok Θ 7 0 0 yX11_comesTo cX11_comesTo 4 (none : Option Jvm.ClassFile.FieldType) [.ref l0, .int l1, .int l2, .int l3] ω n (F_X11_comesTo Θ l0 l1 l2 l3 ω n) := by
  refine Ok.of (by decide +kernel) (Nat.le_of_ble_eq_true rfl) (fun r h => ?_)
  unfold F_X11_comesTo at h
  show GR Θ yX11_comesTo cX11_comesTo 4 (none : Option Jvm.ClassFile.FieldType) 7 (0, 0) 0 [(0, .ref l0), (1, .int l1), (2, .int l2), (3, .int l3)] [] ω n r
  refine g_aload_n dX11_comesTo_0 rfl 0 rfl ?_
  refine g_rA fl_X11_48 dX11_comesTo_1 h (fun a5 h => ?_)
  refine g_iload_n dX11_comesTo_4 rfl 1 rfl ?_
  refine g_aload_n dX11_comesTo_5 rfl 0 rfl ?_
  refine g_iload_n dX11_comesTo_6 rfl 1 rfl ?_
  refine g_aload_n dX11_comesTo_7 rfl 0 rfl ?_
  refine g_rI fl_X11_316 dX11_comesTo_8 h (fun x6 h => ?_)
  refine g_cI (ci := 11) (As := [.int l1, .int x6]) mv_X11_307 dX11_comesTo_11 rfl (ok_X11_wearsBy Θ l0 l1 x6 _ _) rfl rfl (Nat.le_of_ble_eq_true rfl) (by decide) (by decide) (by decide) h (fun x7 ω n h => ?_)
  refine G.less (B' := (0, 0)) (by decide) (by decide) ?_
  refine g_sIi dX11_comesTo_14 h (fun ω h => ?_)
  refine g_aload_n dX11_comesTo_15 rfl 0 rfl ?_
  refine g_rA fl_X11_45 dX11_comesTo_16 h (fun a8 h => ?_)
  refine g_iload_n dX11_comesTo_19 rfl 2 rfl ?_
  refine g_aload_n dX11_comesTo_20 rfl 0 rfl ?_
  refine g_rI fl_X11_319 dX11_comesTo_21 h (fun x9 h => ?_)
  refine g_iload_n dX11_comesTo_24 rfl 1 rfl ?_
  refine g_sI (As := [.int x9, .int l1]) ms_X11_137 dX11_comesTo_25 (ok_X11_has Θ x9 l1 _ _) rfl rfl (Nat.le_of_ble_eq_true rfl) (by decide) (by decide) (by decide) h (fun x10 ω n h => ?_)
  refine G.less (B' := (0, 0)) (by decide) (by decide) ?_
  refine g_if_eq (tgt := 35) dX11_comesTo_28 (by decide) (fun c11 => ?_) (fun c11 => ?_)
  · rw [if_pos c11] at h
    refine g_aload_n dX11_comesTo_35 rfl 0 rfl ?_
    refine g_iload_n dX11_comesTo_36 rfl 1 rfl ?_
    refine g_aload_n dX11_comesTo_37 rfl 0 rfl ?_
    refine g_rI fl_X11_316 dX11_comesTo_38 h (fun x12 h => ?_)
    refine g_cI (ci := 11) (As := [.int l1, .int x12]) mv_X11_310 dX11_comesTo_41 rfl (ok_X11_frightsBy Θ l0 l1 x12 _ _) rfl rfl (Nat.le_of_ble_eq_true rfl) (by decide) (by decide) (by decide) h (fun x13 ω n h => ?_)
    refine G.less (B' := (0, 0)) (by decide) (by decide) ?_
    exact ok_J_X11_comesTo_44 Θ l0 l1 l2 l3 x13 l2 a8 _ _ r h
  · rw [if_neg c11] at h
    refine g_iconst (v := 0) dX11_comesTo_31 (by decide) ?_
    refine g_goto (tgt := 44) dX11_comesTo_32 (by decide) ?_
    exact ok_J_X11_comesTo_44 Θ l0 l1 l2 l3 0 l2 a8 _ _ r h
def F_X11_begins (Θ : GP) (l0 : Nat) (ω : OW) (n : Nat) : RO := wF ω l0 11 28 (.int (-1)) (fun ω => wF ω l0 11 29 (.int 0) (fun ω => wF ω l0 11 30 (.int 0) (fun ω => some (.inl (none, ω, n)))))
theorem ok_X11_begins (Θ : GP) (l0 : Nat) (ω : OW) (n : Nat) : Ok Θ 1 0 0 yX11_begins cX11_begins 1 (none : Option Jvm.ClassFile.FieldType) [.ref l0] ω n (F_X11_begins Θ l0 ω n) := by
  refine Ok.of (by decide +kernel) (Nat.le_of_ble_eq_true rfl) (fun r h => ?_)
  unfold F_X11_begins at h
  show GR Θ yX11_begins cX11_begins 1 (none : Option Jvm.ClassFile.FieldType) 1 (0, 0) 0 [(0, .ref l0)] [] ω n r
  refine g_aload_n dX11_begins_0 rfl 0 rfl ?_
  refine g_iconst (v := (-1)) dX11_begins_1 (by decide) ?_
  refine g_wF fl_X11_325 dX11_begins_2 (rfl) rfl h (fun ω h => ?_)
  refine g_aload_n dX11_begins_5 rfl 0 rfl ?_
  refine g_iconst (v := 0) dX11_begins_6 (by decide) ?_
  refine g_wF fl_X11_322 dX11_begins_7 (rfl) rfl h (fun ω h => ?_)
  refine g_aload_n dX11_begins_10 rfl 0 rfl ?_
  refine g_iconst (v := 0) dX11_begins_11 (by decide) ?_
  refine g_wF fl_X11_316 dX11_begins_12 (rfl) rfl h (fun ω h => ?_)
  cases h
  exact g_vret rfl dX11_begins_15 rfl
def J_X11_rideSlot_85 (Θ : GP) (ω : OW) (n : Nat) : RO := some (.inl (none, ω, n))
def J_X11_rideSlot_55 (Θ : GP) (l0 : Nat) (l1 : Int32) (l3 : Int32) (ω : OW) (n : Nat) : RO := rA ω l0 11 25 (fun a1 => rI ω l0 11 30 (fun x2 => sI ω (gI Θ) a1 l1 x2 (fun ω => rI ω l0 11 30 (fun x3 => rI ω l0 11 19 (fun x4 => if x3 ≤ x4 then (J_X11_rideSlot_85 Θ ω n) else (if l3 = 0 then (wF ω l0 11 28 (.int l1) (fun ω => J_X11_rideSlot_85 Θ ω n)) else (J_X11_rideSlot_85 Θ ω n)))))))
def J_X11_rideSlot_52 (Θ : GP) (l0 : Nat) (l1 : Int32) (l3 : Int32) (s0 : Int32) (s1 : Int32) (s2 : Int32) (s3 : Nat) (ω : OW) (n : Nat) : RO := cO ω s3 11 (kV (F_X11_comesTo Θ s3 s2 s1 s0 ω n) (fun ω n => J_X11_rideSlot_55 Θ l0 l1 l3 ω n))
def F_X11_rideSlot (Θ : GP) (l0 : Nat) (l1 : Int32) (l2 : Int32) (l3 : Int32) (ω : OW) (n : Nat) : RO := cO ω l0 11 (kI (F_X11_propOnTheWay Θ l0 l1 ω n) (fun x8 ω n => rA ω l0 11 26 (fun a9 => sI ω (gI Θ) a9 l1 0 (fun ω => if x8 = (-1) then (rI ω l0 11 30 (fun x13 => cO ω l0 11 (kI (F_X11_calmer Θ l0 x13 ω n) (fun x14 ω n => wF ω l0 11 30 (.int x14) (fun ω => J_X11_rideSlot_55 Θ l0 l1 l3 ω n))))) else (if l2 = 0 then (J_X11_rideSlot_52 Θ l0 l1 l3 1 l1 x8 l0 ω n) else (cO ω l0 11 (kI (F_X11_drawn Θ l0 3 ω n) (fun x12 ω n => J_X11_rideSlot_52 Θ l0 l1 l3 x12 l1 x8 l0 ω n))))))))
theorem ok_J_X11_rideSlot_85 (Θ : GP) (ω : OW) (n : Nat) (r : Out) (h : J_X11_rideSlot_85 Θ ω n = some r) : GR Θ yX11_rideSlot cX11_rideSlot 5 (none : Option Jvm.ClassFile.FieldType) 8 (0, 0) 85 [] [] ω n r := by
  unfold J_X11_rideSlot_85 at h
  cases h
  exact g_vret rfl dX11_rideSlot_85 rfl
theorem ok_J_X11_rideSlot_55 (Θ : GP) (l0 : Nat) (l1 : Int32) (l3 : Int32) (ω : OW) (n : Nat) (r : Out) (h : J_X11_rideSlot_55 Θ l0 l1 l3 ω n = some r) : GR Θ yX11_rideSlot cX11_rideSlot 5 (none : Option Jvm.ClassFile.FieldType) 8 (0, 0) 55 [(0, .ref l0), (1, .int l1), (3, .int l3)] [] ω n r := by
  unfold J_X11_rideSlot_55 at h
  refine g_aload_n dX11_rideSlot_55 rfl 0 rfl ?_
  refine g_rA fl_X11_42 dX11_rideSlot_56 h (fun a1 h => ?_)
  refine g_iload_n dX11_rideSlot_59 rfl 1 rfl ?_
  refine g_aload_n dX11_rideSlot_60 rfl 0 rfl ?_
  refine g_rI fl_X11_316 dX11_rideSlot_61 h (fun x2 h => ?_)
  refine g_sIi dX11_rideSlot_64 h (fun ω h => ?_)
  refine g_aload_n dX11_rideSlot_65 rfl 0 rfl ?_
  refine g_rI fl_X11_316 dX11_rideSlot_66 h (fun x3 h => ?_)
  refine g_aload_n dX11_rideSlot_69 rfl 0 rfl ?_
  refine g_rI fl_X11_268 dX11_rideSlot_70 h (fun x4 h => ?_)
  refine g_icmp_le (tgt := 85) dX11_rideSlot_73 (by decide) (fun c5 => ?_) (fun c5 => ?_)
  · rw [if_pos c5] at h
    refine G.lsub [] rfl ?_
    exact ok_J_X11_rideSlot_85 Θ _ _ r h
  · rw [if_neg c5] at h
    refine g_iload_n dX11_rideSlot_76 rfl 2 rfl ?_
    refine g_if_ne (tgt := 85) dX11_rideSlot_77 (by decide) (fun c6 => ?_) (fun c6 => ?_)
    · rw [if_neg c6] at h
      refine G.lsub [] rfl ?_
      exact ok_J_X11_rideSlot_85 Θ _ _ r h
    · rw [if_pos c6] at h
      refine g_aload_n dX11_rideSlot_80 rfl 0 rfl ?_
      refine g_iload_n dX11_rideSlot_81 rfl 1 rfl ?_
      refine g_wF fl_X11_325 dX11_rideSlot_82 (rfl) rfl h (fun ω h => ?_)
      refine G.lsub [] rfl ?_
      exact ok_J_X11_rideSlot_85 Θ _ _ r h
theorem ok_J_X11_rideSlot_52 (Θ : GP) (l0 : Nat) (l1 : Int32) (l3 : Int32) (s0 : Int32) (s1 : Int32) (s2 : Int32) (s3 : Nat) (ω : OW) (n : Nat) (r : Out) (h : J_X11_rideSlot_52 Θ l0 l1 l3 s0 s1 s2 s3 ω n = some r) : GR Θ yX11_rideSlot cX11_rideSlot 5 (none : Option Jvm.ClassFile.FieldType) 8 (0, 0) 52 [(0, .ref l0), (1, .int l1), (3, .int l3)] [.int s0, .int s1, .int s2, .ref s3] ω n r := by
  unfold J_X11_rideSlot_52 at h
  refine g_cV (ci := 11) (As := [.int s2, .int s1, .int s0]) mv_X11_337 dX11_rideSlot_52 rfl (ok_X11_comesTo Θ s3 s2 s1 s0 _ _) rfl rfl (Nat.le_of_ble_eq_true rfl) (by decide) (by decide) (by decide) h (fun ω n h => ?_)
  refine G.less (B' := (0, 0)) (by decide) (by decide) ?_
  exact ok_J_X11_rideSlot_55 Θ l0 l1 l3 _ _ r h
theorem ok_X11_rideSlot (Θ : GP) (l0 : Nat) (l1 : Int32) (l2 : Int32) (l3 : Int32) (ω : OW) (n : Nat) : Ok Θ 8 0 0 yX11_rideSlot cX11_rideSlot 5 (none : Option Jvm.ClassFile.FieldType) [.ref l0, .int l1, .int l2, .int l3] ω n (F_X11_rideSlot Θ l0 l1 l2 l3 ω n) := by
  refine Ok.of (by decide +kernel) (Nat.le_of_ble_eq_true rfl) (fun r h => ?_)
  unfold F_X11_rideSlot at h
  show GR Θ yX11_rideSlot cX11_rideSlot 5 (none : Option Jvm.ClassFile.FieldType) 8 (0, 0) 0 [(0, .ref l0), (1, .int l1), (2, .int l2), (3, .int l3)] [] ω n r
  refine g_aload_n dX11_rideSlot_0 rfl 0 rfl ?_
  refine g_iload_n dX11_rideSlot_1 rfl 1 rfl ?_
  refine g_cI (ci := 11) (As := [.int l1]) mv_X11_328 dX11_rideSlot_2 rfl (ok_X11_propOnTheWay Θ l0 l1 _ _) rfl rfl (Nat.le_of_ble_eq_true rfl) (by decide) (by decide) (by decide) h (fun x8 ω n h => ?_)
  refine G.less (B' := (0, 0)) (by decide) (by decide) ?_
  refine g_istore (lv' := [(4, .int x8), (0, .ref l0), (1, .int l1), (2, .int l2), (3, .int l3)]) dX11_rideSlot_5 (by decide) rfl ?_
  refine g_aload_n dX11_rideSlot_7 rfl 1 rfl ?_
  refine g_rA fl_X11_45 dX11_rideSlot_8 h (fun a9 h => ?_)
  refine g_iload_n dX11_rideSlot_11 rfl 2 rfl ?_
  refine g_iconst (v := 0) dX11_rideSlot_12 (by decide) ?_
  refine g_sIi dX11_rideSlot_13 h (fun ω h => ?_)
  refine g_iload dX11_rideSlot_14 0 rfl ?_
  refine g_iconst (v := (-1)) dX11_rideSlot_16 (by decide) ?_
  refine g_icmp_ne (tgt := 35) dX11_rideSlot_17 (by decide) (fun c10 => ?_) (fun c10 => ?_)
  · rw [if_neg c10] at h
    refine g_aload_n dX11_rideSlot_35 rfl 1 rfl ?_
    refine g_iload dX11_rideSlot_36 0 rfl ?_
    refine g_iload_n dX11_rideSlot_38 rfl 2 rfl ?_
    refine g_iload_n dX11_rideSlot_39 rfl 3 rfl ?_
    refine g_if_eq (tgt := 51) dX11_rideSlot_40 (by decide) (fun c11 => ?_) (fun c11 => ?_)
    · rw [if_pos c11] at h
      refine g_iconst (v := 1) dX11_rideSlot_51 (by decide) ?_
      refine G.lsub [1, 2, 4] rfl ?_
      exact ok_J_X11_rideSlot_52 Θ l0 l1 l3 1 l1 x8 l0 _ _ r h
    · rw [if_neg c11] at h
      refine g_aload_n dX11_rideSlot_43 rfl 1 rfl ?_
      refine g_iconst (v := 3) dX11_rideSlot_44 (by decide) ?_
      refine g_cI (ci := 11) (As := [.int 3]) mv_X11_334 dX11_rideSlot_45 rfl (ok_X11_drawn Θ l0 3 _ _) rfl rfl (Nat.le_of_ble_eq_true rfl) (by decide) (by decide) (by decide) h (fun x12 ω n h => ?_)
      refine G.less (B' := (0, 0)) (by decide) (by decide) ?_
      refine g_goto (tgt := 52) dX11_rideSlot_48 (by decide) ?_
      refine G.lsub [1, 2, 4] rfl ?_
      exact ok_J_X11_rideSlot_52 Θ l0 l1 l3 x12 l1 x8 l0 _ _ r h
  · rw [if_pos c10] at h
    refine g_aload_n dX11_rideSlot_20 rfl 1 rfl ?_
    refine g_aload_n dX11_rideSlot_21 rfl 1 rfl ?_
    refine g_aload_n dX11_rideSlot_22 rfl 1 rfl ?_
    refine g_rI fl_X11_316 dX11_rideSlot_23 h (fun x13 h => ?_)
    refine g_cI (ci := 11) (As := [.int x13]) mv_X11_331 dX11_rideSlot_26 rfl (ok_X11_calmer Θ l0 x13 _ _) rfl rfl (Nat.le_of_ble_eq_true rfl) (by decide) (by decide) (by decide) h (fun x14 ω n h => ?_)
    refine G.less (B' := (0, 0)) (by decide) (by decide) ?_
    refine g_wF fl_X11_316 dX11_rideSlot_29 (rfl) rfl h (fun ω h => ?_)
    refine g_goto (tgt := 55) dX11_rideSlot_32 (by decide) ?_
    refine G.lsub [1, 2, 4] rfl ?_
    exact ok_J_X11_rideSlot_55 Θ l0 l1 l3 _ _ r h
def J_X11_rides_41 (Θ : GP) (k_6 : Nat → Int32 → Int32 → Int32 → OW → Nat → RO) (l0 : Nat) (l1 : Int32) (l2 : Int32) (l3 : Int32) (ω : OW) (n : Nat) : RO := k_6 l0 l1 l2 (l3 + 1) ω n
def B_X11_rides_6 (Θ : GP) (k_6 : Nat → Int32 → Int32 → Int32 → OW → Nat → RO) (l0 : Nat) (l1 : Int32) (l2 : Int32) (l3 : Int32) (ω : OW) (n : Nat) : RO := if 10 ≤ l3 then (rI ω l0 11 28 (fun x2 => some (.inl (some (.int x2), ω, n)))) else (rA ω l0 11 25 (fun a3 => sI ω (gI Θ) a3 l3 (-1) (fun ω => rA ω l0 11 26 (fun a4 => sI ω (gI Θ) a4 l3 0 (fun ω => rI ω l0 11 28 (fun x5 => if x5 = (-1) then (cO ω l0 11 (kV (F_X11_rideSlot Θ l0 l3 l1 l2 ω n) (fun ω n => J_X11_rides_41 Θ k_6 l0 l1 l2 l3 ω n))) else (J_X11_rides_41 Θ k_6 l0 l1 l2 l3 ω n)))))))
def L_X11_rides_6 (Θ : GP) : Nat → Nat → Int32 → Int32 → Int32 → OW → Nat → RO
  | 0, _, _, _, _, _, _ => none
  | f + 1, l0, l1, l2, l3, ω, n => B_X11_rides_6 Θ (L_X11_rides_6 Θ f) l0 l1 l2 l3 ω n
def F_X11_rides (Θ : GP) (l0 : Nat) (l1 : Int32) (l2 : Int32) (ω : OW) (n : Nat) : RO := cO ω l0 11 (kV (F_X11_begins Θ l0 ω n) (fun ω n => L_X11_rides_6 Θ 5000 l0 l1 l2 0 ω n))
theorem ok_J_X11_rides_41 (Θ : GP) (k_6 : Nat → Int32 → Int32 → Int32 → OW → Nat → RO) (hk_6 : ∀ l0 l1 l2 l3 ω n r, k_6 l0 l1 l2 l3 ω n = some r → GR Θ yX11_rides cX11_rides 4 (some .int) 9 (0, 0) 6 [(0, .ref l0), (1, .int l1), (2, .int l2), (3, .int l3)] [] ω n r) (l0 : Nat) (l1 : Int32) (l2 : Int32) (l3 : Int32) (ω : OW) (n : Nat) (r : Out) (h : J_X11_rides_41 Θ k_6 l0 l1 l2 l3 ω n = some r) : GR Θ yX11_rides cX11_rides 4 (some .int) 9 (0, 0) 41 [(0, .ref l0), (1, .int l1), (2, .int l2), (3, .int l3)] [] ω n r := by
  unfold J_X11_rides_41 at h
  refine g_iinc (j := 3) (v := l3 + 1) (lv' := [(3, .int (l3 + 1)), (0, .ref l0), (1, .int l1), (2, .int l2)]) dX11_rides_41 rfl rfl (by decide) rfl ?_
  refine g_goto (tgt := 6) dX11_rides_44 (by decide) ?_
  refine G.lsub [1, 2, 3, 0] rfl ?_
  exact hk_6 l0 l1 l2 (l3 + 1) _ _ r h
theorem ok_B_X11_rides_6 (Θ : GP) (k_6 : Nat → Int32 → Int32 → Int32 → OW → Nat → RO) (hk_6 : ∀ l0 l1 l2 l3 ω n r, k_6 l0 l1 l2 l3 ω n = some r → GR Θ yX11_rides cX11_rides 4 (some .int) 9 (0, 0) 6 [(0, .ref l0), (1, .int l1), (2, .int l2), (3, .int l3)] [] ω n r) (l0 : Nat) (l1 : Int32) (l2 : Int32) (l3 : Int32) (ω : OW) (n : Nat) (r : Out) (h : B_X11_rides_6 Θ k_6 l0 l1 l2 l3 ω n = some r) : GR Θ yX11_rides cX11_rides 4 (some .int) 9 (0, 0) 6 [(0, .ref l0), (1, .int l1), (2, .int l2), (3, .int l3)] [] ω n r := by
  unfold B_X11_rides_6 at h
  refine g_iload_n dX11_rides_6 rfl 3 rfl ?_
  refine g_bipush (v := 10) dX11_rides_7 (by decide) ?_
  refine g_icmp_ge (tgt := 47) dX11_rides_9 (by decide) (fun c1 => ?_) (fun c1 => ?_)
  · rw [if_pos c1] at h
    refine g_aload_n dX11_rides_47 rfl 0 rfl ?_
    refine g_rI fl_X11_325 dX11_rides_48 h (fun x2 h => ?_)
    cases h
    exact g_iret rfl dX11_rides_51 rfl
  · rw [if_neg c1] at h
    refine g_aload_n dX11_rides_12 rfl 0 rfl ?_
    refine g_rA fl_X11_42 dX11_rides_13 h (fun a3 h => ?_)
    refine g_iload_n dX11_rides_16 rfl 3 rfl ?_
    refine g_iconst (v := (-1)) dX11_rides_17 (by decide) ?_
    refine g_sIi dX11_rides_18 h (fun ω h => ?_)
    refine g_aload_n dX11_rides_19 rfl 0 rfl ?_
    refine g_rA fl_X11_45 dX11_rides_20 h (fun a4 h => ?_)
    refine g_iload_n dX11_rides_23 rfl 3 rfl ?_
    refine g_iconst (v := 0) dX11_rides_24 (by decide) ?_
    refine g_sIi dX11_rides_25 h (fun ω h => ?_)
    refine g_aload_n dX11_rides_26 rfl 0 rfl ?_
    refine g_rI fl_X11_325 dX11_rides_27 h (fun x5 h => ?_)
    refine g_iconst (v := (-1)) dX11_rides_30 (by decide) ?_
    refine g_icmp_ne (tgt := 41) dX11_rides_31 (by decide) (fun c6 => ?_) (fun c6 => ?_)
    · rw [if_neg c6] at h
      exact ok_J_X11_rides_41 Θ k_6 hk_6 l0 l1 l2 l3 _ _ r h
    · rw [if_pos c6] at h
      refine g_aload_n dX11_rides_34 rfl 0 rfl ?_
      refine g_iload_n dX11_rides_35 rfl 3 rfl ?_
      refine g_iload_n dX11_rides_36 rfl 1 rfl ?_
      refine g_iload_n dX11_rides_37 rfl 2 rfl ?_
      refine g_cV (ci := 11) (As := [.int l3, .int l1, .int l2]) mv_X11_344 dX11_rides_38 rfl (ok_X11_rideSlot Θ l0 l3 l1 l2 _ _) rfl rfl (Nat.le_of_ble_eq_true rfl) (by decide) (by decide) (by decide) h (fun ω n h => ?_)
      refine G.less (B' := (0, 0)) (by decide) (by decide) ?_
      exact ok_J_X11_rides_41 Θ k_6 hk_6 l0 l1 l2 l3 _ _ r h
theorem ok_L_X11_rides_6 (Θ : GP) : ∀ (f : Nat) (l0 : Nat) (l1 : Int32) (l2 : Int32) (l3 : Int32) (ω : OW) (n : Nat) (r : Out), L_X11_rides_6 Θ f l0 l1 l2 l3 ω n = some r → GR Θ yX11_rides cX11_rides 4 (some .int) 9 (0, 0) 6 [(0, .ref l0), (1, .int l1), (2, .int l2), (3, .int l3)] [] ω n r := by
  intro f
  induction f with
  | zero =>
    intro l0 l1 l2 l3 ω n r h
    unfold L_X11_rides_6 at h
    cases h
  | succ f ih =>
    intro l0 l1 l2 l3 ω n r h
    unfold L_X11_rides_6 at h
    exact ok_B_X11_rides_6 Θ (L_X11_rides_6 Θ f) ih l0 l1 l2 l3 ω n r h
theorem ok_X11_rides (Θ : GP) (l0 : Nat) (l1 : Int32) (l2 : Int32) (ω : OW) (n : Nat) : Ok Θ 9 0 0 yX11_rides cX11_rides 4 (some .int) [.ref l0, .int l1, .int l2] ω n (F_X11_rides Θ l0 l1 l2 ω n) := by
  refine Ok.of (by decide +kernel) (Nat.le_of_ble_eq_true rfl) (fun r h => ?_)
  unfold F_X11_rides at h
  show GR Θ yX11_rides cX11_rides 4 (some .int) 9 (0, 0) 0 [(0, .ref l0), (1, .int l1), (2, .int l2)] [] ω n r
  refine g_aload_n dX11_rides_0 rfl 0 rfl ?_
  refine g_cV (ci := 11) (As := []) mv_X11_341 dX11_rides_1 rfl (ok_X11_begins Θ l0 _ _) rfl rfl (Nat.le_of_ble_eq_true rfl) (by decide) (by decide) (by decide) h (fun ω n h => ?_)
  refine G.less (B' := (0, 0)) (by decide) (by decide) ?_
  refine g_iconst (v := 0) dX11_rides_4 (by decide) ?_
  refine g_istore_n (lv' := [(3, .int 0), (0, .ref l0), (1, .int l1), (2, .int l2)]) dX11_rides_5 rfl (by decide) rfl ?_
  refine G.lsub [1, 2, 3, 0] rfl ?_
  exact ok_L_X11_rides_6 Θ 5000 l0 l1 l2 0 _ _ r h
def F_X11_ridesStraight (Θ : GP) (l0 : Nat) (l1 : Int32) (ω : OW) (n : Nat) : RO := cO ω l0 11 (kV (F_X11_looksAt Θ l0 l1 ω n) (fun ω n => cO ω l0 11 (kI (F_X11_rides Θ l0 0 0 ω n) (fun x2 ω n => some (.inl (some (.int x2), ω, n))))))
theorem ok_X11_ridesStraight (Θ : GP) (l0 : Nat) (l1 : Int32) (ω : OW) (n : Nat) : Ok Θ 10 0 0 yX11_ridesStraight cX11_ridesStraight 2 (some .int) [.ref l0, .int l1] ω n (F_X11_ridesStraight Θ l0 l1 ω n) := by
  refine Ok.of (by decide +kernel) (Nat.le_of_ble_eq_true rfl) (fun r h => ?_)
  unfold F_X11_ridesStraight at h
  show GR Θ yX11_ridesStraight cX11_ridesStraight 2 (some .int) 10 (0, 0) 0 [(0, .ref l0), (1, .int l1)] [] ω n r
  refine g_aload_n dX11_ridesStraight_0 rfl 0 rfl ?_
  refine g_iload_n dX11_ridesStraight_1 rfl 1 rfl ?_
  refine g_cV (ci := 11) (As := [.int l1]) mv_X11_303 dX11_ridesStraight_2 rfl (ok_X11_looksAt Θ l0 l1 _ _) rfl rfl (Nat.le_of_ble_eq_true rfl) (by decide) (by decide) (by decide) h (fun ω n h => ?_)
  refine G.less (B' := (0, 0)) (by decide) (by decide) ?_
  refine g_aload_n dX11_ridesStraight_5 rfl 0 rfl ?_
  refine g_iconst (v := 0) dX11_ridesStraight_6 (by decide) ?_
  refine g_iconst (v := 0) dX11_ridesStraight_7 (by decide) ?_
  refine g_cI (ci := 11) (As := [.int 0, .int 0]) mv_X11_348 dX11_ridesStraight_8 rfl (ok_X11_rides Θ l0 0 0 _ _) rfl rfl (Nat.le_of_ble_eq_true rfl) (by decide) (by decide) (by decide) h (fun x2 ω n h => ?_)
  refine G.less (B' := (0, 0)) (by decide) (by decide) ?_
  cases h
  exact g_iret rfl dX11_ridesStraight_11 rfl
def J_X11_laysOn_66 (Θ : GP) (k_19 : Nat → Int32 → OW → Nat → RO) (l0 : Nat) (l2 : Int32) (ω : OW) (n : Nat) : RO := k_19 l0 (l2 + 1) ω n
def B_X11_laysOn_19 (Θ : GP) (k_19 : Nat → Int32 → OW → Nat → RO) (l0 : Nat) (l2 : Int32) (ω : OW) (n : Nat) : RO := cO ω l0 11 (kI (F_X11_props Θ l0 ω n) (fun x1 ω n => if x1 ≤ l2 then (some (.inl (none, ω, n))) else (rI ω l0 11 29 (fun x3 => kI (F_X11_has Θ x3 l2 ω n) (fun x4 ω n => if x4 = 0 then (J_X11_laysOn_66 Θ k_19 l0 l2 ω n) else (rA ω l0 11 1 (fun a6 => kI (F_X11_propAt Θ l2 2 ω n) (fun x7 ω n => cO ω l0 11 (kI (F_X11_ofProp Θ l0 l2 2 ω n) (fun x8 ω n => rA ω l0 11 27 (fun a9 => lI ω (gI Θ) a9 l2 (fun x10 => sI ω (gI Θ) a6 x7 (if (x8 + x10) < 99 then (x8 + x10) else 99) (fun ω => J_X11_laysOn_66 Θ k_19 l0 l2 ω n)))))))))))))
def L_X11_laysOn_19 (Θ : GP) : Nat → Nat → Int32 → OW → Nat → RO
  | 0, _, _, _, _ => none
  | f + 1, l0, l2, ω, n => B_X11_laysOn_19 Θ (L_X11_laysOn_19 Θ f) l0 l2 ω n
def F_X11_laysOn (Θ : GP) (l0 : Nat) (l1 : Int32) (ω : OW) (n : Nat) : RO := rA ω l0 11 1 (fun a11 => kI (F_X11_oneAt Θ l1 2 ω n) (fun x12 ω n => lI ω (gI Θ) a11 x12 (fun x13 => rI ω l0 11 29 (fun x14 => sI ω (gI Θ) a11 x12 (x13 ||| x14) (fun ω => L_X11_laysOn_19 Θ 5000 l0 0 ω n)))))
theorem ok_J_X11_laysOn_66 (Θ : GP) (k_19 : Nat → Int32 → OW → Nat → RO) (hk_19 : ∀ l0 l2 ω n r, k_19 l0 l2 ω n = some r → GR Θ yX11_laysOn cX11_laysOn 3 (none : Option Jvm.ClassFile.FieldType) 3 (0, 0) 19 [(0, .ref l0), (2, .int l2)] [] ω n r) (l0 : Nat) (l2 : Int32) (ω : OW) (n : Nat) (r : Out) (h : J_X11_laysOn_66 Θ k_19 l0 l2 ω n = some r) : GR Θ yX11_laysOn cX11_laysOn 3 (none : Option Jvm.ClassFile.FieldType) 3 (0, 0) 66 [(0, .ref l0), (2, .int l2)] [] ω n r := by
  unfold J_X11_laysOn_66 at h
  refine g_iinc (j := 1) (v := l2 + 1) (lv' := [(2, .int (l2 + 1)), (0, .ref l0)]) dX11_laysOn_66 rfl rfl (by decide) rfl ?_
  refine g_goto (tgt := 19) dX11_laysOn_69 (by decide) ?_
  refine G.lsub [1, 0] rfl ?_
  exact hk_19 l0 (l2 + 1) _ _ r h
theorem ok_B_X11_laysOn_19 (Θ : GP) (k_19 : Nat → Int32 → OW → Nat → RO) (hk_19 : ∀ l0 l2 ω n r, k_19 l0 l2 ω n = some r → GR Θ yX11_laysOn cX11_laysOn 3 (none : Option Jvm.ClassFile.FieldType) 3 (0, 0) 19 [(0, .ref l0), (2, .int l2)] [] ω n r) (l0 : Nat) (l2 : Int32) (ω : OW) (n : Nat) (r : Out) (h : B_X11_laysOn_19 Θ k_19 l0 l2 ω n = some r) : GR Θ yX11_laysOn cX11_laysOn 3 (none : Option Jvm.ClassFile.FieldType) 3 (0, 0) 19 [(0, .ref l0), (2, .int l2)] [] ω n r := by
  unfold B_X11_laysOn_19 at h
  refine g_iload_n dX11_laysOn_19 rfl 1 rfl ?_
  refine g_aload_n dX11_laysOn_20 rfl 0 rfl ?_
  refine g_cI (ci := 11) (As := []) mv_X11_83 dX11_laysOn_21 rfl (ok_X11_props Θ l0 _ _) rfl rfl (Nat.le_of_ble_eq_true rfl) (by decide) (by decide) (by decide) h (fun x1 ω n h => ?_)
  refine G.less (B' := (0, 0)) (by decide) (by decide) ?_
  refine g_icmp_ge (tgt := 72) dX11_laysOn_24 (by decide) (fun c2 => ?_) (fun c2 => ?_)
  · rw [if_pos c2] at h
    cases h
    exact g_vret rfl dX11_laysOn_72 rfl
  · rw [if_neg c2] at h
    refine g_aload_n dX11_laysOn_27 rfl 0 rfl ?_
    refine g_rI fl_X11_322 dX11_laysOn_28 h (fun x3 h => ?_)
    refine g_iload_n dX11_laysOn_31 rfl 1 rfl ?_
    refine g_sI (As := [.int x3, .int l2]) ms_X11_137 dX11_laysOn_32 (ok_X11_has Θ x3 l2 _ _) rfl rfl (Nat.le_of_ble_eq_true rfl) (by decide) (by decide) (by decide) h (fun x4 ω n h => ?_)
    refine G.less (B' := (0, 0)) (by decide) (by decide) ?_
    refine g_if_eq (tgt := 66) dX11_laysOn_35 (by decide) (fun c5 => ?_) (fun c5 => ?_)
    · rw [if_pos c5] at h
      exact ok_J_X11_laysOn_66 Θ k_19 hk_19 l0 l2 _ _ r h
    · rw [if_neg c5] at h
      refine g_aload_n dX11_laysOn_38 rfl 0 rfl ?_
      refine g_rA fl_X11_13 dX11_laysOn_39 h (fun a6 h => ?_)
      refine g_iload_n dX11_laysOn_42 rfl 1 rfl ?_
      refine g_iconst (v := 2) dX11_laysOn_43 (by decide) ?_
      refine g_sI (As := [.int l2, .int 2]) ms_X11_70 dX11_laysOn_44 (ok_X11_propAt Θ l2 2 _ _) rfl rfl (Nat.le_of_ble_eq_true rfl) (by decide) (by decide) (by decide) h (fun x7 ω n h => ?_)
      refine G.less (B' := (0, 0)) (by decide) (by decide) ?_
      refine g_bipush (v := 99) dX11_laysOn_47 (by decide) ?_
      refine g_aload_n dX11_laysOn_49 rfl 0 rfl ?_
      refine g_iload_n dX11_laysOn_50 rfl 1 rfl ?_
      refine g_iconst (v := 2) dX11_laysOn_51 (by decide) ?_
      refine g_cI (ci := 11) (As := [.int l2, .int 2]) mv_X11_74 dX11_laysOn_52 rfl (ok_X11_ofProp Θ l0 l2 2 _ _) rfl rfl (Nat.le_of_ble_eq_true rfl) (by decide) (by decide) (by decide) h (fun x8 ω n h => ?_)
      refine G.less (B' := (0, 0)) (by decide) (by decide) ?_
      refine g_aload_n dX11_laysOn_55 rfl 0 rfl ?_
      refine g_rA fl_X11_48 dX11_laysOn_56 h (fun a9 h => ?_)
      refine g_iload_n dX11_laysOn_59 rfl 1 rfl ?_
      refine g_lIi dX11_laysOn_60 h (fun x10 h => ?_)
      refine g_iadd dX11_laysOn_61 ?_
      refine g_min wd_1863 wd_617 wd_135 wd_618 dX11_laysOn_62 (by decide) (Nat.le_of_ble_eq_true rfl) ?_
      refine g_sIi dX11_laysOn_65 h (fun ω h => ?_)
      exact ok_J_X11_laysOn_66 Θ k_19 hk_19 l0 l2 _ _ r h
theorem ok_L_X11_laysOn_19 (Θ : GP) : ∀ (f : Nat) (l0 : Nat) (l2 : Int32) (ω : OW) (n : Nat) (r : Out), L_X11_laysOn_19 Θ f l0 l2 ω n = some r → GR Θ yX11_laysOn cX11_laysOn 3 (none : Option Jvm.ClassFile.FieldType) 3 (0, 0) 19 [(0, .ref l0), (2, .int l2)] [] ω n r := by
  intro f
  induction f with
  | zero =>
    intro l0 l2 ω n r h
    unfold L_X11_laysOn_19 at h
    cases h
  | succ f ih =>
    intro l0 l2 ω n r h
    unfold L_X11_laysOn_19 at h
    exact ok_B_X11_laysOn_19 Θ (L_X11_laysOn_19 Θ f) ih l0 l2 ω n r h
theorem ok_X11_laysOn (Θ : GP) (l0 : Nat) (l1 : Int32) (ω : OW) (n : Nat) : Ok Θ 3 0 0 yX11_laysOn cX11_laysOn 3 (none : Option Jvm.ClassFile.FieldType) [.ref l0, .int l1] ω n (F_X11_laysOn Θ l0 l1 ω n) := by
  refine Ok.of (by decide +kernel) (Nat.le_of_ble_eq_true rfl) (fun r h => ?_)
  unfold F_X11_laysOn at h
  show GR Θ yX11_laysOn cX11_laysOn 3 (none : Option Jvm.ClassFile.FieldType) 3 (0, 0) 0 [(0, .ref l0), (1, .int l1)] [] ω n r
  refine g_aload_n dX11_laysOn_0 rfl 0 rfl ?_
  refine g_rA fl_X11_13 dX11_laysOn_1 h (fun a11 h => ?_)
  refine g_iload_n dX11_laysOn_4 rfl 1 rfl ?_
  refine g_iconst (v := 2) dX11_laysOn_5 (by decide) ?_
  refine g_sI (As := [.int l1, .int 2]) ms_X11_77 dX11_laysOn_6 (ok_X11_oneAt Θ l1 2 _ _) rfl rfl (Nat.le_of_ble_eq_true rfl) (by decide) (by decide) (by decide) h (fun x12 ω n h => ?_)
  refine G.less (B' := (0, 0)) (by decide) (by decide) ?_
  refine g_dup2 dX11_laysOn_9 rfl rfl ?_
  refine g_lIi dX11_laysOn_10 h (fun x13 h => ?_)
  refine g_aload_n dX11_laysOn_11 rfl 0 rfl ?_
  refine g_rI fl_X11_322 dX11_laysOn_12 h (fun x14 h => ?_)
  refine g_ior dX11_laysOn_15 ?_
  refine g_sIi dX11_laysOn_16 h (fun ω h => ?_)
  refine g_iconst (v := 0) dX11_laysOn_17 (by decide) ?_
  refine g_istore_n (lv' := [(2, .int 0), (0, .ref l0), (1, .int l1)]) dX11_laysOn_18 rfl (by decide) rfl ?_
  refine G.lsub [1, 0] rfl ?_
  exact ok_L_X11_laysOn_19 Θ 5000 l0 0 _ _ r h
def J_X11_send_155 (Θ : GP) (l0 : Nat) (l2 : Int32) (s0 : Int32) (s1 : Int32) (s2 : Nat) (ω : OW) (n : Nat) : RO := sI ω (gI Θ) s2 s1 s0 (fun ω => rA ω l0 11 1 (fun a1 => rI ω l0 11 30 (fun x2 => sI ω (gI Θ) a1 68 x2 (fun ω => rA ω l0 11 1 (fun a3 => rA ω l0 11 1 (fun a4 => lI ω (gI Θ) a4 7 (fun x5 => sI ω (gI Θ) a3 7 (if (x5 + 1) < 60 then (x5 + 1) else 60) (fun ω => some (.inl (some (.int l2), ω, n))))))))))
def B_X11_send_86 (Θ : GP) (k_86 : Nat → Int32 → Int32 → Int32 → OW → Nat → RO) (l0 : Nat) (l1 : Int32) (l2 : Int32) (l3 : Int32) (ω : OW) (n : Nat) : RO := if l3 < 4 then (rA ω l0 11 1 (fun a7 => rA ω l0 11 1 (fun a8 => lI ω (gI Θ) a8 4 (fun x9 => sI ω (gI Θ) a7 65 x9 (fun ω => rA ω l0 11 1 (fun a10 => sI ω (gI Θ) a10 66 l1 (fun ω => rA ω l0 11 1 (fun a11 => if l2 = (-1) then (J_X11_send_155 Θ l0 l2 10 67 a11 ω n) else (J_X11_send_155 Θ l0 l2 l2 67 a11 ω n))))))))) else (rA ω l0 11 1 (fun a13 => rA ω l0 11 1 (fun a14 => lI ω (gI Θ) a14 ((65 + l3) - 4) (fun x15 => sI ω (gI Θ) a13 (65 + l3) x15 (fun ω => k_86 l0 l1 l2 (l3 + (-1)) ω n)))))
def L_X11_send_86 (Θ : GP) : Nat → Nat → Int32 → Int32 → Int32 → OW → Nat → RO
  | 0, _, _, _, _, _, _ => none
  | f + 1, l0, l1, l2, l3, ω, n => B_X11_send_86 Θ (L_X11_send_86 Θ f) l0 l1 l2 l3 ω n
def J_X11_send_81 (Θ : GP) (l0 : Nat) (l1 : Int32) (l2 : Int32) (s0 : Int32) (s1 : Int32) (s2 : Nat) (ω : OW) (n : Nat) : RO := sI ω (gI Θ) s2 s1 s0 (fun ω => L_X11_send_86 Θ 5000 l0 l1 l2 239 ω n)
def J_X11_send_39 (Θ : GP) (ω : OW) (n : Nat) : RO := some (.inl (some (.int 0), ω, n))
def J_X11_send_32 (Θ : GP) (l0 : Nat) (l1 : Int32) (s0 : Int32) (s1 : Nat) (ω : OW) (n : Nat) : RO := cO ω s1 11 (kI (F_X11_throwsIf Θ s1 s0 2 ω n) (fun x16 ω n => if x16 = 0 then (cO ω l0 11 (kV (F_X11_remembers Θ l0 ω n) (fun ω n => cO ω l0 11 (kV (F_X11_looksAt Θ l0 l1 ω n) (fun ω n => cO ω l0 11 (kI (F_X11_rides Θ l0 1 0 ω n) (fun x20 ω n => cO ω l0 11 (kV (F_X11_laysOn Θ l0 l1 ω n) (fun ω n => rA ω l0 11 1 (fun a22 => kI (F_X11_oneAt Θ l1 3 ω n) (fun x23 ω n => if x20 = (-1) then (J_X11_send_81 Θ l0 l1 x20 2 x23 a22 ω n) else (J_X11_send_81 Θ l0 l1 x20 1 x23 a22 ω n)))))))))))) else (J_X11_send_39 Θ ω n)))
def F_X11_send (Θ : GP) (l0 : Nat) (l1 : Int32) (ω : OW) (n : Nat) : RO := wF ω l0 11 0 (.int 0) (fun ω => cO ω l0 11 (kI (F_X11_noOne Θ l0 l1 ω n) (fun x25 ω n => cO ω l0 11 (kI (F_X11_throwsIf Θ l0 x25 1 ω n) (fun x26 ω n => if x26 = 0 then (cO ω l0 11 (kI (F_X11_waits Θ l0 l1 ω n) (fun x28 ω n => if x28 = 0 then (J_X11_send_32 Θ l0 l1 1 l0 ω n) else (J_X11_send_32 Θ l0 l1 0 l0 ω n)))) else (J_X11_send_39 Θ ω n))))))
theorem ok_J_X11_send_155 (Θ : GP) (l0 : Nat) (l2 : Int32) (s0 : Int32) (s1 : Int32) (s2 : Nat) (ω : OW) (n : Nat) (r : Out) (h : J_X11_send_155 Θ l0 l2 s0 s1 s2 ω n = some r) : GR Θ yX11_send cX11_send 4 (some .int) 10 (0, 0) 155 [(0, .ref l0), (2, .int l2)] [.int s0, .int s1, .ref s2] ω n r := by
  unfold J_X11_send_155 at h
  refine g_sIi dX11_send_155 h (fun ω h => ?_)
  refine g_aload_n dX11_send_156 rfl 0 rfl ?_
  refine g_rA fl_X11_13 dX11_send_157 h (fun a1 h => ?_)
  refine g_bipush (v := 68) dX11_send_160 (by decide) ?_
  refine g_aload_n dX11_send_162 rfl 0 rfl ?_
  refine g_rI fl_X11_316 dX11_send_163 h (fun x2 h => ?_)
  refine g_sIi dX11_send_166 h (fun ω h => ?_)
  refine g_aload_n dX11_send_167 rfl 0 rfl ?_
  refine g_rA fl_X11_13 dX11_send_168 h (fun a3 h => ?_)
  refine g_bipush (v := 7) dX11_send_171 (by decide) ?_
  refine g_bipush (v := 60) dX11_send_173 (by decide) ?_
  refine g_aload_n dX11_send_175 rfl 0 rfl ?_
  refine g_rA fl_X11_13 dX11_send_176 h (fun a4 h => ?_)
  refine g_bipush (v := 7) dX11_send_179 (by decide) ?_
  refine g_lIi dX11_send_181 h (fun x5 h => ?_)
  refine g_iconst (v := 1) dX11_send_182 (by decide) ?_
  refine g_iadd dX11_send_183 ?_
  refine g_min wd_1863 wd_617 wd_135 wd_618 dX11_send_184 (by decide) (Nat.le_of_ble_eq_true rfl) ?_
  refine g_sIi dX11_send_187 h (fun ω h => ?_)
  refine g_iload_n dX11_send_188 rfl 1 rfl ?_
  cases h
  exact g_iret rfl dX11_send_189 rfl
theorem ok_B_X11_send_86 (Θ : GP) (k_86 : Nat → Int32 → Int32 → Int32 → OW → Nat → RO) (hk_86 : ∀ l0 l1 l2 l3 ω n r, k_86 l0 l1 l2 l3 ω n = some r → GR Θ yX11_send cX11_send 4 (some .int) 10 (0, 0) 86 [(0, .ref l0), (1, .int l1), (2, .int l2), (3, .int l3)] [] ω n r) (l0 : Nat) (l1 : Int32) (l2 : Int32) (l3 : Int32) (ω : OW) (n : Nat) (r : Out) (h : B_X11_send_86 Θ k_86 l0 l1 l2 l3 ω n = some r) : GR Θ yX11_send cX11_send 4 (some .int) 10 (0, 0) 86 [(0, .ref l0), (1, .int l1), (2, .int l2), (3, .int l3)] [] ω n r := by
  unfold B_X11_send_86 at h
  refine g_iload_n dX11_send_86 rfl 3 rfl ?_
  refine g_iconst (v := 4) dX11_send_87 (by decide) ?_
  refine g_icmp_lt (tgt := 117) dX11_send_88 (by decide) (fun c6 => ?_) (fun c6 => ?_)
  · rw [if_pos c6] at h
    refine g_aload_n dX11_send_117 rfl 0 rfl ?_
    refine g_rA fl_X11_13 dX11_send_118 h (fun a7 h => ?_)
    refine g_bipush (v := 65) dX11_send_121 (by decide) ?_
    refine g_aload_n dX11_send_123 rfl 0 rfl ?_
    refine g_rA fl_X11_13 dX11_send_124 h (fun a8 h => ?_)
    refine g_iconst (v := 4) dX11_send_127 (by decide) ?_
    refine g_lIi dX11_send_128 h (fun x9 h => ?_)
    refine g_sIi dX11_send_129 h (fun ω h => ?_)
    refine g_aload_n dX11_send_130 rfl 0 rfl ?_
    refine g_rA fl_X11_13 dX11_send_131 h (fun a10 h => ?_)
    refine g_bipush (v := 66) dX11_send_134 (by decide) ?_
    refine g_iload_n dX11_send_136 rfl 1 rfl ?_
    refine g_sIi dX11_send_137 h (fun ω h => ?_)
    refine g_aload_n dX11_send_138 rfl 0 rfl ?_
    refine g_rA fl_X11_13 dX11_send_139 h (fun a11 h => ?_)
    refine g_bipush (v := 67) dX11_send_142 (by decide) ?_
    refine g_iload_n dX11_send_144 rfl 2 rfl ?_
    refine g_iconst (v := (-1)) dX11_send_145 (by decide) ?_
    refine g_icmp_ne (tgt := 154) dX11_send_146 (by decide) (fun c12 => ?_) (fun c12 => ?_)
    · rw [if_neg c12] at h
      refine g_iload_n dX11_send_154 rfl 2 rfl ?_
      refine G.lsub [0, 2] rfl ?_
      exact ok_J_X11_send_155 Θ l0 l2 l2 67 a11 _ _ r h
    · rw [if_pos c12] at h
      refine g_bipush (v := 10) dX11_send_149 (by decide) ?_
      refine g_goto (tgt := 155) dX11_send_151 (by decide) ?_
      refine G.lsub [0, 2] rfl ?_
      exact ok_J_X11_send_155 Θ l0 l2 10 67 a11 _ _ r h
  · rw [if_neg c6] at h
    refine g_aload_n dX11_send_91 rfl 0 rfl ?_
    refine g_rA fl_X11_13 dX11_send_92 h (fun a13 h => ?_)
    refine g_bipush (v := 65) dX11_send_95 (by decide) ?_
    refine g_iload_n dX11_send_97 rfl 3 rfl ?_
    refine g_iadd dX11_send_98 ?_
    refine g_aload_n dX11_send_99 rfl 0 rfl ?_
    refine g_rA fl_X11_13 dX11_send_100 h (fun a14 h => ?_)
    refine g_bipush (v := 65) dX11_send_103 (by decide) ?_
    refine g_iload_n dX11_send_105 rfl 3 rfl ?_
    refine g_iadd dX11_send_106 ?_
    refine g_iconst (v := 4) dX11_send_107 (by decide) ?_
    refine g_isub dX11_send_108 ?_
    refine g_lIi dX11_send_109 h (fun x15 h => ?_)
    refine g_sIi dX11_send_110 h (fun ω h => ?_)
    refine g_iinc (j := 3) (v := l3 + (-1)) (lv' := [(3, .int (l3 + (-1))), (0, .ref l0), (1, .int l1), (2, .int l2)]) dX11_send_111 rfl rfl (by decide) rfl ?_
    refine g_goto (tgt := 86) dX11_send_114 (by decide) ?_
    refine G.lsub [1, 2, 3, 0] rfl ?_
    exact hk_86 l0 l1 l2 (l3 + (-1)) _ _ r h
theorem ok_L_X11_send_86 (Θ : GP) : ∀ (f : Nat) (l0 : Nat) (l1 : Int32) (l2 : Int32) (l3 : Int32) (ω : OW) (n : Nat) (r : Out), L_X11_send_86 Θ f l0 l1 l2 l3 ω n = some r → GR Θ yX11_send cX11_send 4 (some .int) 10 (0, 0) 86 [(0, .ref l0), (1, .int l1), (2, .int l2), (3, .int l3)] [] ω n r := by
  intro f
  induction f with
  | zero =>
    intro l0 l1 l2 l3 ω n r h
    unfold L_X11_send_86 at h
    cases h
  | succ f ih =>
    intro l0 l1 l2 l3 ω n r h
    unfold L_X11_send_86 at h
    exact ok_B_X11_send_86 Θ (L_X11_send_86 Θ f) ih l0 l1 l2 l3 ω n r h
theorem ok_J_X11_send_81 (Θ : GP) (l0 : Nat) (l1 : Int32) (l2 : Int32) (s0 : Int32) (s1 : Int32) (s2 : Nat) (ω : OW) (n : Nat) (r : Out) (h : J_X11_send_81 Θ l0 l1 l2 s0 s1 s2 ω n = some r) : GR Θ yX11_send cX11_send 4 (some .int) 10 (0, 0) 81 [(0, .ref l0), (1, .int l1), (2, .int l2)] [.int s0, .int s1, .ref s2] ω n r := by
  unfold J_X11_send_81 at h
  refine g_sIi dX11_send_81 h (fun ω h => ?_)
  refine g_sipush (v := 239) dX11_send_82 (by decide) ?_
  refine g_istore_n (lv' := [(3, .int 239), (0, .ref l0), (1, .int l1), (2, .int l2)]) dX11_send_85 rfl (by decide) rfl ?_
  refine G.lsub [1, 2, 3, 0] rfl ?_
  exact ok_L_X11_send_86 Θ 5000 l0 l1 l2 239 _ _ r h
theorem ok_J_X11_send_39 (Θ : GP) (ω : OW) (n : Nat) (r : Out) (h : J_X11_send_39 Θ ω n = some r) : GR Θ yX11_send cX11_send 4 (some .int) 10 (0, 0) 39 [] [] ω n r := by
  unfold J_X11_send_39 at h
  refine g_iconst (v := 0) dX11_send_39 (by decide) ?_
  cases h
  exact g_iret rfl dX11_send_40 rfl
theorem ok_J_X11_send_32 (Θ : GP) (l0 : Nat) (l1 : Int32) (s0 : Int32) (s1 : Nat) (ω : OW) (n : Nat) (r : Out) (h : J_X11_send_32 Θ l0 l1 s0 s1 ω n = some r) : GR Θ yX11_send cX11_send 4 (some .int) 10 (0, 0) 32 [(0, .ref l0), (1, .int l1)] [.int s0, .ref s1] ω n r := by
  unfold J_X11_send_32 at h
  refine g_iconst (v := 2) dX11_send_32 (by decide) ?_
  refine g_cI (ci := 11) (As := [.int s0, .int 2]) mv_X11_262 dX11_send_33 rfl (ok_X11_throwsIf Θ s1 s0 2 _ _) rfl rfl (Nat.le_of_ble_eq_true rfl) (by decide) (by decide) (by decide) h (fun x16 ω n h => ?_)
  refine G.less (B' := (0, 0)) (by decide) (by decide) ?_
  refine g_if_eq (tgt := 41) dX11_send_36 (by decide) (fun c17 => ?_) (fun c17 => ?_)
  · rw [if_pos c17] at h
    refine g_aload_n dX11_send_41 rfl 0 rfl ?_
    refine g_cV (ci := 11) (As := []) mv_X11_358 dX11_send_42 rfl (ok_X11_remembers Θ l0 _ _) rfl rfl (Nat.le_of_ble_eq_true rfl) (by decide) (by decide) (by decide) h (fun ω n h => ?_)
    refine G.less (B' := (0, 0)) (by decide) (by decide) ?_
    refine g_aload_n dX11_send_45 rfl 0 rfl ?_
    refine g_iload_n dX11_send_46 rfl 1 rfl ?_
    refine g_cV (ci := 11) (As := [.int l1]) mv_X11_303 dX11_send_47 rfl (ok_X11_looksAt Θ l0 l1 _ _) rfl rfl (Nat.le_of_ble_eq_true rfl) (by decide) (by decide) (by decide) h (fun ω n h => ?_)
    refine G.less (B' := (0, 0)) (by decide) (by decide) ?_
    refine g_aload_n dX11_send_50 rfl 0 rfl ?_
    refine g_iconst (v := 1) dX11_send_51 (by decide) ?_
    refine g_iconst (v := 0) dX11_send_52 (by decide) ?_
    refine g_cI (ci := 11) (As := [.int 1, .int 0]) mv_X11_348 dX11_send_53 rfl (ok_X11_rides Θ l0 1 0 _ _) rfl rfl (Nat.le_of_ble_eq_true rfl) (by decide) (by decide) (by decide) h (fun x20 ω n h => ?_)
    refine G.less (B' := (0, 0)) (by decide) (by decide) ?_
    refine g_istore_n (lv' := [(2, .int x20), (0, .ref l0), (1, .int l1)]) dX11_send_56 rfl (by decide) rfl ?_
    refine g_aload_n dX11_send_57 rfl 1 rfl ?_
    refine g_iload_n dX11_send_58 rfl 2 rfl ?_
    refine g_cV (ci := 11) (As := [.int l1]) mv_X11_361 dX11_send_59 rfl (ok_X11_laysOn Θ l0 l1 _ _) rfl rfl (Nat.le_of_ble_eq_true rfl) (by decide) (by decide) (by decide) h (fun ω n h => ?_)
    refine G.less (B' := (0, 0)) (by decide) (by decide) ?_
    refine g_aload_n dX11_send_62 rfl 1 rfl ?_
    refine g_rA fl_X11_13 dX11_send_63 h (fun a22 h => ?_)
    refine g_iload_n dX11_send_66 rfl 2 rfl ?_
    refine g_iconst (v := 3) dX11_send_67 (by decide) ?_
    refine g_sI (As := [.int l1, .int 3]) ms_X11_77 dX11_send_68 (ok_X11_oneAt Θ l1 3 _ _) rfl rfl (Nat.le_of_ble_eq_true rfl) (by decide) (by decide) (by decide) h (fun x23 ω n h => ?_)
    refine G.less (B' := (0, 0)) (by decide) (by decide) ?_
    refine g_iload_n dX11_send_71 rfl 0 rfl ?_
    refine g_iconst (v := (-1)) dX11_send_72 (by decide) ?_
    refine g_icmp_ne (tgt := 80) dX11_send_73 (by decide) (fun c24 => ?_) (fun c24 => ?_)
    · rw [if_neg c24] at h
      refine g_iconst (v := 1) dX11_send_80 (by decide) ?_
      refine G.lsub [1, 2, 0] rfl ?_
      exact ok_J_X11_send_81 Θ l0 l1 x20 1 x23 a22 _ _ r h
    · rw [if_pos c24] at h
      refine g_iconst (v := 2) dX11_send_76 (by decide) ?_
      refine g_goto (tgt := 81) dX11_send_77 (by decide) ?_
      refine G.lsub [1, 2, 0] rfl ?_
      exact ok_J_X11_send_81 Θ l0 l1 x20 2 x23 a22 _ _ r h
  · rw [if_neg c17] at h
    refine G.lsub [] rfl ?_
    exact ok_J_X11_send_39 Θ _ _ r h
theorem ok_X11_send (Θ : GP) (l0 : Nat) (l1 : Int32) (ω : OW) (n : Nat) : Ok Θ 10 0 0 yX11_send cX11_send 4 (some .int) [.ref l0, .int l1] ω n (F_X11_send Θ l0 l1 ω n) := by
  refine Ok.of (by decide +kernel) (Nat.le_of_ble_eq_true rfl) (fun r h => ?_)
  unfold F_X11_send at h
  show GR Θ yX11_send cX11_send 4 (some .int) 10 (0, 0) 0 [(0, .ref l0), (1, .int l1)] [] ω n r
  refine g_aload_n dX11_send_0 rfl 0 rfl ?_
  refine g_iconst (v := 0) dX11_send_1 (by decide) ?_
  refine g_wF fl_X11_3 dX11_send_2 (rfl) rfl h (fun ω h => ?_)
  refine g_aload_n dX11_send_5 rfl 0 rfl ?_
  refine g_aload_n dX11_send_6 rfl 0 rfl ?_
  refine g_iload_n dX11_send_7 rfl 1 rfl ?_
  refine g_cI (ci := 11) (As := [.int l1]) mv_X11_300 dX11_send_8 rfl (ok_X11_noOne Θ l0 l1 _ _) rfl rfl (Nat.le_of_ble_eq_true rfl) (by decide) (by decide) (by decide) h (fun x25 ω n h => ?_)
  refine G.less (B' := (0, 0)) (by decide) (by decide) ?_
  refine g_iconst (v := 1) dX11_send_11 (by decide) ?_
  refine g_cI (ci := 11) (As := [.int x25, .int 1]) mv_X11_262 dX11_send_12 rfl (ok_X11_throwsIf Θ l0 x25 1 _ _) rfl rfl (Nat.le_of_ble_eq_true rfl) (by decide) (by decide) (by decide) h (fun x26 ω n h => ?_)
  refine G.less (B' := (0, 0)) (by decide) (by decide) ?_
  refine g_if_ne (tgt := 39) dX11_send_15 (by decide) (fun c27 => ?_) (fun c27 => ?_)
  · rw [if_neg c27] at h
    refine G.lsub [] rfl ?_
    exact ok_J_X11_send_39 Θ _ _ r h
  · rw [if_pos c27] at h
    refine g_aload_n dX11_send_18 rfl 0 rfl ?_
    refine g_aload_n dX11_send_19 rfl 0 rfl ?_
    refine g_iload_n dX11_send_20 rfl 1 rfl ?_
    refine g_cI (ci := 11) (As := [.int l1]) mv_X11_355 dX11_send_21 rfl (ok_X11_waits Θ l0 l1 _ _) rfl rfl (Nat.le_of_ble_eq_true rfl) (by decide) (by decide) (by decide) h (fun x28 ω n h => ?_)
    refine G.less (B' := (0, 0)) (by decide) (by decide) ?_
    refine g_if_ne (tgt := 31) dX11_send_24 (by decide) (fun c29 => ?_) (fun c29 => ?_)
    · rw [if_neg c29] at h
      refine g_iconst (v := 0) dX11_send_31 (by decide) ?_
      exact ok_J_X11_send_32 Θ l0 l1 0 l0 _ _ r h
    · rw [if_pos c29] at h
      refine g_iconst (v := 1) dX11_send_27 (by decide) ?_
      refine g_goto (tgt := 32) dX11_send_28 (by decide) ?_
      exact ok_J_X11_send_32 Θ l0 l1 1 l0 _ _ r h
def J_X11_nail_63 (Θ : GP) (ω : OW) (n : Nat) : RO := some (.inl (none, ω, n))
def J_X11_nail_56 (Θ : GP) (l0 : Nat) (l1 : Int32) (l2 : Int32) (s0 : Int32) (s1 : Nat) (ω : OW) (n : Nat) : RO := cO ω s1 11 (kI (F_X11_throwsIf Θ s1 s0 2 ω n) (fun x1 ω n => if x1 = 0 then (cO ω l0 11 (kV (F_X11_remembers Θ l0 ω n) (fun ω n => rA ω l0 11 1 (fun a4 => kI (F_X11_propAt Θ l1 3 ω n) (fun x5 ω n => sI ω (gI Θ) a4 x5 l2 (fun ω => some (.inl (none, ω, n)))))))) else (J_X11_nail_63 Θ ω n)))
def J_X11_nail_51 (Θ : GP) (l0 : Nat) (l1 : Int32) (l2 : Int32) (s0 : Nat) (ω : OW) (n : Nat) : RO := J_X11_nail_56 Θ l0 l1 l2 1 s0 ω n
def J_X11_nail_26 (Θ : GP) (l0 : Nat) (l1 : Int32) (l2 : Int32) (s0 : Int32) (s1 : Nat) (ω : OW) (n : Nat) : RO := cO ω s1 11 (kI (F_X11_throwsIf Θ s1 s0 1 ω n) (fun x6 ω n => if x6 = 0 then (cO ω l0 11 (kI (F_X11_isNailed Θ l0 l1 ω n) (fun x8 ω n => if x8 = 0 then (cO ω l0 11 (kI (F_X11_propIn Θ l0 l2 ω n) (fun x10 ω n => if x10 = (-1) then (J_X11_nail_56 Θ l0 l1 l2 0 l0 ω n) else (J_X11_nail_51 Θ l0 l1 l2 l0 ω n)))) else (J_X11_nail_51 Θ l0 l1 l2 l0 ω n)))) else (J_X11_nail_63 Θ ω n)))
def J_X11_nail_21 (Θ : GP) (l0 : Nat) (l1 : Int32) (l2 : Int32) (s0 : Nat) (ω : OW) (n : Nat) : RO := J_X11_nail_26 Θ l0 l1 l2 1 s0 ω n
def F_X11_nail (Θ : GP) (l0 : Nat) (l1 : Int32) (l2 : Int32) (ω : OW) (n : Nat) : RO := wF ω l0 11 0 (.int 0) (fun ω => cO ω l0 11 (kI (F_X11_noProp Θ l0 l1 ω n) (fun x12 ω n => if x12 = 0 then (kI (F_X11_noSlot Θ l2 ω n) (fun x14 ω n => if x14 = 0 then (J_X11_nail_26 Θ l0 l1 l2 0 l0 ω n) else (J_X11_nail_21 Θ l0 l1 l2 l0 ω n))) else (J_X11_nail_21 Θ l0 l1 l2 l0 ω n))))
theorem ok_J_X11_nail_63 (Θ : GP) (ω : OW) (n : Nat) (r : Out) (h : J_X11_nail_63 Θ ω n = some r) : GR Θ yX11_nail cX11_nail 3 (none : Option Jvm.ClassFile.FieldType) 4 (0, 0) 63 [] [] ω n r := by
  unfold J_X11_nail_63 at h
  cases h
  exact g_vret rfl dX11_nail_63 rfl
theorem ok_J_X11_nail_56 (Θ : GP) (l0 : Nat) (l1 : Int32) (l2 : Int32) (s0 : Int32) (s1 : Nat) (ω : OW) (n : Nat) (r : Out) (h : J_X11_nail_56 Θ l0 l1 l2 s0 s1 ω n = some r) : GR Θ yX11_nail cX11_nail 3 (none : Option Jvm.ClassFile.FieldType) 4 (0, 0) 56 [(0, .ref l0), (1, .int l1), (2, .int l2)] [.int s0, .ref s1] ω n r := by
  unfold J_X11_nail_56 at h
  refine g_iconst (v := 2) dX11_nail_56 (by decide) ?_
  refine g_cI (ci := 11) (As := [.int s0, .int 2]) mv_X11_262 dX11_nail_57 rfl (ok_X11_throwsIf Θ s1 s0 2 _ _) rfl rfl (Nat.le_of_ble_eq_true rfl) (by decide) (by decide) (by decide) h (fun x1 ω n h => ?_)
  refine G.less (B' := (0, 0)) (by decide) (by decide) ?_
  refine g_if_eq (tgt := 64) dX11_nail_60 (by decide) (fun c2 => ?_) (fun c2 => ?_)
  · rw [if_pos c2] at h
    refine g_aload_n dX11_nail_64 rfl 0 rfl ?_
    refine g_cV (ci := 11) (As := []) mv_X11_358 dX11_nail_65 rfl (ok_X11_remembers Θ l0 _ _) rfl rfl (Nat.le_of_ble_eq_true rfl) (by decide) (by decide) (by decide) h (fun ω n h => ?_)
    refine G.less (B' := (0, 0)) (by decide) (by decide) ?_
    refine g_aload_n dX11_nail_68 rfl 0 rfl ?_
    refine g_rA fl_X11_13 dX11_nail_69 h (fun a4 h => ?_)
    refine g_iload_n dX11_nail_72 rfl 1 rfl ?_
    refine g_iconst (v := 3) dX11_nail_73 (by decide) ?_
    refine g_sI (As := [.int l1, .int 3]) ms_X11_70 dX11_nail_74 (ok_X11_propAt Θ l1 3 _ _) rfl rfl (Nat.le_of_ble_eq_true rfl) (by decide) (by decide) (by decide) h (fun x5 ω n h => ?_)
    refine G.less (B' := (0, 0)) (by decide) (by decide) ?_
    refine g_iload_n dX11_nail_77 rfl 2 rfl ?_
    refine g_sIi dX11_nail_78 h (fun ω h => ?_)
    cases h
    exact g_vret rfl dX11_nail_79 rfl
  · rw [if_neg c2] at h
    refine G.lsub [] rfl ?_
    exact ok_J_X11_nail_63 Θ _ _ r h
theorem ok_J_X11_nail_51 (Θ : GP) (l0 : Nat) (l1 : Int32) (l2 : Int32) (s0 : Nat) (ω : OW) (n : Nat) (r : Out) (h : J_X11_nail_51 Θ l0 l1 l2 s0 ω n = some r) : GR Θ yX11_nail cX11_nail 3 (none : Option Jvm.ClassFile.FieldType) 4 (0, 0) 51 [(0, .ref l0), (1, .int l1), (2, .int l2)] [.ref s0] ω n r := by
  unfold J_X11_nail_51 at h
  refine g_iconst (v := 1) dX11_nail_51 (by decide) ?_
  refine g_goto (tgt := 56) dX11_nail_52 (by decide) ?_
  exact ok_J_X11_nail_56 Θ l0 l1 l2 1 s0 _ _ r h
theorem ok_J_X11_nail_26 (Θ : GP) (l0 : Nat) (l1 : Int32) (l2 : Int32) (s0 : Int32) (s1 : Nat) (ω : OW) (n : Nat) (r : Out) (h : J_X11_nail_26 Θ l0 l1 l2 s0 s1 ω n = some r) : GR Θ yX11_nail cX11_nail 3 (none : Option Jvm.ClassFile.FieldType) 4 (0, 0) 26 [(0, .ref l0), (1, .int l1), (2, .int l2)] [.int s0, .ref s1] ω n r := by
  unfold J_X11_nail_26 at h
  refine g_iconst (v := 1) dX11_nail_26 (by decide) ?_
  refine g_cI (ci := 11) (As := [.int s0, .int 1]) mv_X11_262 dX11_nail_27 rfl (ok_X11_throwsIf Θ s1 s0 1 _ _) rfl rfl (Nat.le_of_ble_eq_true rfl) (by decide) (by decide) (by decide) h (fun x6 ω n h => ?_)
  refine G.less (B' := (0, 0)) (by decide) (by decide) ?_
  refine g_if_ne (tgt := 63) dX11_nail_30 (by decide) (fun c7 => ?_) (fun c7 => ?_)
  · rw [if_neg c7] at h
    refine G.lsub [] rfl ?_
    exact ok_J_X11_nail_63 Θ _ _ r h
  · rw [if_pos c7] at h
    refine g_aload_n dX11_nail_33 rfl 0 rfl ?_
    refine g_aload_n dX11_nail_34 rfl 0 rfl ?_
    refine g_iload_n dX11_nail_35 rfl 1 rfl ?_
    refine g_cI (ci := 11) (As := [.int l1]) mv_X11_94 dX11_nail_36 rfl (ok_X11_isNailed Θ l0 l1 _ _) rfl rfl (Nat.le_of_ble_eq_true rfl) (by decide) (by decide) (by decide) h (fun x8 ω n h => ?_)
    refine G.less (B' := (0, 0)) (by decide) (by decide) ?_
    refine g_if_ne (tgt := 51) dX11_nail_39 (by decide) (fun c9 => ?_) (fun c9 => ?_)
    · rw [if_neg c9] at h
      exact ok_J_X11_nail_51 Θ l0 l1 l2 l0 _ _ r h
    · rw [if_pos c9] at h
      refine g_aload_n dX11_nail_42 rfl 0 rfl ?_
      refine g_iload_n dX11_nail_43 rfl 2 rfl ?_
      refine g_cI (ci := 11) (As := [.int l2]) mv_X11_160 dX11_nail_44 rfl (ok_X11_propIn Θ l0 l2 _ _) rfl rfl (Nat.le_of_ble_eq_true rfl) (by decide) (by decide) (by decide) h (fun x10 ω n h => ?_)
      refine G.less (B' := (0, 0)) (by decide) (by decide) ?_
      refine g_iconst (v := (-1)) dX11_nail_47 (by decide) ?_
      refine g_icmp_eq (tgt := 55) dX11_nail_48 (by decide) (fun c11 => ?_) (fun c11 => ?_)
      · rw [if_pos c11] at h
        refine g_iconst (v := 0) dX11_nail_55 (by decide) ?_
        exact ok_J_X11_nail_56 Θ l0 l1 l2 0 l0 _ _ r h
      · rw [if_neg c11] at h
        exact ok_J_X11_nail_51 Θ l0 l1 l2 l0 _ _ r h
theorem ok_J_X11_nail_21 (Θ : GP) (l0 : Nat) (l1 : Int32) (l2 : Int32) (s0 : Nat) (ω : OW) (n : Nat) (r : Out) (h : J_X11_nail_21 Θ l0 l1 l2 s0 ω n = some r) : GR Θ yX11_nail cX11_nail 3 (none : Option Jvm.ClassFile.FieldType) 4 (0, 0) 21 [(0, .ref l0), (1, .int l1), (2, .int l2)] [.ref s0] ω n r := by
  unfold J_X11_nail_21 at h
  refine g_iconst (v := 1) dX11_nail_21 (by decide) ?_
  refine g_goto (tgt := 26) dX11_nail_22 (by decide) ?_
  exact ok_J_X11_nail_26 Θ l0 l1 l2 1 s0 _ _ r h
theorem ok_X11_nail (Θ : GP) (l0 : Nat) (l1 : Int32) (l2 : Int32) (ω : OW) (n : Nat) : Ok Θ 4 0 0 yX11_nail cX11_nail 3 (none : Option Jvm.ClassFile.FieldType) [.ref l0, .int l1, .int l2] ω n (F_X11_nail Θ l0 l1 l2 ω n) := by
  refine Ok.of (by decide +kernel) (Nat.le_of_ble_eq_true rfl) (fun r h => ?_)
  unfold F_X11_nail at h
  show GR Θ yX11_nail cX11_nail 3 (none : Option Jvm.ClassFile.FieldType) 4 (0, 0) 0 [(0, .ref l0), (1, .int l1), (2, .int l2)] [] ω n r
  refine g_aload_n dX11_nail_0 rfl 0 rfl ?_
  refine g_iconst (v := 0) dX11_nail_1 (by decide) ?_
  refine g_wF fl_X11_3 dX11_nail_2 (rfl) rfl h (fun ω h => ?_)
  refine g_aload_n dX11_nail_5 rfl 0 rfl ?_
  refine g_aload_n dX11_nail_6 rfl 0 rfl ?_
  refine g_iload_n dX11_nail_7 rfl 1 rfl ?_
  refine g_cI (ci := 11) (As := [.int l1]) mv_X11_294 dX11_nail_8 rfl (ok_X11_noProp Θ l0 l1 _ _) rfl rfl (Nat.le_of_ble_eq_true rfl) (by decide) (by decide) (by decide) h (fun x12 ω n h => ?_)
  refine G.less (B' := (0, 0)) (by decide) (by decide) ?_
  refine g_if_ne (tgt := 21) dX11_nail_11 (by decide) (fun c13 => ?_) (fun c13 => ?_)
  · rw [if_neg c13] at h
    exact ok_J_X11_nail_21 Θ l0 l1 l2 l0 _ _ r h
  · rw [if_pos c13] at h
    refine g_iload_n dX11_nail_14 rfl 2 rfl ?_
    refine g_sI (As := [.int l2]) ms_X11_297 dX11_nail_15 (ok_X11_noSlot Θ l2 _ _) rfl rfl (Nat.le_of_ble_eq_true rfl) (by decide) (by decide) (by decide) h (fun x14 ω n h => ?_)
    refine G.less (B' := (0, 0)) (by decide) (by decide) ?_
    refine g_if_eq (tgt := 25) dX11_nail_18 (by decide) (fun c15 => ?_) (fun c15 => ?_)
    · rw [if_pos c15] at h
      refine g_iconst (v := 0) dX11_nail_25 (by decide) ?_
      exact ok_J_X11_nail_26 Θ l0 l1 l2 0 l0 _ _ r h
    · rw [if_neg c15] at h
      exact ok_J_X11_nail_21 Θ l0 l1 l2 l0 _ _ r h
def J_X11_down_39 (Θ : GP) (ω : OW) (n : Nat) : RO := some (.inl (some (.int 0), ω, n))
def J_X11_down_32 (Θ : GP) (l0 : Nat) (l1 : Int32) (s0 : Int32) (s1 : Nat) (ω : OW) (n : Nat) : RO := cO ω s1 11 (kI (F_X11_throwsIf Θ s1 s0 2 ω n) (fun x1 ω n => if x1 = 0 then (cO ω l0 11 (kV (F_X11_remembers Θ l0 ω n) (fun ω n => cO ω l0 11 (kI (F_X11_propIn Θ l0 l1 ω n) (fun x4 ω n => rA ω l0 11 1 (fun a5 => kI (F_X11_propAt Θ x4 3 ω n) (fun x6 ω n => sI ω (gI Θ) a5 x6 (-1) (fun ω => some (.inl (some (.int x4), ω, n)))))))))) else (J_X11_down_39 Θ ω n)))
def F_X11_down (Θ : GP) (l0 : Nat) (l1 : Int32) (ω : OW) (n : Nat) : RO := wF ω l0 11 0 (.int 0) (fun ω => kI (F_X11_noSlot Θ l1 ω n) (fun x7 ω n => cO ω l0 11 (kI (F_X11_throwsIf Θ l0 x7 1 ω n) (fun x8 ω n => if x8 = 0 then (cO ω l0 11 (kI (F_X11_propIn Θ l0 l1 ω n) (fun x10 ω n => if x10 = (-1) then (J_X11_down_32 Θ l0 l1 1 l0 ω n) else (J_X11_down_32 Θ l0 l1 0 l0 ω n)))) else (J_X11_down_39 Θ ω n)))))
theorem ok_J_X11_down_39 (Θ : GP) (ω : OW) (n : Nat) (r : Out) (h : J_X11_down_39 Θ ω n = some r) : GR Θ yX11_down cX11_down 3 (some .int) 4 (0, 0) 39 [] [] ω n r := by
  unfold J_X11_down_39 at h
  refine g_iconst (v := 0) dX11_down_39 (by decide) ?_
  cases h
  exact g_iret rfl dX11_down_40 rfl
theorem ok_J_X11_down_32 (Θ : GP) (l0 : Nat) (l1 : Int32) (s0 : Int32) (s1 : Nat) (ω : OW) (n : Nat) (r : Out) (h : J_X11_down_32 Θ l0 l1 s0 s1 ω n = some r) : GR Θ yX11_down cX11_down 3 (some .int) 4 (0, 0) 32 [(0, .ref l0), (1, .int l1)] [.int s0, .ref s1] ω n r := by
  unfold J_X11_down_32 at h
  refine g_iconst (v := 2) dX11_down_32 (by decide) ?_
  refine g_cI (ci := 11) (As := [.int s0, .int 2]) mv_X11_262 dX11_down_33 rfl (ok_X11_throwsIf Θ s1 s0 2 _ _) rfl rfl (Nat.le_of_ble_eq_true rfl) (by decide) (by decide) (by decide) h (fun x1 ω n h => ?_)
  refine G.less (B' := (0, 0)) (by decide) (by decide) ?_
  refine g_if_eq (tgt := 41) dX11_down_36 (by decide) (fun c2 => ?_) (fun c2 => ?_)
  · rw [if_pos c2] at h
    refine g_aload_n dX11_down_41 rfl 0 rfl ?_
    refine g_cV (ci := 11) (As := []) mv_X11_358 dX11_down_42 rfl (ok_X11_remembers Θ l0 _ _) rfl rfl (Nat.le_of_ble_eq_true rfl) (by decide) (by decide) (by decide) h (fun ω n h => ?_)
    refine G.less (B' := (0, 0)) (by decide) (by decide) ?_
    refine g_aload_n dX11_down_45 rfl 0 rfl ?_
    refine g_iload_n dX11_down_46 rfl 1 rfl ?_
    refine g_cI (ci := 11) (As := [.int l1]) mv_X11_160 dX11_down_47 rfl (ok_X11_propIn Θ l0 l1 _ _) rfl rfl (Nat.le_of_ble_eq_true rfl) (by decide) (by decide) (by decide) h (fun x4 ω n h => ?_)
    refine G.less (B' := (0, 0)) (by decide) (by decide) ?_
    refine g_istore_n (lv' := [(2, .int x4), (0, .ref l0), (1, .int l1)]) dX11_down_50 rfl (by decide) rfl ?_
    refine g_aload_n dX11_down_51 rfl 1 rfl ?_
    refine g_rA fl_X11_13 dX11_down_52 h (fun a5 h => ?_)
    refine g_iload_n dX11_down_55 rfl 0 rfl ?_
    refine g_iconst (v := 3) dX11_down_56 (by decide) ?_
    refine g_sI (As := [.int x4, .int 3]) ms_X11_70 dX11_down_57 (ok_X11_propAt Θ x4 3 _ _) rfl rfl (Nat.le_of_ble_eq_true rfl) (by decide) (by decide) (by decide) h (fun x6 ω n h => ?_)
    refine G.less (B' := (0, 0)) (by decide) (by decide) ?_
    refine g_iconst (v := (-1)) dX11_down_60 (by decide) ?_
    refine g_sIi dX11_down_61 h (fun ω h => ?_)
    refine g_iload_n dX11_down_62 rfl 0 rfl ?_
    cases h
    exact g_iret rfl dX11_down_63 rfl
  · rw [if_neg c2] at h
    refine G.lsub [] rfl ?_
    exact ok_J_X11_down_39 Θ _ _ r h
theorem ok_X11_down (Θ : GP) (l0 : Nat) (l1 : Int32) (ω : OW) (n : Nat) : Ok Θ 4 0 0 yX11_down cX11_down 3 (some .int) [.ref l0, .int l1] ω n (F_X11_down Θ l0 l1 ω n) := by
  refine Ok.of (by decide +kernel) (Nat.le_of_ble_eq_true rfl) (fun r h => ?_)
  unfold F_X11_down at h
  show GR Θ yX11_down cX11_down 3 (some .int) 4 (0, 0) 0 [(0, .ref l0), (1, .int l1)] [] ω n r
  refine g_aload_n dX11_down_0 rfl 0 rfl ?_
  refine g_iconst (v := 0) dX11_down_1 (by decide) ?_
  refine g_wF fl_X11_3 dX11_down_2 (rfl) rfl h (fun ω h => ?_)
  refine g_aload_n dX11_down_5 rfl 0 rfl ?_
  refine g_iload_n dX11_down_6 rfl 1 rfl ?_
  refine g_sI (As := [.int l1]) ms_X11_297 dX11_down_7 (ok_X11_noSlot Θ l1 _ _) rfl rfl (Nat.le_of_ble_eq_true rfl) (by decide) (by decide) (by decide) h (fun x7 ω n h => ?_)
  refine G.less (B' := (0, 0)) (by decide) (by decide) ?_
  refine g_iconst (v := 1) dX11_down_10 (by decide) ?_
  refine g_cI (ci := 11) (As := [.int x7, .int 1]) mv_X11_262 dX11_down_11 rfl (ok_X11_throwsIf Θ l0 x7 1 _ _) rfl rfl (Nat.le_of_ble_eq_true rfl) (by decide) (by decide) (by decide) h (fun x8 ω n h => ?_)
  refine G.less (B' := (0, 0)) (by decide) (by decide) ?_
  refine g_if_ne (tgt := 39) dX11_down_14 (by decide) (fun c9 => ?_) (fun c9 => ?_)
  · rw [if_neg c9] at h
    refine G.lsub [] rfl ?_
    exact ok_J_X11_down_39 Θ _ _ r h
  · rw [if_pos c9] at h
    refine g_aload_n dX11_down_17 rfl 0 rfl ?_
    refine g_aload_n dX11_down_18 rfl 0 rfl ?_
    refine g_iload_n dX11_down_19 rfl 1 rfl ?_
    refine g_cI (ci := 11) (As := [.int l1]) mv_X11_160 dX11_down_20 rfl (ok_X11_propIn Θ l0 l1 _ _) rfl rfl (Nat.le_of_ble_eq_true rfl) (by decide) (by decide) (by decide) h (fun x10 ω n h => ?_)
    refine G.less (B' := (0, 0)) (by decide) (by decide) ?_
    refine g_iconst (v := (-1)) dX11_down_23 (by decide) ?_
    refine g_icmp_ne (tgt := 31) dX11_down_24 (by decide) (fun c11 => ?_) (fun c11 => ?_)
    · rw [if_neg c11] at h
      refine g_iconst (v := 0) dX11_down_31 (by decide) ?_
      exact ok_J_X11_down_32 Θ l0 l1 0 l0 _ _ r h
    · rw [if_pos c11] at h
      refine g_iconst (v := 1) dX11_down_27 (by decide) ?_
      refine g_goto (tgt := 32) dX11_down_28 (by decide) ?_
      exact ok_J_X11_down_32 Θ l0 l1 1 l0 _ _ r h
