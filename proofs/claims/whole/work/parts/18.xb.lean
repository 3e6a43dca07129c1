def F_X11_mend (Θ : GP) (l0 : Nat) (l1 : Int32) (ω : OW) (n : Nat) : RO := wF ω l0 11 0 (.int 0) (fun ω => cO ω l0 11 (kI (F_X11_noProp Θ l0 l1 ω n) (fun x1 ω n => cO ω l0 11 (kI (F_X11_throwsIf Θ l0 x1 1 ω n) (fun x2 ω n => if x2 = 0 then (cO ω l0 11 (kV (F_X11_remembers Θ l0 ω n) (fun ω n => cO ω l0 11 (kI (F_X11_ofProp Θ l0 l1 2 ω n) (fun x5 ω n => rA ω l0 11 1 (fun a6 => kI (F_X11_propAt Θ l1 2 ω n) (fun x7 ω n => sI ω (gI Θ) a6 x7 0 (fun ω => some (.inl (some (.int x5), ω, n)))))))))) else (some (.inl (some (.int 0), ω, n))))))))
theorem ok_X11_mend (Θ : GP) (l0 : Nat) (l1 : Int32) (ω : OW) (n : Nat) : Ok Θ 3 0 0 yX11_mend cX11_mend 3 (some .int) [.ref l0, .int l1] ω n (F_X11_mend Θ l0 l1 ω n) := by
  refine Ok.of (by decide +kernel) (Nat.le_of_ble_eq_true rfl) (fun r h => ?_)
  unfold F_X11_mend at h
  show GR Θ yX11_mend cX11_mend 3 (some .int) 3 (0, 0) 0 [(0, .ref l0), (1, .int l1)] [] ω n r
  refine g_aload_n dX11_mend_0 rfl 0 rfl ?_
  refine g_iconst (v := 0) dX11_mend_1 (by decide) ?_
  refine g_wF fl_X11_3 dX11_mend_2 (rfl) rfl h (fun ω h => ?_)
  refine g_aload_n dX11_mend_5 rfl 0 rfl ?_
  refine g_aload_n dX11_mend_6 rfl 0 rfl ?_
  refine g_iload_n dX11_mend_7 rfl 1 rfl ?_
  refine g_cI (ci := 11) (As := [.int l1]) mv_X11_294 dX11_mend_8 rfl (ok_X11_noProp Θ l0 l1 _ _) rfl rfl (Nat.le_of_ble_eq_true rfl) (by decide) (by decide) (by decide) h (fun x1 ω n h => ?_)
  refine G.less (B' := (0, 0)) (by decide) (by decide) ?_
  refine g_iconst (v := 1) dX11_mend_11 (by decide) ?_
  refine g_cI (ci := 11) (As := [.int x1, .int 1]) mv_X11_262 dX11_mend_12 rfl (ok_X11_throwsIf Θ l0 x1 1 _ _) rfl rfl (Nat.le_of_ble_eq_true rfl) (by decide) (by decide) (by decide) h (fun x2 ω n h => ?_)
  refine G.less (B' := (0, 0)) (by decide) (by decide) ?_
  refine g_if_eq (tgt := 20) dX11_mend_15 (by decide) (fun c3 => ?_) (fun c3 => ?_)
  · rw [if_pos c3] at h
    refine g_aload_n dX11_mend_20 rfl 0 rfl ?_
    refine g_cV (ci := 11) (As := []) mv_X11_358 dX11_mend_21 rfl (ok_X11_remembers Θ l0 _ _) rfl rfl (Nat.le_of_ble_eq_true rfl) (by decide) (by decide) (by decide) h (fun ω n h => ?_)
    refine G.less (B' := (0, 0)) (by decide) (by decide) ?_
    refine g_aload_n dX11_mend_24 rfl 0 rfl ?_
    refine g_iload_n dX11_mend_25 rfl 1 rfl ?_
    refine g_iconst (v := 2) dX11_mend_26 (by decide) ?_
    refine g_cI (ci := 11) (As := [.int l1, .int 2]) mv_X11_74 dX11_mend_27 rfl (ok_X11_ofProp Θ l0 l1 2 _ _) rfl rfl (Nat.le_of_ble_eq_true rfl) (by decide) (by decide) (by decide) h (fun x5 ω n h => ?_)
    refine G.less (B' := (0, 0)) (by decide) (by decide) ?_
    refine g_istore_n (lv' := [(2, .int x5), (0, .ref l0), (1, .int l1)]) dX11_mend_30 rfl (by decide) rfl ?_
    refine g_aload_n dX11_mend_31 rfl 1 rfl ?_
    refine g_rA fl_X11_13 dX11_mend_32 h (fun a6 h => ?_)
    refine g_iload_n dX11_mend_35 rfl 2 rfl ?_
    refine g_iconst (v := 2) dX11_mend_36 (by decide) ?_
    refine g_sI (As := [.int l1, .int 2]) ms_X11_70 dX11_mend_37 (ok_X11_propAt Θ l1 2 _ _) rfl rfl (Nat.le_of_ble_eq_true rfl) (by decide) (by decide) (by decide) h (fun x7 ω n h => ?_)
    refine G.less (B' := (0, 0)) (by decide) (by decide) ?_
    refine g_iconst (v := 0) dX11_mend_40 (by decide) ?_
    refine g_sIi dX11_mend_41 h (fun ω h => ?_)
    refine g_iload_n dX11_mend_42 rfl 0 rfl ?_
    cases h
    exact g_iret rfl dX11_mend_43 rfl
  · rw [if_neg c3] at h
    refine g_iconst (v := 0) dX11_mend_18 (by decide) ?_
    cases h
    exact g_iret rfl dX11_mend_19 rfl
def J_X11_recall_41 (Θ : GP) (ω : OW) (n : Nat) : RO := some (.inl (none, ω, n))
def J_X11_recall_34 (Θ : GP) (l0 : Nat) (l1 : Int32) (s0 : Int32) (s1 : Nat) (ω : OW) (n : Nat) : RO := cO ω s1 11 (kI (F_X11_throwsIf Θ s1 s0 2 ω n) (fun x1 ω n => if x1 = 0 then (cO ω l0 11 (kV (F_X11_remembers Θ l0 ω n) (fun ω n => rA ω l0 11 1 (fun a4 => kI (F_X11_oneAt Θ l1 3 ω n) (fun x5 ω n => sI ω (gI Θ) a4 x5 0 (fun ω => some (.inl (none, ω, n)))))))) else (J_X11_recall_41 Θ ω n)))
def F_X11_recall (Θ : GP) (l0 : Nat) (l1 : Int32) (ω : OW) (n : Nat) : RO := wF ω l0 11 0 (.int 0) (fun ω => cO ω l0 11 (kI (F_X11_noOne Θ l0 l1 ω n) (fun x6 ω n => cO ω l0 11 (kI (F_X11_throwsIf Θ l0 x6 1 ω n) (fun x7 ω n => if x7 = 0 then (cO ω l0 11 (kI (F_X11_of Θ l0 l1 3 ω n) (fun x9 ω n => if x9 = 2 then (J_X11_recall_34 Θ l0 l1 0 l0 ω n) else (J_X11_recall_34 Θ l0 l1 1 l0 ω n)))) else (J_X11_recall_41 Θ ω n))))))
theorem ok_J_X11_recall_41 (Θ : GP) (ω : OW) (n : Nat) (r : Out) (h : J_X11_recall_41 Θ ω n = some r) : GR Θ yX11_recall cX11_recall 2 (none : Option Jvm.ClassFile.FieldType) 3 (0, 0) 41 [] [] ω n r := by
  unfold J_X11_recall_41 at h
  cases h
  exact g_vret rfl dX11_recall_41 rfl
theorem ok_J_X11_recall_34 (Θ : GP) (l0 : Nat) (l1 : Int32) (s0 : Int32) (s1 : Nat) (ω : OW) (n : Nat) (r : Out) (h : J_X11_recall_34 Θ l0 l1 s0 s1 ω n = some r) : GR Θ yX11_recall cX11_recall 2 (none : Option Jvm.ClassFile.FieldType) 3 (0, 0) 34 [(0, .ref l0), (1, .int l1)] [.int s0, .ref s1] ω n r := by
  unfold J_X11_recall_34 at h
  refine g_iconst (v := 2) dX11_recall_34 (by decide) ?_
  refine g_cI (ci := 11) (As := [.int s0, .int 2]) mv_X11_262 dX11_recall_35 rfl (ok_X11_throwsIf Θ s1 s0 2 _ _) rfl rfl (Nat.le_of_ble_eq_true rfl) (by decide) (by decide) (by decide) h (fun x1 ω n h => ?_)
  refine G.less (B' := (0, 0)) (by decide) (by decide) ?_
  refine g_if_eq (tgt := 42) dX11_recall_38 (by decide) (fun c2 => ?_) (fun c2 => ?_)
  · rw [if_pos c2] at h
    refine g_aload_n dX11_recall_42 rfl 0 rfl ?_
    refine g_cV (ci := 11) (As := []) mv_X11_358 dX11_recall_43 rfl (ok_X11_remembers Θ l0 _ _) rfl rfl (Nat.le_of_ble_eq_true rfl) (by decide) (by decide) (by decide) h (fun ω n h => ?_)
    refine G.less (B' := (0, 0)) (by decide) (by decide) ?_
    refine g_aload_n dX11_recall_46 rfl 0 rfl ?_
    refine g_rA fl_X11_13 dX11_recall_47 h (fun a4 h => ?_)
    refine g_iload_n dX11_recall_50 rfl 1 rfl ?_
    refine g_iconst (v := 3) dX11_recall_51 (by decide) ?_
    refine g_sI (As := [.int l1, .int 3]) ms_X11_77 dX11_recall_52 (ok_X11_oneAt Θ l1 3 _ _) rfl rfl (Nat.le_of_ble_eq_true rfl) (by decide) (by decide) (by decide) h (fun x5 ω n h => ?_)
    refine G.less (B' := (0, 0)) (by decide) (by decide) ?_
    refine g_iconst (v := 0) dX11_recall_55 (by decide) ?_
    refine g_sIi dX11_recall_56 h (fun ω h => ?_)
    cases h
    exact g_vret rfl dX11_recall_57 rfl
  · rw [if_neg c2] at h
    refine G.lsub [] rfl ?_
    exact ok_J_X11_recall_41 Θ _ _ r h
theorem ok_X11_recall (Θ : GP) (l0 : Nat) (l1 : Int32) (ω : OW) (n : Nat) : Ok Θ 3 0 0 yX11_recall cX11_recall 2 (none : Option Jvm.ClassFile.FieldType) [.ref l0, .int l1] ω n (F_X11_recall Θ l0 l1 ω n) := by
  refine Ok.of (by decide +kernel) (Nat.le_of_ble_eq_true rfl) (fun r h => ?_)
  unfold F_X11_recall at h
  show GR Θ yX11_recall cX11_recall 2 (none : Option Jvm.ClassFile.FieldType) 3 (0, 0) 0 [(0, .ref l0), (1, .int l1)] [] ω n r
  refine g_aload_n dX11_recall_0 rfl 0 rfl ?_
  refine g_iconst (v := 0) dX11_recall_1 (by decide) ?_
  refine g_wF fl_X11_3 dX11_recall_2 (rfl) rfl h (fun ω h => ?_)
  refine g_aload_n dX11_recall_5 rfl 0 rfl ?_
  refine g_aload_n dX11_recall_6 rfl 0 rfl ?_
  refine g_iload_n dX11_recall_7 rfl 1 rfl ?_
  refine g_cI (ci := 11) (As := [.int l1]) mv_X11_300 dX11_recall_8 rfl (ok_X11_noOne Θ l0 l1 _ _) rfl rfl (Nat.le_of_ble_eq_true rfl) (by decide) (by decide) (by decide) h (fun x6 ω n h => ?_)
  refine G.less (B' := (0, 0)) (by decide) (by decide) ?_
  refine g_iconst (v := 1) dX11_recall_11 (by decide) ?_
  refine g_cI (ci := 11) (As := [.int x6, .int 1]) mv_X11_262 dX11_recall_12 rfl (ok_X11_throwsIf Θ l0 x6 1 _ _) rfl rfl (Nat.le_of_ble_eq_true rfl) (by decide) (by decide) (by decide) h (fun x7 ω n h => ?_)
  refine G.less (B' := (0, 0)) (by decide) (by decide) ?_
  refine g_if_ne (tgt := 41) dX11_recall_15 (by decide) (fun c8 => ?_) (fun c8 => ?_)
  · rw [if_neg c8] at h
    refine G.lsub [] rfl ?_
    exact ok_J_X11_recall_41 Θ _ _ r h
  · rw [if_pos c8] at h
    refine g_aload_n dX11_recall_18 rfl 0 rfl ?_
    refine g_aload_n dX11_recall_19 rfl 0 rfl ?_
    refine g_iload_n dX11_recall_20 rfl 1 rfl ?_
    refine g_iconst (v := 3) dX11_recall_21 (by decide) ?_
    refine g_cI (ci := 11) (As := [.int l1, .int 3]) mv_X11_80 dX11_recall_22 rfl (ok_X11_of Θ l0 l1 3 _ _) rfl rfl (Nat.le_of_ble_eq_true rfl) (by decide) (by decide) (by decide) h (fun x9 ω n h => ?_)
    refine G.less (B' := (0, 0)) (by decide) (by decide) ?_
    refine g_iconst (v := 2) dX11_recall_25 (by decide) ?_
    refine g_icmp_eq (tgt := 33) dX11_recall_26 (by decide) (fun c10 => ?_) (fun c10 => ?_)
    · rw [if_pos c10] at h
      refine g_iconst (v := 0) dX11_recall_33 (by decide) ?_
      exact ok_J_X11_recall_34 Θ l0 l1 0 l0 _ _ r h
    · rw [if_neg c10] at h
      refine g_iconst (v := 1) dX11_recall_29 (by decide) ?_
      refine g_goto (tgt := 34) dX11_recall_30 (by decide) ?_
      exact ok_J_X11_recall_34 Θ l0 l1 1 l0 _ _ r h
def J_X11_ofState_30 (Θ : GP) (k_4 : Nat → Int32 → Int32 → Int32 → OW → Nat → RO) (l0 : Nat) (l1 : Int32) (l3 : Int32) (s0 : Int32) (s1 : Int32) (ω : OW) (n : Nat) : RO := k_4 l0 l1 (s1 ||| s0) (l3 + 1) ω n
def B_X11_ofState_4 (Θ : GP) (k_4 : Nat → Int32 → Int32 → Int32 → OW → Nat → RO) (l0 : Nat) (l1 : Int32) (l2 : Int32) (l3 : Int32) (ω : OW) (n : Nat) : RO := cO ω l0 11 (kI (F_X11_oneCount Θ l0 ω n) (fun x1 ω n => if x1 ≤ l3 then (some (.inl (some (.int l2), ω, n))) else (cO ω l0 11 (kI (F_X11_of Θ l0 l3 3 ω n) (fun x3 ω n => if x3 = l1 then (J_X11_ofState_30 Θ k_4 l0 l1 l3 (1 <<< ((l3 : Int32) &&& 31)) l2 ω n) else (J_X11_ofState_30 Θ k_4 l0 l1 l3 0 l2 ω n))))))
def L_X11_ofState_4 (Θ : GP) : Nat → Nat → Int32 → Int32 → Int32 → OW → Nat → RO
  | 0, _, _, _, _, _, _ => none
  | f + 1, l0, l1, l2, l3, ω, n => B_X11_ofState_4 Θ (L_X11_ofState_4 Θ f) l0 l1 l2 l3 ω n
def F_X11_ofState (Θ : GP) (l0 : Nat) (l1 : Int32) (ω : OW) (n : Nat) : RO := L_X11_ofState_4 Θ 5000 l0 l1 0 0 ω n
theorem ok_J_X11_ofState_30 (Θ : GP) (k_4 : Nat → Int32 → Int32 → Int32 → OW → Nat → RO) (hk_4 : ∀ l0 l1 l2 l3 ω n r, k_4 l0 l1 l2 l3 ω n = some r → GR Θ yX11_ofState cX11_ofState 4 (some .int) 3 (0, 0) 4 [(0, .ref l0), (1, .int l1), (2, .int l2), (3, .int l3)] [] ω n r) (l0 : Nat) (l1 : Int32) (l3 : Int32) (s0 : Int32) (s1 : Int32) (ω : OW) (n : Nat) (r : Out) (h : J_X11_ofState_30 Θ k_4 l0 l1 l3 s0 s1 ω n = some r) : GR Θ yX11_ofState cX11_ofState 4 (some .int) 3 (0, 0) 30 [(0, .ref l0), (1, .int l1), (3, .int l3)] [.int s0, .int s1] ω n r := by
  unfold J_X11_ofState_30 at h
  refine g_ior dX11_ofState_30 ?_
  refine g_istore_n (lv' := [(2, .int (s1 ||| s0)), (0, .ref l0), (1, .int l1), (3, .int l3)]) dX11_ofState_31 rfl (by decide) rfl ?_
  refine g_iinc (j := 3) (v := l3 + 1) (lv' := [(3, .int (l3 + 1)), (2, .int (s1 ||| s0)), (0, .ref l0), (1, .int l1)]) dX11_ofState_32 rfl rfl (by decide) rfl ?_
  refine g_goto (tgt := 4) dX11_ofState_35 (by decide) ?_
  refine G.lsub [2, 3, 1, 0] rfl ?_
  exact hk_4 l0 l1 (s1 ||| s0) (l3 + 1) _ _ r h
theorem ok_B_X11_ofState_4 (Θ : GP) (k_4 : Nat → Int32 → Int32 → Int32 → OW → Nat → RO) (hk_4 : ∀ l0 l1 l2 l3 ω n r, k_4 l0 l1 l2 l3 ω n = some r → GR Θ yX11_ofState cX11_ofState 4 (some .int) 3 (0, 0) 4 [(0, .ref l0), (1, .int l1), (2, .int l2), (3, .int l3)] [] ω n r) (l0 : Nat) (l1 : Int32) (l2 : Int32) (l3 : Int32) (ω : OW) (n : Nat) (r : Out) (h : B_X11_ofState_4 Θ k_4 l0 l1 l2 l3 ω n = some r) : GR Θ yX11_ofState cX11_ofState 4 (some .int) 3 (0, 0) 4 [(0, .ref l0), (1, .int l1), (2, .int l2), (3, .int l3)] [] ω n r := by
  unfold B_X11_ofState_4 at h
  refine g_iload_n dX11_ofState_4 rfl 3 rfl ?_
  refine g_aload_n dX11_ofState_5 rfl 0 rfl ?_
  refine g_cI (ci := 11) (As := []) mv_X11_91 dX11_ofState_6 rfl (ok_X11_oneCount Θ l0 _ _) rfl rfl (Nat.le_of_ble_eq_true rfl) (by decide) (by decide) (by decide) h (fun x1 ω n h => ?_)
  refine G.less (B' := (0, 0)) (by decide) (by decide) ?_
  refine g_icmp_ge (tgt := 38) dX11_ofState_9 (by decide) (fun c2 => ?_) (fun c2 => ?_)
  · rw [if_pos c2] at h
    refine g_iload_n dX11_ofState_38 rfl 2 rfl ?_
    cases h
    exact g_iret rfl dX11_ofState_39 rfl
  · rw [if_neg c2] at h
    refine g_iload_n dX11_ofState_12 rfl 2 rfl ?_
    refine g_aload_n dX11_ofState_13 rfl 0 rfl ?_
    refine g_iload_n dX11_ofState_14 rfl 3 rfl ?_
    refine g_iconst (v := 3) dX11_ofState_15 (by decide) ?_
    refine g_cI (ci := 11) (As := [.int l3, .int 3]) mv_X11_80 dX11_ofState_16 rfl (ok_X11_of Θ l0 l3 3 _ _) rfl rfl (Nat.le_of_ble_eq_true rfl) (by decide) (by decide) (by decide) h (fun x3 ω n h => ?_)
    refine G.less (B' := (0, 0)) (by decide) (by decide) ?_
    refine g_iload_n dX11_ofState_19 rfl 1 rfl ?_
    refine g_icmp_ne (tgt := 29) dX11_ofState_20 (by decide) (fun c4 => ?_) (fun c4 => ?_)
    · rw [if_neg c4] at h
      refine g_iconst (v := 0) dX11_ofState_29 (by decide) ?_
      refine G.lsub [0, 1, 3] rfl ?_
      exact ok_J_X11_ofState_30 Θ k_4 hk_4 l0 l1 l3 0 l2 _ _ r h
    · rw [if_pos c4] at h
      refine g_iconst (v := 1) dX11_ofState_23 (by decide) ?_
      refine g_iload_n dX11_ofState_24 rfl 3 rfl ?_
      refine g_ishl dX11_ofState_25 ?_
      refine g_goto (tgt := 30) dX11_ofState_26 (by decide) ?_
      refine G.lsub [0, 1, 3] rfl ?_
      exact ok_J_X11_ofState_30 Θ k_4 hk_4 l0 l1 l3 (1 <<< ((l3 : Int32) &&& 31)) l2 _ _ r h
theorem ok_L_X11_ofState_4 (Θ : GP) : ∀ (f : Nat) (l0 : Nat) (l1 : Int32) (l2 : Int32) (l3 : Int32) (ω : OW) (n : Nat) (r : Out), L_X11_ofState_4 Θ f l0 l1 l2 l3 ω n = some r → GR Θ yX11_ofState cX11_ofState 4 (some .int) 3 (0, 0) 4 [(0, .ref l0), (1, .int l1), (2, .int l2), (3, .int l3)] [] ω n r := by
  intro f
  induction f with
  | zero =>
    intro l0 l1 l2 l3 ω n r h
    unfold L_X11_ofState_4 at h
    cases h
  | succ f ih =>
    intro l0 l1 l2 l3 ω n r h
    unfold L_X11_ofState_4 at h
    exact ok_B_X11_ofState_4 Θ (L_X11_ofState_4 Θ f) ih l0 l1 l2 l3 ω n r h
theorem ok_X11_ofState (Θ : GP) (l0 : Nat) (l1 : Int32) (ω : OW) (n : Nat) : Ok Θ 3 0 0 yX11_ofState cX11_ofState 4 (some .int) [.ref l0, .int l1] ω n (F_X11_ofState Θ l0 l1 ω n) := by
  refine Ok.of (by decide +kernel) (Nat.le_of_ble_eq_true rfl) (fun r h => ?_)
  unfold F_X11_ofState at h
  show GR Θ yX11_ofState cX11_ofState 4 (some .int) 3 (0, 0) 0 [(0, .ref l0), (1, .int l1)] [] ω n r
  refine g_iconst (v := 0) dX11_ofState_0 (by decide) ?_
  refine g_istore_n (lv' := [(2, .int 0), (0, .ref l0), (1, .int l1)]) dX11_ofState_1 rfl (by decide) rfl ?_
  refine g_iconst (v := 0) dX11_ofState_2 (by decide) ?_
  refine g_istore_n (lv' := [(3, .int 0), (2, .int 0), (0, .ref l0), (1, .int l1)]) dX11_ofState_3 rfl (by decide) rfl ?_
  refine G.lsub [2, 3, 1, 0] rfl ?_
  exact ok_L_X11_ofState_4 Θ 5000 l0 l1 0 0 _ _ r h
def J_X11_inside_39 (Θ : GP) (ω : OW) (n : Nat) : RO := some (.inl (some (.int 0), ω, n))
def J_X11_inside_32 (Θ : GP) (l0 : Nat) (l1 : Int32) (s0 : Int32) (s1 : Nat) (ω : OW) (n : Nat) : RO := cO ω s1 11 (kI (F_X11_throwsIf Θ s1 s0 2 ω n) (fun x1 ω n => if x1 = 0 then (cO ω l0 11 (kV (F_X11_remembers Θ l0 ω n) (fun ω n => rA ω l0 11 1 (fun a4 => kI (F_X11_oneAt Θ l1 3 ω n) (fun x5 ω n => sI ω (gI Θ) a4 x5 3 (fun ω => cO ω l0 11 (kI (F_X11_ofState Θ l0 3 ω n) (fun x6 ω n => kI (F_J6_bitCount_0f7a4 Θ x6 ω n) (fun x7 ω n => some (.inl (some (.int x7), ω, n))))))))))) else (J_X11_inside_39 Θ ω n)))
def F_X11_inside (Θ : GP) (l0 : Nat) (l1 : Int32) (ω : OW) (n : Nat) : RO := wF ω l0 11 0 (.int 0) (fun ω => cO ω l0 11 (kI (F_X11_noOne Θ l0 l1 ω n) (fun x8 ω n => cO ω l0 11 (kI (F_X11_throwsIf Θ l0 x8 1 ω n) (fun x9 ω n => if x9 = 0 then (cO ω l0 11 (kI (F_X11_waits Θ l0 l1 ω n) (fun x11 ω n => if x11 = 0 then (J_X11_inside_32 Θ l0 l1 1 l0 ω n) else (J_X11_inside_32 Θ l0 l1 0 l0 ω n)))) else (J_X11_inside_39 Θ ω n))))))
theorem ok_J_X11_inside_39 (Θ : GP) (ω : OW) (n : Nat) (r : Out) (h : J_X11_inside_39 Θ ω n = some r) : GR Θ yX11_inside cX11_inside 2 (some .int) 4 (0, 0) 39 [] [] ω n r := by
  unfold J_X11_inside_39 at h
  refine g_iconst (v := 0) dX11_inside_39 (by decide) ?_
  cases h
  exact g_iret rfl dX11_inside_40 rfl
theorem ok_J_X11_inside_32 (Θ : GP) (l0 : Nat) (l1 : Int32) (s0 : Int32) (s1 : Nat) (ω : OW) (n : Nat) (r : Out) (h : J_X11_inside_32 Θ l0 l1 s0 s1 ω n = some r) : GR Θ yX11_inside cX11_inside 2 (some .int) 4 (0, 0) 32 [(0, .ref l0), (1, .int l1)] [.int s0, .ref s1] ω n r := by
  unfold J_X11_inside_32 at h
  refine g_iconst (v := 2) dX11_inside_32 (by decide) ?_
  refine g_cI (ci := 11) (As := [.int s0, .int 2]) mv_X11_262 dX11_inside_33 rfl (ok_X11_throwsIf Θ s1 s0 2 _ _) rfl rfl (Nat.le_of_ble_eq_true rfl) (by decide) (by decide) (by decide) h (fun x1 ω n h => ?_)
  refine G.less (B' := (0, 0)) (by decide) (by decide) ?_
  refine g_if_eq (tgt := 41) dX11_inside_36 (by decide) (fun c2 => ?_) (fun c2 => ?_)
  · rw [if_pos c2] at h
    refine g_aload_n dX11_inside_41 rfl 0 rfl ?_
    refine g_cV (ci := 11) (As := []) mv_X11_358 dX11_inside_42 rfl (ok_X11_remembers Θ l0 _ _) rfl rfl (Nat.le_of_ble_eq_true rfl) (by decide) (by decide) (by decide) h (fun ω n h => ?_)
    refine G.less (B' := (0, 0)) (by decide) (by decide) ?_
    refine g_aload_n dX11_inside_45 rfl 0 rfl ?_
    refine g_rA fl_X11_13 dX11_inside_46 h (fun a4 h => ?_)
    refine g_iload_n dX11_inside_49 rfl 1 rfl ?_
    refine g_iconst (v := 3) dX11_inside_50 (by decide) ?_
    refine g_sI (As := [.int l1, .int 3]) ms_X11_77 dX11_inside_51 (ok_X11_oneAt Θ l1 3 _ _) rfl rfl (Nat.le_of_ble_eq_true rfl) (by decide) (by decide) (by decide) h (fun x5 ω n h => ?_)
    refine G.less (B' := (0, 0)) (by decide) (by decide) ?_
    refine g_iconst (v := 3) dX11_inside_54 (by decide) ?_
    refine g_sIi dX11_inside_55 h (fun ω h => ?_)
    refine g_aload_n dX11_inside_56 rfl 0 rfl ?_
    refine g_iconst (v := 3) dX11_inside_57 (by decide) ?_
    refine g_cI (ci := 11) (As := [.int 3]) mv_X11_364 dX11_inside_58 rfl (ok_X11_ofState Θ l0 3 _ _) rfl rfl (Nat.le_of_ble_eq_true rfl) (by decide) (by decide) (by decide) h (fun x6 ω n h => ?_)
    refine G.less (B' := (0, 0)) (by decide) (by decide) ?_
    refine g_sI (As := [.int x6]) ms_X11_143 dX11_inside_61 (ok_J6_bitCount_0f7a4 Θ x6 _ _) rfl rfl (Nat.le_of_ble_eq_true rfl) (by decide) (by decide) (by decide) h (fun x7 ω n h => ?_)
    refine G.less (B' := (0, 0)) (by decide) (by decide) ?_
    cases h
    exact g_iret rfl dX11_inside_64 rfl
  · rw [if_neg c2] at h
    refine G.lsub [] rfl ?_
    exact ok_J_X11_inside_39 Θ _ _ r h
theorem ok_X11_inside (Θ : GP) (l0 : Nat) (l1 : Int32) (ω : OW) (n : Nat) : Ok Θ 4 0 0 yX11_inside cX11_inside 2 (some .int) [.ref l0, .int l1] ω n (F_X11_inside Θ l0 l1 ω n) := by
  refine Ok.of (by decide +kernel) (Nat.le_of_ble_eq_true rfl) (fun r h => ?_)
  unfold F_X11_inside at h
  show GR Θ yX11_inside cX11_inside 2 (some .int) 4 (0, 0) 0 [(0, .ref l0), (1, .int l1)] [] ω n r
  refine g_aload_n dX11_inside_0 rfl 0 rfl ?_
  refine g_iconst (v := 0) dX11_inside_1 (by decide) ?_
  refine g_wF fl_X11_3 dX11_inside_2 (rfl) rfl h (fun ω h => ?_)
  refine g_aload_n dX11_inside_5 rfl 0 rfl ?_
  refine g_aload_n dX11_inside_6 rfl 0 rfl ?_
  refine g_iload_n dX11_inside_7 rfl 1 rfl ?_
  refine g_cI (ci := 11) (As := [.int l1]) mv_X11_300 dX11_inside_8 rfl (ok_X11_noOne Θ l0 l1 _ _) rfl rfl (Nat.le_of_ble_eq_true rfl) (by decide) (by decide) (by decide) h (fun x8 ω n h => ?_)
  refine G.less (B' := (0, 0)) (by decide) (by decide) ?_
  refine g_iconst (v := 1) dX11_inside_11 (by decide) ?_
  refine g_cI (ci := 11) (As := [.int x8, .int 1]) mv_X11_262 dX11_inside_12 rfl (ok_X11_throwsIf Θ l0 x8 1 _ _) rfl rfl (Nat.le_of_ble_eq_true rfl) (by decide) (by decide) (by decide) h (fun x9 ω n h => ?_)
  refine G.less (B' := (0, 0)) (by decide) (by decide) ?_
  refine g_if_ne (tgt := 39) dX11_inside_15 (by decide) (fun c10 => ?_) (fun c10 => ?_)
  · rw [if_neg c10] at h
    refine G.lsub [] rfl ?_
    exact ok_J_X11_inside_39 Θ _ _ r h
  · rw [if_pos c10] at h
    refine g_aload_n dX11_inside_18 rfl 0 rfl ?_
    refine g_aload_n dX11_inside_19 rfl 0 rfl ?_
    refine g_iload_n dX11_inside_20 rfl 1 rfl ?_
    refine g_cI (ci := 11) (As := [.int l1]) mv_X11_355 dX11_inside_21 rfl (ok_X11_waits Θ l0 l1 _ _) rfl rfl (Nat.le_of_ble_eq_true rfl) (by decide) (by decide) (by decide) h (fun x11 ω n h => ?_)
    refine G.less (B' := (0, 0)) (by decide) (by decide) ?_
    refine g_if_ne (tgt := 31) dX11_inside_24 (by decide) (fun c12 => ?_) (fun c12 => ?_)
    · rw [if_neg c12] at h
      refine g_iconst (v := 0) dX11_inside_31 (by decide) ?_
      exact ok_J_X11_inside_32 Θ l0 l1 0 l0 _ _ r h
    · rw [if_pos c12] at h
      refine g_iconst (v := 1) dX11_inside_27 (by decide) ?_
      refine g_goto (tgt := 32) dX11_inside_28 (by decide) ?_
      exact ok_J_X11_inside_32 Θ l0 l1 1 l0 _ _ r h
def J_X11_calm_21 (Θ : GP) (l0 : Nat) (l1 : Int32) (s0 : Int32) (s1 : Nat) (ω : OW) (n : Nat) : RO := cO ω s1 11 (kI (F_X11_throwsIf Θ s1 s0 1 ω n) (fun x1 ω n => if x1 = 0 then (cO ω l0 11 (kV (F_X11_remembers Θ l0 ω n) (fun ω n => rA ω l0 11 1 (fun a4 => lI ω (gI Θ) a4 5 (fun x5 => rA ω l0 11 1 (fun a6 => sI ω (gI Θ) a6 5 l1 (fun ω => some (.inl (some (.int x5), ω, n))))))))) else (some (.inl (some (.int 0), ω, n)))))
def F_X11_calm (Θ : GP) (l0 : Nat) (l1 : Int32) (ω : OW) (n : Nat) : RO := wF ω l0 11 0 (.int 0) (fun ω => kI (F_X11_in Θ l1 0 9 ω n) (fun x7 ω n => if x7 = 0 then (J_X11_calm_21 Θ l0 l1 1 l0 ω n) else (J_X11_calm_21 Θ l0 l1 0 l0 ω n)))
theorem ok_J_X11_calm_21 (Θ : GP) (l0 : Nat) (l1 : Int32) (s0 : Int32) (s1 : Nat) (ω : OW) (n : Nat) (r : Out) (h : J_X11_calm_21 Θ l0 l1 s0 s1 ω n = some r) : GR Θ yX11_calm cX11_calm 3 (some .int) 2 (0, 0) 21 [(0, .ref l0), (1, .int l1)] [.int s0, .ref s1] ω n r := by
  unfold J_X11_calm_21 at h
  refine g_iconst (v := 1) dX11_calm_21 (by decide) ?_
  refine g_cI (ci := 11) (As := [.int s0, .int 1]) mv_X11_262 dX11_calm_22 rfl (ok_X11_throwsIf Θ s1 s0 1 _ _) rfl rfl (Nat.le_of_ble_eq_true rfl) (by decide) (by decide) (by decide) h (fun x1 ω n h => ?_)
  refine G.less (B' := (0, 0)) (by decide) (by decide) ?_
  refine g_if_eq (tgt := 30) dX11_calm_25 (by decide) (fun c2 => ?_) (fun c2 => ?_)
  · rw [if_pos c2] at h
    refine g_aload_n dX11_calm_30 rfl 0 rfl ?_
    refine g_cV (ci := 11) (As := []) mv_X11_358 dX11_calm_31 rfl (ok_X11_remembers Θ l0 _ _) rfl rfl (Nat.le_of_ble_eq_true rfl) (by decide) (by decide) (by decide) h (fun ω n h => ?_)
    refine G.less (B' := (0, 0)) (by decide) (by decide) ?_
    refine g_aload_n dX11_calm_34 rfl 0 rfl ?_
    refine g_rA fl_X11_13 dX11_calm_35 h (fun a4 h => ?_)
    refine g_iconst (v := 5) dX11_calm_38 (by decide) ?_
    refine g_lIi dX11_calm_39 h (fun x5 h => ?_)
    refine g_istore_n (lv' := [(2, .int x5), (0, .ref l0), (1, .int l1)]) dX11_calm_40 rfl (by decide) rfl ?_
    refine g_aload_n dX11_calm_41 rfl 1 rfl ?_
    refine g_rA fl_X11_13 dX11_calm_42 h (fun a6 h => ?_)
    refine g_iconst (v := 5) dX11_calm_45 (by decide) ?_
    refine g_iload_n dX11_calm_46 rfl 2 rfl ?_
    refine g_sIi dX11_calm_47 h (fun ω h => ?_)
    refine g_iload_n dX11_calm_48 rfl 0 rfl ?_
    cases h
    exact g_iret rfl dX11_calm_49 rfl
  · rw [if_neg c2] at h
    refine g_iconst (v := 0) dX11_calm_28 (by decide) ?_
    cases h
    exact g_iret rfl dX11_calm_29 rfl
theorem ok_X11_calm (Θ : GP) (l0 : Nat) (l1 : Int32) (ω : OW) (n : Nat) : Ok Θ 2 0 0 yX11_calm cX11_calm 3 (some .int) [.ref l0, .int l1] ω n (F_X11_calm Θ l0 l1 ω n) := by
  refine Ok.of (by decide +kernel) (Nat.le_of_ble_eq_true rfl) (fun r h => ?_)
  unfold F_X11_calm at h
  show GR Θ yX11_calm cX11_calm 3 (some .int) 2 (0, 0) 0 [(0, .ref l0), (1, .int l1)] [] ω n r
  refine g_aload_n dX11_calm_0 rfl 0 rfl ?_
  refine g_iconst (v := 0) dX11_calm_1 (by decide) ?_
  refine g_wF fl_X11_3 dX11_calm_2 (rfl) rfl h (fun ω h => ?_)
  refine g_aload_n dX11_calm_5 rfl 0 rfl ?_
  refine g_iload_n dX11_calm_6 rfl 1 rfl ?_
  refine g_iconst (v := 0) dX11_calm_7 (by decide) ?_
  refine g_bipush (v := 9) dX11_calm_8 (by decide) ?_
  refine g_sI (As := [.int l1, .int 0, .int 9]) ms_X11_87 dX11_calm_10 (ok_X11_in Θ l1 0 9 _ _) rfl rfl (Nat.le_of_ble_eq_true rfl) (by decide) (by decide) (by decide) h (fun x7 ω n h => ?_)
  refine G.less (B' := (0, 0)) (by decide) (by decide) ?_
  refine g_if_ne (tgt := 20) dX11_calm_13 (by decide) (fun c8 => ?_) (fun c8 => ?_)
  · rw [if_neg c8] at h
    refine g_iconst (v := 0) dX11_calm_20 (by decide) ?_
    exact ok_J_X11_calm_21 Θ l0 l1 0 l0 _ _ r h
  · rw [if_pos c8] at h
    refine g_iconst (v := 1) dX11_calm_16 (by decide) ?_
    refine g_goto (tgt := 21) dX11_calm_17 (by decide) ?_
    exact ok_J_X11_calm_21 Θ l0 l1 1 l0 _ _ r h
def J_X11_mornings_88 (Θ : GP) (k_38 : Nat → Int32 → Int32 → Int32 → OW → Nat → RO) (l0 : Nat) (l1 : Int32) (l2 : Int32) (l3 : Int32) (ω : OW) (n : Nat) : RO := k_38 l0 l1 l2 (l3 + 1) ω n
def B_X11_mornings_38 (Θ : GP) (k_38 : Nat → Int32 → Int32 → Int32 → OW → Nat → RO) (l0 : Nat) (l1 : Int32) (l2 : Int32) (l3 : Int32) (ω : OW) (n : Nat) : RO := cO ω l0 11 (kI (F_X11_props Θ l0 ω n) (fun x1 ω n => if x1 ≤ l3 then (rA ω l0 11 1 (fun a3 => rA ω l0 11 1 (fun a4 => lI ω (gI Θ) a4 4 (fun x5 => sI ω (gI Θ) a3 4 (if (x5 + l1) < 9999 then (x5 + l1) else 9999) (fun ω => some (.inl (some (.int l2), ω, n))))))) else (cO ω l0 11 (kI (F_X11_isNailed Θ l0 l3 ω n) (fun x6 ω n => if x6 = 0 then (J_X11_mornings_88 Θ k_38 l0 l1 l2 l3 ω n) else (rA ω l0 11 1 (fun a8 => kI (F_X11_propAt Θ l3 2 ω n) (fun x9 ω n => cO ω l0 11 (kI (F_X11_ofProp Θ l0 l3 2 ω n) (fun x10 ω n => sI ω (gI Θ) a8 x9 (if 0 < (x10 - l1) then (x10 - l1) else 0) (fun ω => cO ω l0 11 (kI (F_X11_ofProp Θ l0 l3 2 ω n) (fun x11 ω n => J_X11_mornings_88 Θ k_38 l0 l1 (l2 + x11) l3 ω n)))))))))))))
def L_X11_mornings_38 (Θ : GP) : Nat → Nat → Int32 → Int32 → Int32 → OW → Nat → RO
  | 0, _, _, _, _, _, _ => none
  | f + 1, l0, l1, l2, l3, ω, n => B_X11_mornings_38 Θ (L_X11_mornings_38 Θ f) l0 l1 l2 l3 ω n
def J_X11_mornings_21 (Θ : GP) (l0 : Nat) (l1 : Int32) (s0 : Int32) (s1 : Nat) (ω : OW) (n : Nat) : RO := cO ω s1 11 (kI (F_X11_throwsIf Θ s1 s0 1 ω n) (fun x12 ω n => if x12 = 0 then (cO ω l0 11 (kV (F_X11_remembers Θ l0 ω n) (fun ω n => L_X11_mornings_38 Θ 5000 l0 l1 0 0 ω n))) else (some (.inl (some (.int 0), ω, n)))))
def F_X11_mornings (Θ : GP) (l0 : Nat) (l1 : Int32) (ω : OW) (n : Nat) : RO := wF ω l0 11 0 (.int 0) (fun ω => kI (F_X11_in Θ l1 1 60 ω n) (fun x15 ω n => if x15 = 0 then (J_X11_mornings_21 Θ l0 l1 1 l0 ω n) else (J_X11_mornings_21 Θ l0 l1 0 l0 ω n)))
theorem ok_J_X11_mornings_88 (Θ : GP) (k_38 : Nat → Int32 → Int32 → Int32 → OW → Nat → RO) (hk_38 : ∀ l0 l1 l2 l3 ω n r, k_38 l0 l1 l2 l3 ω n = some r → GR Θ yX11_mornings cX11_mornings 4 (some .int) 4 (0, 0) 38 [(0, .ref l0), (1, .int l1), (2, .int l2), (3, .int l3)] [] ω n r) (l0 : Nat) (l1 : Int32) (l2 : Int32) (l3 : Int32) (ω : OW) (n : Nat) (r : Out) (h : J_X11_mornings_88 Θ k_38 l0 l1 l2 l3 ω n = some r) : GR Θ yX11_mornings cX11_mornings 4 (some .int) 4 (0, 0) 88 [(0, .ref l0), (1, .int l1), (2, .int l2), (3, .int l3)] [] ω n r := by
  unfold J_X11_mornings_88 at h
  refine g_iinc (j := 3) (v := l3 + 1) (lv' := [(3, .int (l3 + 1)), (0, .ref l0), (1, .int l1), (2, .int l2)]) dX11_mornings_88 rfl rfl (by decide) rfl ?_
  refine g_goto (tgt := 38) dX11_mornings_91 (by decide) ?_
  refine G.lsub [1, 2, 3, 0] rfl ?_
  exact hk_38 l0 l1 l2 (l3 + 1) _ _ r h
theorem ok_B_X11_mornings_38 (Θ : GP) (k_38 : Nat → Int32 → Int32 → Int32 → OW → Nat → RO) (hk_38 : ∀ l0 l1 l2 l3 ω n r, k_38 l0 l1 l2 l3 ω n = some r → GR Θ yX11_mornings cX11_mornings 4 (some .int) 4 (0, 0) 38 [(0, .ref l0), (1, .int l1), (2, .int l2), (3, .int l3)] [] ω n r) (l0 : Nat) (l1 : Int32) (l2 : Int32) (l3 : Int32) (ω : OW) (n : Nat) (r : Out) (h : B_X11_mornings_38 Θ k_38 l0 l1 l2 l3 ω n = some r) : GR Θ yX11_mornings cX11_mornings 4 (some .int) 4 (0, 0) 38 [(0, .ref l0), (1, .int l1), (2, .int l2), (3, .int l3)] [] ω n r := by
  unfold B_X11_mornings_38 at h
  refine g_iload_n dX11_mornings_38 rfl 3 rfl ?_
  refine g_aload_n dX11_mornings_39 rfl 0 rfl ?_
  refine g_cI (ci := 11) (As := []) mv_X11_83 dX11_mornings_40 rfl (ok_X11_props Θ l0 _ _) rfl rfl (Nat.le_of_ble_eq_true rfl) (by decide) (by decide) (by decide) h (fun x1 ω n h => ?_)
  refine G.less (B' := (0, 0)) (by decide) (by decide) ?_
  refine g_icmp_ge (tgt := 94) dX11_mornings_43 (by decide) (fun c2 => ?_) (fun c2 => ?_)
  · rw [if_pos c2] at h
    refine g_aload_n dX11_mornings_94 rfl 0 rfl ?_
    refine g_rA fl_X11_13 dX11_mornings_95 h (fun a3 h => ?_)
    refine g_iconst (v := 4) dX11_mornings_98 (by decide) ?_
    refine g_sipush (v := 9999) dX11_mornings_99 (by decide) ?_
    refine g_aload_n dX11_mornings_102 rfl 0 rfl ?_
    refine g_rA fl_X11_13 dX11_mornings_103 h (fun a4 h => ?_)
    refine g_iconst (v := 4) dX11_mornings_106 (by decide) ?_
    refine g_lIi dX11_mornings_107 h (fun x5 h => ?_)
    refine g_iload_n dX11_mornings_108 rfl 1 rfl ?_
    refine g_iadd dX11_mornings_109 ?_
    refine g_min wd_1863 wd_617 wd_135 wd_618 dX11_mornings_110 (by decide) (Nat.le_of_ble_eq_true rfl) ?_
    refine g_sIi dX11_mornings_113 h (fun ω h => ?_)
    refine g_iload_n dX11_mornings_114 rfl 2 rfl ?_
    cases h
    exact g_iret rfl dX11_mornings_115 rfl
  · rw [if_neg c2] at h
    refine g_aload_n dX11_mornings_46 rfl 0 rfl ?_
    refine g_iload_n dX11_mornings_47 rfl 3 rfl ?_
    refine g_cI (ci := 11) (As := [.int l3]) mv_X11_94 dX11_mornings_48 rfl (ok_X11_isNailed Θ l0 l3 _ _) rfl rfl (Nat.le_of_ble_eq_true rfl) (by decide) (by decide) (by decide) h (fun x6 ω n h => ?_)
    refine G.less (B' := (0, 0)) (by decide) (by decide) ?_
    refine g_if_ne (tgt := 57) dX11_mornings_51 (by decide) (fun c7 => ?_) (fun c7 => ?_)
    · rw [if_neg c7] at h
      refine g_aload_n dX11_mornings_57 rfl 0 rfl ?_
      refine g_rA fl_X11_13 dX11_mornings_58 h (fun a8 h => ?_)
      refine g_iload_n dX11_mornings_61 rfl 3 rfl ?_
      refine g_iconst (v := 2) dX11_mornings_62 (by decide) ?_
      refine g_sI (As := [.int l3, .int 2]) ms_X11_70 dX11_mornings_63 (ok_X11_propAt Θ l3 2 _ _) rfl rfl (Nat.le_of_ble_eq_true rfl) (by decide) (by decide) (by decide) h (fun x9 ω n h => ?_)
      refine G.less (B' := (0, 0)) (by decide) (by decide) ?_
      refine g_iconst (v := 0) dX11_mornings_66 (by decide) ?_
      refine g_aload_n dX11_mornings_67 rfl 0 rfl ?_
      refine g_iload_n dX11_mornings_68 rfl 3 rfl ?_
      refine g_iconst (v := 2) dX11_mornings_69 (by decide) ?_
      refine g_cI (ci := 11) (As := [.int l3, .int 2]) mv_X11_74 dX11_mornings_70 rfl (ok_X11_ofProp Θ l0 l3 2 _ _) rfl rfl (Nat.le_of_ble_eq_true rfl) (by decide) (by decide) (by decide) h (fun x10 ω n h => ?_)
      refine G.less (B' := (0, 0)) (by decide) (by decide) ?_
      refine g_iload_n dX11_mornings_73 rfl 1 rfl ?_
      refine g_isub dX11_mornings_74 ?_
      refine g_max wd_1817 wd_610 wd_135 wd_611 dX11_mornings_75 (by decide) (Nat.le_of_ble_eq_true rfl) ?_
      refine g_sIi dX11_mornings_78 h (fun ω h => ?_)
      refine g_iload_n dX11_mornings_79 rfl 2 rfl ?_
      refine g_aload_n dX11_mornings_80 rfl 0 rfl ?_
      refine g_iload_n dX11_mornings_81 rfl 3 rfl ?_
      refine g_iconst (v := 2) dX11_mornings_82 (by decide) ?_
      refine g_cI (ci := 11) (As := [.int l3, .int 2]) mv_X11_74 dX11_mornings_83 rfl (ok_X11_ofProp Θ l0 l3 2 _ _) rfl rfl (Nat.le_of_ble_eq_true rfl) (by decide) (by decide) (by decide) h (fun x11 ω n h => ?_)
      refine G.less (B' := (0, 0)) (by decide) (by decide) ?_
      refine g_iadd dX11_mornings_86 ?_
      refine g_istore_n (lv' := [(2, .int (l2 + x11)), (0, .ref l0), (1, .int l1), (3, .int l3)]) dX11_mornings_87 rfl (by decide) rfl ?_
      refine G.lsub [1, 2, 0, 3] rfl ?_
      exact ok_J_X11_mornings_88 Θ k_38 hk_38 l0 l1 (l2 + x11) l3 _ _ r h
    · rw [if_pos c7] at h
      refine g_goto (tgt := 88) dX11_mornings_54 (by decide) ?_
      exact ok_J_X11_mornings_88 Θ k_38 hk_38 l0 l1 l2 l3 _ _ r h
theorem ok_L_X11_mornings_38 (Θ : GP) : ∀ (f : Nat) (l0 : Nat) (l1 : Int32) (l2 : Int32) (l3 : Int32) (ω : OW) (n : Nat) (r : Out), L_X11_mornings_38 Θ f l0 l1 l2 l3 ω n = some r → GR Θ yX11_mornings cX11_mornings 4 (some .int) 4 (0, 0) 38 [(0, .ref l0), (1, .int l1), (2, .int l2), (3, .int l3)] [] ω n r := by
  intro f
  induction f with
  | zero =>
    intro l0 l1 l2 l3 ω n r h
    unfold L_X11_mornings_38 at h
    cases h
  | succ f ih =>
    intro l0 l1 l2 l3 ω n r h
    unfold L_X11_mornings_38 at h
    exact ok_B_X11_mornings_38 Θ (L_X11_mornings_38 Θ f) ih l0 l1 l2 l3 ω n r h
theorem ok_J_X11_mornings_21 (Θ : GP) (l0 : Nat) (l1 : Int32) (s0 : Int32) (s1 : Nat) (ω : OW) (n : Nat) (r : Out) (h : J_X11_mornings_21 Θ l0 l1 s0 s1 ω n = some r) : GR Θ yX11_mornings cX11_mornings 4 (some .int) 4 (0, 0) 21 [(0, .ref l0), (1, .int l1)] [.int s0, .ref s1] ω n r := by
  unfold J_X11_mornings_21 at h
  refine g_iconst (v := 1) dX11_mornings_21 (by decide) ?_
  refine g_cI (ci := 11) (As := [.int s0, .int 1]) mv_X11_262 dX11_mornings_22 rfl (ok_X11_throwsIf Θ s1 s0 1 _ _) rfl rfl (Nat.le_of_ble_eq_true rfl) (by decide) (by decide) (by decide) h (fun x12 ω n h => ?_)
  refine G.less (B' := (0, 0)) (by decide) (by decide) ?_
  refine g_if_eq (tgt := 30) dX11_mornings_25 (by decide) (fun c13 => ?_) (fun c13 => ?_)
  · rw [if_pos c13] at h
    refine g_aload_n dX11_mornings_30 rfl 0 rfl ?_
    refine g_cV (ci := 11) (As := []) mv_X11_358 dX11_mornings_31 rfl (ok_X11_remembers Θ l0 _ _) rfl rfl (Nat.le_of_ble_eq_true rfl) (by decide) (by decide) (by decide) h (fun ω n h => ?_)
    refine G.less (B' := (0, 0)) (by decide) (by decide) ?_
    refine g_iconst (v := 0) dX11_mornings_34 (by decide) ?_
    refine g_istore_n (lv' := [(2, .int 0), (0, .ref l0), (1, .int l1)]) dX11_mornings_35 rfl (by decide) rfl ?_
    refine g_iconst (v := 0) dX11_mornings_36 (by decide) ?_
    refine g_istore_n (lv' := [(3, .int 0), (2, .int 0), (0, .ref l0), (1, .int l1)]) dX11_mornings_37 rfl (by decide) rfl ?_
    refine G.lsub [2, 3, 1, 0] rfl ?_
    exact ok_L_X11_mornings_38 Θ 5000 l0 l1 0 0 _ _ r h
  · rw [if_neg c13] at h
    refine g_iconst (v := 0) dX11_mornings_28 (by decide) ?_
    cases h
    exact g_iret rfl dX11_mornings_29 rfl
theorem ok_X11_mornings (Θ : GP) (l0 : Nat) (l1 : Int32) (ω : OW) (n : Nat) : Ok Θ 4 0 0 yX11_mornings cX11_mornings 4 (some .int) [.ref l0, .int l1] ω n (F_X11_mornings Θ l0 l1 ω n) := by
  refine Ok.of (by decide +kernel) (Nat.le_of_ble_eq_true rfl) (fun r h => ?_)
  unfold F_X11_mornings at h
  show GR Θ yX11_mornings cX11_mornings 4 (some .int) 4 (0, 0) 0 [(0, .ref l0), (1, .int l1)] [] ω n r
  refine g_aload_n dX11_mornings_0 rfl 0 rfl ?_
  refine g_iconst (v := 0) dX11_mornings_1 (by decide) ?_
  refine g_wF fl_X11_3 dX11_mornings_2 (rfl) rfl h (fun ω h => ?_)
  refine g_aload_n dX11_mornings_5 rfl 0 rfl ?_
  refine g_iload_n dX11_mornings_6 rfl 1 rfl ?_
  refine g_iconst (v := 1) dX11_mornings_7 (by decide) ?_
  refine g_bipush (v := 60) dX11_mornings_8 (by decide) ?_
  refine g_sI (As := [.int l1, .int 1, .int 60]) ms_X11_87 dX11_mornings_10 (ok_X11_in Θ l1 1 60 _ _) rfl rfl (Nat.le_of_ble_eq_true rfl) (by decide) (by decide) (by decide) h (fun x15 ω n h => ?_)
  refine G.less (B' := (0, 0)) (by decide) (by decide) ?_
  refine g_if_ne (tgt := 20) dX11_mornings_13 (by decide) (fun c16 => ?_) (fun c16 => ?_)
  · rw [if_neg c16] at h
    refine g_iconst (v := 0) dX11_mornings_20 (by decide) ?_
    exact ok_J_X11_mornings_21 Θ l0 l1 0 l0 _ _ r h
  · rw [if_pos c16] at h
    refine g_iconst (v := 1) dX11_mornings_16 (by decide) ?_
    refine g_goto (tgt := 21) dX11_mornings_17 (by decide) ?_
    exact ok_J_X11_mornings_21 Θ l0 l1 1 l0 _ _ r h
def J_X11_straight_27 (Θ : GP) (s0 : Int32) (ω : OW) (n : Nat) : RO := some (.inl (some (.int s0), ω, n))
def F_X11_straight (Θ : GP) (l0 : Nat) (l1 : Int32) (ω : OW) (n : Nat) : RO := wF ω l0 11 0 (.int 0) (fun ω => cO ω l0 11 (kI (F_X11_noOne Θ l0 l1 ω n) (fun x1 ω n => cO ω l0 11 (kI (F_X11_throwsIf Θ l0 x1 1 ω n) (fun x2 ω n => if x2 = 0 then (cO ω l0 11 (kI (F_X11_ridesStraight Θ l0 l1 ω n) (fun x4 ω n => J_X11_straight_27 Θ x4 ω n))) else (J_X11_straight_27 Θ 0 ω n))))))
theorem ok_J_X11_straight_27 (Θ : GP) (s0 : Int32) (ω : OW) (n : Nat) (r : Out) (h : J_X11_straight_27 Θ s0 ω n = some r) : GR Θ yX11_straight cX11_straight 2 (some .int) 11 (0, 0) 27 [] [.int s0] ω n r := by
  unfold J_X11_straight_27 at h
  cases h
  exact g_iret rfl dX11_straight_27 rfl
theorem ok_X11_straight (Θ : GP) (l0 : Nat) (l1 : Int32) (ω : OW) (n : Nat) : Ok Θ 11 0 0 yX11_straight cX11_straight 2 (some .int) [.ref l0, .int l1] ω n (F_X11_straight Θ l0 l1 ω n) := by
  refine Ok.of (by decide +kernel) (Nat.le_of_ble_eq_true rfl) (fun r h => ?_)
  unfold F_X11_straight at h
  show GR Θ yX11_straight cX11_straight 2 (some .int) 11 (0, 0) 0 [(0, .ref l0), (1, .int l1)] [] ω n r
  refine g_aload_n dX11_straight_0 rfl 0 rfl ?_
  refine g_iconst (v := 0) dX11_straight_1 (by decide) ?_
  refine g_wF fl_X11_3 dX11_straight_2 (rfl) rfl h (fun ω h => ?_)
  refine g_aload_n dX11_straight_5 rfl 0 rfl ?_
  refine g_aload_n dX11_straight_6 rfl 0 rfl ?_
  refine g_iload_n dX11_straight_7 rfl 1 rfl ?_
  refine g_cI (ci := 11) (As := [.int l1]) mv_X11_300 dX11_straight_8 rfl (ok_X11_noOne Θ l0 l1 _ _) rfl rfl (Nat.le_of_ble_eq_true rfl) (by decide) (by decide) (by decide) h (fun x1 ω n h => ?_)
  refine G.less (B' := (0, 0)) (by decide) (by decide) ?_
  refine g_iconst (v := 1) dX11_straight_11 (by decide) ?_
  refine g_cI (ci := 11) (As := [.int x1, .int 1]) mv_X11_262 dX11_straight_12 rfl (ok_X11_throwsIf Θ l0 x1 1 _ _) rfl rfl (Nat.le_of_ble_eq_true rfl) (by decide) (by decide) (by decide) h (fun x2 ω n h => ?_)
  refine G.less (B' := (0, 0)) (by decide) (by decide) ?_
  refine g_if_eq (tgt := 22) dX11_straight_15 (by decide) (fun c3 => ?_) (fun c3 => ?_)
  · rw [if_pos c3] at h
    refine g_aload_n dX11_straight_22 rfl 0 rfl ?_
    refine g_iload_n dX11_straight_23 rfl 1 rfl ?_
    refine g_cI (ci := 11) (As := [.int l1]) mv_X11_367 dX11_straight_24 rfl (ok_X11_ridesStraight Θ l0 l1 _ _) rfl rfl (Nat.le_of_ble_eq_true rfl) (by decide) (by decide) (by decide) h (fun x4 ω n h => ?_)
    refine G.less (B' := (0, 0)) (by decide) (by decide) ?_
    refine G.lsub [] rfl ?_
    exact ok_J_X11_straight_27 Θ x4 _ _ r h
  · rw [if_neg c3] at h
    refine g_iconst (v := 0) dX11_straight_18 (by decide) ?_
    refine g_goto (tgt := 27) dX11_straight_19 (by decide) ?_
    refine G.lsub [] rfl ?_
    exact ok_J_X11_straight_27 Θ 0 _ _ r h
def J_X11_tense_26 (Θ : GP) (l0 : Nat) (l1 : Int32) (l2 : Int32) (s0 : Int32) (s1 : Nat) (ω : OW) (n : Nat) : RO := cO ω s1 11 (kI (F_X11_throwsIf Θ s1 s0 1 ω n) (fun x1 ω n => if x1 = 0 then (cO ω l0 11 (kI (F_X11_ridesStraight Θ l0 l1 ω n) (fun x3 ω n => rA ω l0 11 25 (fun a4 => lI ω (gI Θ) a4 l2 (fun x5 => some (.inl (some (.int x5), ω, n))))))) else (some (.inl (some (.int 0), ω, n)))))
def J_X11_tense_21 (Θ : GP) (l0 : Nat) (l1 : Int32) (l2 : Int32) (s0 : Nat) (ω : OW) (n : Nat) : RO := J_X11_tense_26 Θ l0 l1 l2 1 s0 ω n
def F_X11_tense (Θ : GP) (l0 : Nat) (l1 : Int32) (l2 : Int32) (ω : OW) (n : Nat) : RO := wF ω l0 11 0 (.int 0) (fun ω => cO ω l0 11 (kI (F_X11_noOne Θ l0 l1 ω n) (fun x6 ω n => if x6 = 0 then (kI (F_X11_noSlot Θ l2 ω n) (fun x8 ω n => if x8 = 0 then (J_X11_tense_26 Θ l0 l1 l2 0 l0 ω n) else (J_X11_tense_21 Θ l0 l1 l2 l0 ω n))) else (J_X11_tense_21 Θ l0 l1 l2 l0 ω n))))
theorem ok_J_X11_tense_26 (Θ : GP) (l0 : Nat) (l1 : Int32) (l2 : Int32) (s0 : Int32) (s1 : Nat) (ω : OW) (n : Nat) (r : Out) (h : J_X11_tense_26 Θ l0 l1 l2 s0 s1 ω n = some r) : GR Θ yX11_tense cX11_tense 3 (some .int) 11 (0, 0) 26 [(0, .ref l0), (1, .int l1), (2, .int l2)] [.int s0, .ref s1] ω n r := by
  unfold J_X11_tense_26 at h
  refine g_iconst (v := 1) dX11_tense_26 (by decide) ?_
  refine g_cI (ci := 11) (As := [.int s0, .int 1]) mv_X11_262 dX11_tense_27 rfl (ok_X11_throwsIf Θ s1 s0 1 _ _) rfl rfl (Nat.le_of_ble_eq_true rfl) (by decide) (by decide) (by decide) h (fun x1 ω n h => ?_)
  refine G.less (B' := (0, 0)) (by decide) (by decide) ?_
  refine g_if_eq (tgt := 35) dX11_tense_30 (by decide) (fun c2 => ?_) (fun c2 => ?_)
  · rw [if_pos c2] at h
    refine g_aload_n dX11_tense_35 rfl 0 rfl ?_
    refine g_iload_n dX11_tense_36 rfl 1 rfl ?_
    refine g_cI (ci := 11) (As := [.int l1]) mv_X11_367 dX11_tense_37 rfl (ok_X11_ridesStraight Θ l0 l1 _ _) rfl rfl (Nat.le_of_ble_eq_true rfl) (by decide) (by decide) (by decide) h (fun x3 ω n h => ?_)
    refine G.less (B' := (0, 0)) (by decide) (by decide) ?_
    refine g_pop dX11_tense_40 rfl ?_
    refine g_aload_n dX11_tense_41 rfl 0 rfl ?_
    refine g_rA fl_X11_42 dX11_tense_42 h (fun a4 h => ?_)
    refine g_iload_n dX11_tense_45 rfl 2 rfl ?_
    refine g_lIi dX11_tense_46 h (fun x5 h => ?_)
    cases h
    exact g_iret rfl dX11_tense_47 rfl
  · rw [if_neg c2] at h
    refine g_iconst (v := 0) dX11_tense_33 (by decide) ?_
    cases h
    exact g_iret rfl dX11_tense_34 rfl
theorem ok_J_X11_tense_21 (Θ : GP) (l0 : Nat) (l1 : Int32) (l2 : Int32) (s0 : Nat) (ω : OW) (n : Nat) (r : Out) (h : J_X11_tense_21 Θ l0 l1 l2 s0 ω n = some r) : GR Θ yX11_tense cX11_tense 3 (some .int) 11 (0, 0) 21 [(0, .ref l0), (1, .int l1), (2, .int l2)] [.ref s0] ω n r := by
  unfold J_X11_tense_21 at h
  refine g_iconst (v := 1) dX11_tense_21 (by decide) ?_
  refine g_goto (tgt := 26) dX11_tense_22 (by decide) ?_
  exact ok_J_X11_tense_26 Θ l0 l1 l2 1 s0 _ _ r h
theorem ok_X11_tense (Θ : GP) (l0 : Nat) (l1 : Int32) (l2 : Int32) (ω : OW) (n : Nat) : Ok Θ 11 0 0 yX11_tense cX11_tense 3 (some .int) [.ref l0, .int l1, .int l2] ω n (F_X11_tense Θ l0 l1 l2 ω n) := by
  refine Ok.of (by decide +kernel) (Nat.le_of_ble_eq_true rfl) (fun r h => ?_)
  unfold F_X11_tense at h
  show GR Θ yX11_tense cX11_tense 3 (some .int) 11 (0, 0) 0 [(0, .ref l0), (1, .int l1), (2, .int l2)] [] ω n r
  refine g_aload_n dX11_tense_0 rfl 0 rfl ?_
  refine g_iconst (v := 0) dX11_tense_1 (by decide) ?_
  refine g_wF fl_X11_3 dX11_tense_2 (rfl) rfl h (fun ω h => ?_)
  refine g_aload_n dX11_tense_5 rfl 0 rfl ?_
  refine g_aload_n dX11_tense_6 rfl 0 rfl ?_
  refine g_iload_n dX11_tense_7 rfl 1 rfl ?_
  refine g_cI (ci := 11) (As := [.int l1]) mv_X11_300 dX11_tense_8 rfl (ok_X11_noOne Θ l0 l1 _ _) rfl rfl (Nat.le_of_ble_eq_true rfl) (by decide) (by decide) (by decide) h (fun x6 ω n h => ?_)
  refine G.less (B' := (0, 0)) (by decide) (by decide) ?_
  refine g_if_ne (tgt := 21) dX11_tense_11 (by decide) (fun c7 => ?_) (fun c7 => ?_)
  · rw [if_neg c7] at h
    exact ok_J_X11_tense_21 Θ l0 l1 l2 l0 _ _ r h
  · rw [if_pos c7] at h
    refine g_iload_n dX11_tense_14 rfl 2 rfl ?_
    refine g_sI (As := [.int l2]) ms_X11_297 dX11_tense_15 (ok_X11_noSlot Θ l2 _ _) rfl rfl (Nat.le_of_ble_eq_true rfl) (by decide) (by decide) (by decide) h (fun x8 ω n h => ?_)
    refine G.less (B' := (0, 0)) (by decide) (by decide) ?_
    refine g_if_eq (tgt := 25) dX11_tense_18 (by decide) (fun c9 => ?_) (fun c9 => ?_)
    · rw [if_pos c9] at h
      refine g_iconst (v := 0) dX11_tense_25 (by decide) ?_
      exact ok_J_X11_tense_26 Θ l0 l1 l2 0 l0 _ _ r h
    · rw [if_neg c9] at h
      exact ok_J_X11_tense_21 Θ l0 l1 l2 l0 _ _ r h
def J_X11_corners_78 (Θ : GP) (k_30 : Nat → Int32 → Int32 → OW → Nat → RO) (l0 : Nat) (l3 : Int32) (s0 : Int32) (s1 : Int32) (ω : OW) (n : Nat) : RO := k_30 l0 (s1 ||| s0) (l3 + 1) ω n
def J_X11_corners_77 (Θ : GP) (k_30 : Nat → Int32 → Int32 → OW → Nat → RO) (l0 : Nat) (l3 : Int32) (s0 : Int32) (ω : OW) (n : Nat) : RO := J_X11_corners_78 Θ k_30 l0 l3 0 s0 ω n
def B_X11_corners_30 (Θ : GP) (k_30 : Nat → Int32 → Int32 → OW → Nat → RO) (l0 : Nat) (l2 : Int32) (l3 : Int32) (ω : OW) (n : Nat) : RO := if 10 ≤ l3 then (some (.inl (some (.int l2), ω, n))) else (cO ω l0 11 (kI (F_X11_propIn Θ l0 l3 ω n) (fun x2 ω n => if x2 = (-1) then (rA ω l0 11 25 (fun a4 => lI ω (gI Θ) a4 l3 (fun x5 => if x5 = (-1) then (J_X11_corners_77 Θ k_30 l0 l3 l2 ω n) else (rA ω l0 11 25 (fun a7 => lI ω (gI Θ) a7 l3 (fun x8 => rI ω l0 11 19 (fun x9 => if x8 < (x9 / 2) then (J_X11_corners_77 Θ k_30 l0 l3 l2 ω n) else (J_X11_corners_78 Θ k_30 l0 l3 (1 <<< ((l3 : Int32) &&& 31)) l2 ω n)))))))) else (J_X11_corners_77 Θ k_30 l0 l3 l2 ω n))))
def L_X11_corners_30 (Θ : GP) : Nat → Nat → Int32 → Int32 → OW → Nat → RO
  | 0, _, _, _, _, _ => none
  | f + 1, l0, l2, l3, ω, n => B_X11_corners_30 Θ (L_X11_corners_30 Θ f) l0 l2 l3 ω n
def F_X11_corners (Θ : GP) (l0 : Nat) (l1 : Int32) (ω : OW) (n : Nat) : RO := wF ω l0 11 0 (.int 0) (fun ω => cO ω l0 11 (kI (F_X11_noOne Θ l0 l1 ω n) (fun x11 ω n => cO ω l0 11 (kI (F_X11_throwsIf Θ l0 x11 1 ω n) (fun x12 ω n => if x12 = 0 then (cO ω l0 11 (kI (F_X11_ridesStraight Θ l0 l1 ω n) (fun x14 ω n => L_X11_corners_30 Θ 5000 l0 0 0 ω n))) else (some (.inl (some (.int 0), ω, n))))))))
theorem ok_J_X11_corners_78 (Θ : GP) (k_30 : Nat → Int32 → Int32 → OW → Nat → RO) (hk_30 : ∀ l0 l2 l3 ω n r, k_30 l0 l2 l3 ω n = some r → GR Θ yX11_corners cX11_corners 4 (some .int) 11 (0, 0) 30 [(0, .ref l0), (2, .int l2), (3, .int l3)] [] ω n r) (l0 : Nat) (l3 : Int32) (s0 : Int32) (s1 : Int32) (ω : OW) (n : Nat) (r : Out) (h : J_X11_corners_78 Θ k_30 l0 l3 s0 s1 ω n = some r) : GR Θ yX11_corners cX11_corners 4 (some .int) 11 (0, 0) 78 [(0, .ref l0), (3, .int l3)] [.int s0, .int s1] ω n r := by
  unfold J_X11_corners_78 at h
  refine g_ior dX11_corners_78 ?_
  refine g_istore_n (lv' := [(2, .int (s1 ||| s0)), (0, .ref l0), (3, .int l3)]) dX11_corners_79 rfl (by decide) rfl ?_
  refine g_iinc (j := 2) (v := l3 + 1) (lv' := [(3, .int (l3 + 1)), (2, .int (s1 ||| s0)), (0, .ref l0)]) dX11_corners_80 rfl rfl (by decide) rfl ?_
  refine g_goto (tgt := 30) dX11_corners_83 (by decide) ?_
  refine G.lsub [2, 1, 0] rfl ?_
  exact hk_30 l0 (s1 ||| s0) (l3 + 1) _ _ r h
theorem ok_J_X11_corners_77 (Θ : GP) (k_30 : Nat → Int32 → Int32 → OW → Nat → RO) (hk_30 : ∀ l0 l2 l3 ω n r, k_30 l0 l2 l3 ω n = some r → GR Θ yX11_corners cX11_corners 4 (some .int) 11 (0, 0) 30 [(0, .ref l0), (2, .int l2), (3, .int l3)] [] ω n r) (l0 : Nat) (l3 : Int32) (s0 : Int32) (ω : OW) (n : Nat) (r : Out) (h : J_X11_corners_77 Θ k_30 l0 l3 s0 ω n = some r) : GR Θ yX11_corners cX11_corners 4 (some .int) 11 (0, 0) 77 [(0, .ref l0), (3, .int l3)] [.int s0] ω n r := by
  unfold J_X11_corners_77 at h
  refine g_iconst (v := 0) dX11_corners_77 (by decide) ?_
  exact ok_J_X11_corners_78 Θ k_30 hk_30 l0 l3 0 s0 _ _ r h
theorem ok_B_X11_corners_30 (Θ : GP) (k_30 : Nat → Int32 → Int32 → OW → Nat → RO) (hk_30 : ∀ l0 l2 l3 ω n r, k_30 l0 l2 l3 ω n = some r → GR Θ yX11_corners cX11_corners 4 (some .int) 11 (0, 0) 30 [(0, .ref l0), (2, .int l2), (3, .int l3)] [] ω n r) (l0 : Nat) (l2 : Int32) (l3 : Int32) (ω : OW) (n : Nat) (r : Out) (h : B_X11_corners_30 Θ k_30 l0 l2 l3 ω n = some r) : GR Θ yX11_corners cX11_corners 4 (some .int) 11 (0, 0) 30 [(0, .ref l0), (2, .int l2), (3, .int l3)] [] ω n r := by
  unfold B_X11_corners_30 at h
  refine g_iload_n dX11_corners_30 rfl 2 rfl ?_
  refine g_bipush (v := 10) dX11_corners_31 (by decide) ?_
  refine g_icmp_ge (tgt := 86) dX11_corners_33 (by decide) (fun c1 => ?_) (fun c1 => ?_)
  · rw [if_pos c1] at h
    refine g_iload_n dX11_corners_86 rfl 1 rfl ?_
    cases h
    exact g_iret rfl dX11_corners_87 rfl
  · rw [if_neg c1] at h
    refine g_iload_n dX11_corners_36 rfl 1 rfl ?_
    refine g_aload_n dX11_corners_37 rfl 0 rfl ?_
    refine g_iload_n dX11_corners_38 rfl 2 rfl ?_
    refine g_cI (ci := 11) (As := [.int l3]) mv_X11_160 dX11_corners_39 rfl (ok_X11_propIn Θ l0 l3 _ _) rfl rfl (Nat.le_of_ble_eq_true rfl) (by decide) (by decide) (by decide) h (fun x2 ω n h => ?_)
    refine G.less (B' := (0, 0)) (by decide) (by decide) ?_
    refine g_iconst (v := (-1)) dX11_corners_42 (by decide) ?_
    refine g_icmp_ne (tgt := 77) dX11_corners_43 (by decide) (fun c3 => ?_) (fun c3 => ?_)
    · rw [if_neg c3] at h
      refine G.lsub [0, 2] rfl ?_
      exact ok_J_X11_corners_77 Θ k_30 hk_30 l0 l3 l2 _ _ r h
    · rw [if_pos c3] at h
      refine g_aload_n dX11_corners_46 rfl 0 rfl ?_
      refine g_rA fl_X11_42 dX11_corners_47 h (fun a4 h => ?_)
      refine g_iload_n dX11_corners_50 rfl 2 rfl ?_
      refine g_lIi dX11_corners_51 h (fun x5 h => ?_)
      refine g_iconst (v := (-1)) dX11_corners_52 (by decide) ?_
      refine g_icmp_eq (tgt := 77) dX11_corners_53 (by decide) (fun c6 => ?_) (fun c6 => ?_)
      · rw [if_pos c6] at h
        refine G.lsub [0, 2] rfl ?_
        exact ok_J_X11_corners_77 Θ k_30 hk_30 l0 l3 l2 _ _ r h
      · rw [if_neg c6] at h
        refine g_aload_n dX11_corners_56 rfl 0 rfl ?_
        refine g_rA fl_X11_42 dX11_corners_57 h (fun a7 h => ?_)
        refine g_iload_n dX11_corners_60 rfl 2 rfl ?_
        refine g_lIi dX11_corners_61 h (fun x8 h => ?_)
        refine g_aload_n dX11_corners_62 rfl 0 rfl ?_
        refine g_rI fl_X11_268 dX11_corners_63 h (fun x9 h => ?_)
        refine g_iconst (v := 2) dX11_corners_66 (by decide) ?_
        refine g_idiv dX11_corners_67 (by decide) ?_
        refine g_icmp_lt (tgt := 77) dX11_corners_68 (by decide) (fun c10 => ?_) (fun c10 => ?_)
        · rw [if_pos c10] at h
          refine G.lsub [0, 2] rfl ?_
          exact ok_J_X11_corners_77 Θ k_30 hk_30 l0 l3 l2 _ _ r h
        · rw [if_neg c10] at h
          refine g_iconst (v := 1) dX11_corners_71 (by decide) ?_
          refine g_iload_n dX11_corners_72 rfl 2 rfl ?_
          refine g_ishl dX11_corners_73 ?_
          refine g_goto (tgt := 78) dX11_corners_74 (by decide) ?_
          refine G.lsub [0, 2] rfl ?_
          exact ok_J_X11_corners_78 Θ k_30 hk_30 l0 l3 (1 <<< ((l3 : Int32) &&& 31)) l2 _ _ r h
theorem ok_L_X11_corners_30 (Θ : GP) : ∀ (f : Nat) (l0 : Nat) (l2 : Int32) (l3 : Int32) (ω : OW) (n : Nat) (r : Out), L_X11_corners_30 Θ f l0 l2 l3 ω n = some r → GR Θ yX11_corners cX11_corners 4 (some .int) 11 (0, 0) 30 [(0, .ref l0), (2, .int l2), (3, .int l3)] [] ω n r := by
  intro f
  induction f with
  | zero =>
    intro l0 l2 l3 ω n r h
    unfold L_X11_corners_30 at h
    cases h
  | succ f ih =>
    intro l0 l2 l3 ω n r h
    unfold L_X11_corners_30 at h
    exact ok_B_X11_corners_30 Θ (L_X11_corners_30 Θ f) ih l0 l2 l3 ω n r h
theorem ok_X11_corners (Θ : GP) (l0 : Nat) (l1 : Int32) (ω : OW) (n : Nat) : Ok Θ 11 0 0 yX11_corners cX11_corners 4 (some .int) [.ref l0, .int l1] ω n (F_X11_corners Θ l0 l1 ω n) := by
  refine Ok.of (by decide +kernel) (Nat.le_of_ble_eq_true rfl) (fun r h => ?_)
  unfold F_X11_corners at h
  show GR Θ yX11_corners cX11_corners 4 (some .int) 11 (0, 0) 0 [(0, .ref l0), (1, .int l1)] [] ω n r
  refine g_aload_n dX11_corners_0 rfl 0 rfl ?_
  refine g_iconst (v := 0) dX11_corners_1 (by decide) ?_
  refine g_wF fl_X11_3 dX11_corners_2 (rfl) rfl h (fun ω h => ?_)
  refine g_aload_n dX11_corners_5 rfl 0 rfl ?_
  refine g_aload_n dX11_corners_6 rfl 0 rfl ?_
  refine g_iload_n dX11_corners_7 rfl 1 rfl ?_
  refine g_cI (ci := 11) (As := [.int l1]) mv_X11_300 dX11_corners_8 rfl (ok_X11_noOne Θ l0 l1 _ _) rfl rfl (Nat.le_of_ble_eq_true rfl) (by decide) (by decide) (by decide) h (fun x11 ω n h => ?_)
  refine G.less (B' := (0, 0)) (by decide) (by decide) ?_
  refine g_iconst (v := 1) dX11_corners_11 (by decide) ?_
  refine g_cI (ci := 11) (As := [.int x11, .int 1]) mv_X11_262 dX11_corners_12 rfl (ok_X11_throwsIf Θ l0 x11 1 _ _) rfl rfl (Nat.le_of_ble_eq_true rfl) (by decide) (by decide) (by decide) h (fun x12 ω n h => ?_)
  refine G.less (B' := (0, 0)) (by decide) (by decide) ?_
  refine g_if_eq (tgt := 20) dX11_corners_15 (by decide) (fun c13 => ?_) (fun c13 => ?_)
  · rw [if_pos c13] at h
    refine g_aload_n dX11_corners_20 rfl 0 rfl ?_
    refine g_iload_n dX11_corners_21 rfl 1 rfl ?_
    refine g_cI (ci := 11) (As := [.int l1]) mv_X11_367 dX11_corners_22 rfl (ok_X11_ridesStraight Θ l0 l1 _ _) rfl rfl (Nat.le_of_ble_eq_true rfl) (by decide) (by decide) (by decide) h (fun x14 ω n h => ?_)
    refine G.less (B' := (0, 0)) (by decide) (by decide) ?_
    refine g_pop dX11_corners_25 rfl ?_
    refine g_iconst (v := 0) dX11_corners_26 (by decide) ?_
    refine g_istore_n (lv' := [(2, .int 0), (0, .ref l0), (1, .int l1)]) dX11_corners_27 rfl (by decide) rfl ?_
    refine g_iconst (v := 0) dX11_corners_28 (by decide) ?_
    refine g_istore_n (lv' := [(3, .int 0), (2, .int 0), (0, .ref l0), (1, .int l1)]) dX11_corners_29 rfl (by decide) rfl ?_
    refine G.lsub [2, 1, 0] rfl ?_
    exact ok_L_X11_corners_30 Θ 5000 l0 0 0 _ _ r h
  · rw [if_neg c13] at h
    refine g_iconst (v := 0) dX11_corners_18 (by decide) ?_
    cases h
    exact g_iret rfl dX11_corners_19 rfl
def J_X11_share_102 (Θ : GP) (s0 : Int32) (ω : OW) (n : Nat) : RO := some (.inl (some (.int s0), ω, n))
def J_X11_share_82 (Θ : GP) (ω : OW) (n : Nat) : RO := J_X11_share_102 Θ 0 ω n
def B_X11_share_47 (Θ : GP) (k_47 : Nat → Int32 → Int32 → Int32 → OW → Nat → RO) (l0 : Nat) (l1 : Int32) (l3 : Int32) (l4 : Int32) (ω : OW) (n : Nat) : RO := if 10 ≤ l4 then (if l3 = 0 then (J_X11_share_82 Θ ω n) else (cO ω l0 11 (kI (F_X11_isNailed Θ l0 l1 ω n) (fun x3 ω n => if x3 = 0 then (J_X11_share_82 Θ ω n) else (rA ω l0 11 26 (fun a5 => cO ω l0 11 (kI (F_X11_ofProp Θ l0 l1 3 ω n) (fun x6 ω n => lI ω (gI Θ) a5 x6 (fun x7 => nz l3 (J_X11_share_102 Θ ((100 * x7) / l3) ω n)))))))))) else (rA ω l0 11 26 (fun a9 => lI ω (gI Θ) a9 l4 (fun x10 => k_47 l0 l1 (l3 + x10) (l4 + 1) ω n)))
def L_X11_share_47 (Θ : GP) : Nat → Nat → Int32 → Int32 → Int32 → OW → Nat → RO
  | 0, _, _, _, _, _, _ => none
  | f + 1, l0, l1, l3, l4, ω, n => B_X11_share_47 Θ (L_X11_share_47 Θ f) l0 l1 l3 l4 ω n
def J_X11_share_27 (Θ : GP) (l0 : Nat) (l1 : Int32) (l2 : Int32) (s0 : Int32) (s1 : Nat) (ω : OW) (n : Nat) : RO := cO ω s1 11 (kI (F_X11_throwsIf Θ s1 s0 1 ω n) (fun x11 ω n => if x11 = 0 then (cO ω l0 11 (kI (F_X11_ridesStraight Θ l0 l2 ω n) (fun x13 ω n => L_X11_share_47 Θ 5000 l0 l1 0 0 ω n))) else (some (.inl (some (.int 0), ω, n)))))
def J_X11_share_22 (Θ : GP) (l0 : Nat) (l1 : Int32) (l2 : Int32) (s0 : Nat) (ω : OW) (n : Nat) : RO := J_X11_share_27 Θ l0 l1 l2 1 s0 ω n
def F_X11_share (Θ : GP) (l0 : Nat) (l1 : Int32) (l2 : Int32) (ω : OW) (n : Nat) : RO := wF ω l0 11 0 (.int 0) (fun ω => cO ω l0 11 (kI (F_X11_noProp Θ l0 l1 ω n) (fun x14 ω n => if x14 = 0 then (cO ω l0 11 (kI (F_X11_noOne Θ l0 l2 ω n) (fun x16 ω n => if x16 = 0 then (J_X11_share_27 Θ l0 l1 l2 0 l0 ω n) else (J_X11_share_22 Θ l0 l1 l2 l0 ω n)))) else (J_X11_share_22 Θ l0 l1 l2 l0 ω n))))
theorem ok_J_X11_share_102 (Θ : GP) (s0 : Int32) (ω : OW) (n : Nat) (r : Out) (h : J_X11_share_102 Θ s0 ω n = some r) : GR Θ yX11_share cX11_share 5 (some .int) 11 (0, 0) 102 [] [.int s0] ω n r := by
  unfold J_X11_share_102 at h
  cases h
  exact g_iret rfl dX11_share_102 rfl
theorem ok_J_X11_share_82 (Θ : GP) (ω : OW) (n : Nat) (r : Out) (h : J_X11_share_82 Θ ω n = some r) : GR Θ yX11_share cX11_share 5 (some .int) 11 (0, 0) 82 [] [] ω n r := by
  unfold J_X11_share_82 at h
  refine g_iconst (v := 0) dX11_share_82 (by decide) ?_
  refine g_goto (tgt := 102) dX11_share_83 (by decide) ?_
  exact ok_J_X11_share_102 Θ 0 _ _ r h
theorem ok_B_X11_share_47 (Θ : GP) (k_47 : Nat → Int32 → Int32 → Int32 → OW → Nat → RO) (hk_47 : ∀ l0 l1 l3 l4 ω n r, k_47 l0 l1 l3 l4 ω n = some r → GR Θ yX11_share cX11_share 5 (some .int) 11 (0, 0) 47 [(0, .ref l0), (1, .int l1), (3, .int l3), (4, .int l4)] [] ω n r) (l0 : Nat) (l1 : Int32) (l3 : Int32) (l4 : Int32) (ω : OW) (n : Nat) (r : Out) (h : B_X11_share_47 Θ k_47 l0 l1 l3 l4 ω n = some r) : GR Θ yX11_share cX11_share 5 (some .int) 11 (0, 0) 47 [(0, .ref l0), (1, .int l1), (3, .int l3), (4, .int l4)] [] ω n r := by
  unfold B_X11_share_47 at h
  refine g_iload dX11_share_47 3 rfl ?_
  refine g_bipush (v := 10) dX11_share_49 (by decide) ?_
  refine g_icmp_ge (tgt := 70) dX11_share_51 (by decide) (fun c1 => ?_) (fun c1 => ?_)
  · rw [if_pos c1] at h
    refine g_iload_n dX11_share_70 rfl 2 rfl ?_
    refine g_if_eq (tgt := 82) dX11_share_71 (by decide) (fun c2 => ?_) (fun c2 => ?_)
    · rw [if_pos c2] at h
      refine G.lsub [] rfl ?_
      exact ok_J_X11_share_82 Θ _ _ r h
    · rw [if_neg c2] at h
      refine g_aload_n dX11_share_74 rfl 0 rfl ?_
      refine g_iload_n dX11_share_75 rfl 1 rfl ?_
      refine g_cI (ci := 11) (As := [.int l1]) mv_X11_94 dX11_share_76 rfl (ok_X11_isNailed Θ l0 l1 _ _) rfl rfl (Nat.le_of_ble_eq_true rfl) (by decide) (by decide) (by decide) h (fun x3 ω n h => ?_)
      refine G.less (B' := (0, 0)) (by decide) (by decide) ?_
      refine g_if_ne (tgt := 86) dX11_share_79 (by decide) (fun c4 => ?_) (fun c4 => ?_)
      · rw [if_neg c4] at h
        refine g_bipush (v := 100) dX11_share_86 (by decide) ?_
        refine g_aload_n dX11_share_88 rfl 0 rfl ?_
        refine g_rA fl_X11_45 dX11_share_89 h (fun a5 h => ?_)
        refine g_aload_n dX11_share_92 rfl 0 rfl ?_
        refine g_iload_n dX11_share_93 rfl 1 rfl ?_
        refine g_iconst (v := 3) dX11_share_94 (by decide) ?_
        refine g_cI (ci := 11) (As := [.int l1, .int 3]) mv_X11_74 dX11_share_95 rfl (ok_X11_ofProp Θ l0 l1 3 _ _) rfl rfl (Nat.le_of_ble_eq_true rfl) (by decide) (by decide) (by decide) h (fun x6 ω n h => ?_)
        refine G.less (B' := (0, 0)) (by decide) (by decide) ?_
        refine g_lIi dX11_share_98 h (fun x7 h => ?_)
        refine g_imul dX11_share_99 ?_
        refine g_iload_n dX11_share_100 rfl 2 rfl ?_
        obtain ⟨z8, h⟩ := nz_inv h
        refine g_idiv dX11_share_101 z8 ?_
        refine G.lsub [] rfl ?_
        exact ok_J_X11_share_102 Θ ((100 * x7) / l3) _ _ r h
      · rw [if_pos c4] at h
        refine G.lsub [] rfl ?_
        exact ok_J_X11_share_82 Θ _ _ r h
  · rw [if_neg c1] at h
    refine g_iload_n dX11_share_54 rfl 2 rfl ?_
    refine g_aload_n dX11_share_55 rfl 0 rfl ?_
    refine g_rA fl_X11_45 dX11_share_56 h (fun a9 h => ?_)
    refine g_iload dX11_share_59 3 rfl ?_
    refine g_lIi dX11_share_61 h (fun x10 h => ?_)
    refine g_iadd dX11_share_62 ?_
    refine g_istore_n (lv' := [(3, .int (l3 + x10)), (0, .ref l0), (1, .int l1), (4, .int l4)]) dX11_share_63 rfl (by decide) rfl ?_
    refine g_iinc (j := 3) (v := l4 + 1) (lv' := [(4, .int (l4 + 1)), (3, .int (l3 + x10)), (0, .ref l0), (1, .int l1)]) dX11_share_64 rfl rfl (by decide) rfl ?_
    refine g_goto (tgt := 47) dX11_share_67 (by decide) ?_
    refine G.lsub [2, 3, 1, 0] rfl ?_
    exact hk_47 l0 l1 (l3 + x10) (l4 + 1) _ _ r h
theorem ok_L_X11_share_47 (Θ : GP) : ∀ (f : Nat) (l0 : Nat) (l1 : Int32) (l3 : Int32) (l4 : Int32) (ω : OW) (n : Nat) (r : Out), L_X11_share_47 Θ f l0 l1 l3 l4 ω n = some r → GR Θ yX11_share cX11_share 5 (some .int) 11 (0, 0) 47 [(0, .ref l0), (1, .int l1), (3, .int l3), (4, .int l4)] [] ω n r := by
  intro f
  induction f with
  | zero =>
    intro l0 l1 l3 l4 ω n r h
    unfold L_X11_share_47 at h
    cases h
  | succ f ih =>
    intro l0 l1 l3 l4 ω n r h
    unfold L_X11_share_47 at h
    exact ok_B_X11_share_47 Θ (L_X11_share_47 Θ f) ih l0 l1 l3 l4 ω n r h
theorem ok_J_X11_share_27 (Θ : GP) (l0 : Nat) (l1 : Int32) (l2 : Int32) (s0 : Int32) (s1 : Nat) (ω : OW) (n : Nat) (r : Out) (h : J_X11_share_27 Θ l0 l1 l2 s0 s1 ω n = some r) : GR Θ yX11_share cX11_share 5 (some .int) 11 (0, 0) 27 [(0, .ref l0), (1, .int l1), (2, .int l2)] [.int s0, .ref s1] ω n r := by
  unfold J_X11_share_27 at h
  refine g_iconst (v := 1) dX11_share_27 (by decide) ?_
  refine g_cI (ci := 11) (As := [.int s0, .int 1]) mv_X11_262 dX11_share_28 rfl (ok_X11_throwsIf Θ s1 s0 1 _ _) rfl rfl (Nat.le_of_ble_eq_true rfl) (by decide) (by decide) (by decide) h (fun x11 ω n h => ?_)
  refine G.less (B' := (0, 0)) (by decide) (by decide) ?_
  refine g_if_eq (tgt := 36) dX11_share_31 (by decide) (fun c12 => ?_) (fun c12 => ?_)
  · rw [if_pos c12] at h
    refine g_aload_n dX11_share_36 rfl 0 rfl ?_
    refine g_iload_n dX11_share_37 rfl 2 rfl ?_
    refine g_cI (ci := 11) (As := [.int l2]) mv_X11_367 dX11_share_38 rfl (ok_X11_ridesStraight Θ l0 l2 _ _) rfl rfl (Nat.le_of_ble_eq_true rfl) (by decide) (by decide) (by decide) h (fun x13 ω n h => ?_)
    refine G.less (B' := (0, 0)) (by decide) (by decide) ?_
    refine g_pop dX11_share_41 rfl ?_
    refine g_iconst (v := 0) dX11_share_42 (by decide) ?_
    refine g_istore_n (lv' := [(3, .int 0), (0, .ref l0), (1, .int l1), (2, .int l2)]) dX11_share_43 rfl (by decide) rfl ?_
    refine g_iconst (v := 0) dX11_share_44 (by decide) ?_
    refine g_istore (lv' := [(4, .int 0), (3, .int 0), (0, .ref l0), (1, .int l1), (2, .int l2)]) dX11_share_45 (by decide) rfl ?_
    refine G.lsub [2, 3, 1, 0] rfl ?_
    exact ok_L_X11_share_47 Θ 5000 l0 l1 0 0 _ _ r h
  · rw [if_neg c12] at h
    refine g_iconst (v := 0) dX11_share_34 (by decide) ?_
    cases h
    exact g_iret rfl dX11_share_35 rfl
theorem ok_J_X11_share_22 (Θ : GP) (l0 : Nat) (l1 : Int32) (l2 : Int32) (s0 : Nat) (ω : OW) (n : Nat) (r : Out) (h : J_X11_share_22 Θ l0 l1 l2 s0 ω n = some r) : GR Θ yX11_share cX11_share 5 (some .int) 11 (0, 0) 22 [(0, .ref l0), (1, .int l1), (2, .int l2)] [.ref s0] ω n r := by
  unfold J_X11_share_22 at h
  refine g_iconst (v := 1) dX11_share_22 (by decide) ?_
  refine g_goto (tgt := 27) dX11_share_23 (by decide) ?_
  exact ok_J_X11_share_27 Θ l0 l1 l2 1 s0 _ _ r h
theorem ok_X11_share (Θ : GP) (l0 : Nat) (l1 : Int32) (l2 : Int32) (ω : OW) (n : Nat) : Ok Θ 11 0 0 yX11_share cX11_share 5 (some .int) [.ref l0, .int l1, .int l2] ω n (F_X11_share Θ l0 l1 l2 ω n) := by
  refine Ok.of (by decide +kernel) (Nat.le_of_ble_eq_true rfl) (fun r h => ?_)
  unfold F_X11_share at h
  show GR Θ yX11_share cX11_share 5 (some .int) 11 (0, 0) 0 [(0, .ref l0), (1, .int l1), (2, .int l2)] [] ω n r
  refine g_aload_n dX11_share_0 rfl 0 rfl ?_
  refine g_iconst (v := 0) dX11_share_1 (by decide) ?_
  refine g_wF fl_X11_3 dX11_share_2 (rfl) rfl h (fun ω h => ?_)
  refine g_aload_n dX11_share_5 rfl 0 rfl ?_
  refine g_aload_n dX11_share_6 rfl 0 rfl ?_
  refine g_iload_n dX11_share_7 rfl 1 rfl ?_
  refine g_cI (ci := 11) (As := [.int l1]) mv_X11_294 dX11_share_8 rfl (ok_X11_noProp Θ l0 l1 _ _) rfl rfl (Nat.le_of_ble_eq_true rfl) (by decide) (by decide) (by decide) h (fun x14 ω n h => ?_)
  refine G.less (B' := (0, 0)) (by decide) (by decide) ?_
  refine g_if_ne (tgt := 22) dX11_share_11 (by decide) (fun c15 => ?_) (fun c15 => ?_)
  · rw [if_neg c15] at h
    exact ok_J_X11_share_22 Θ l0 l1 l2 l0 _ _ r h
  · rw [if_pos c15] at h
    refine g_aload_n dX11_share_14 rfl 0 rfl ?_
    refine g_iload_n dX11_share_15 rfl 2 rfl ?_
    refine g_cI (ci := 11) (As := [.int l2]) mv_X11_300 dX11_share_16 rfl (ok_X11_noOne Θ l0 l2 _ _) rfl rfl (Nat.le_of_ble_eq_true rfl) (by decide) (by decide) (by decide) h (fun x16 ω n h => ?_)
    refine G.less (B' := (0, 0)) (by decide) (by decide) ?_
    refine g_if_eq (tgt := 26) dX11_share_19 (by decide) (fun c17 => ?_) (fun c17 => ?_)
    · rw [if_pos c17] at h
      refine g_iconst (v := 0) dX11_share_26 (by decide) ?_
      exact ok_J_X11_share_27 Θ l0 l1 l2 0 l0 _ _ r h
    · rw [if_neg c17] at h
      exact ok_J_X11_share_22 Θ l0 l1 l2 l0 _ _ r h
def B_X11_keepsAll_2 (Θ : GP) (k_2 : Nat → Int32 → OW → Nat → RO) (l0 : Nat) (l1 : Int32) (ω : OW) (n : Nat) : RO := if 305 ≤ l1 then (some (.inl (none, ω, n))) else (rA ω l0 11 4 (fun a2 => rA ω l0 11 1 (fun a3 => lI ω (gI Θ) a3 l1 (fun x4 => sI ω (gI Θ) a2 l1 x4 (fun ω => k_2 l0 (l1 + 1) ω n)))))
def L_X11_keepsAll_2 (Θ : GP) : Nat → Nat → Int32 → OW → Nat → RO
  | 0, _, _, _, _ => none
  | f + 1, l0, l1, ω, n => B_X11_keepsAll_2 Θ (L_X11_keepsAll_2 Θ f) l0 l1 ω n
def F_X11_keepsAll (Θ : GP) (l0 : Nat) (ω : OW) (n : Nat) : RO := L_X11_keepsAll_2 Θ 5000 l0 0 ω n
theorem ok_B_X11_keepsAll_2 (Θ : GP) (k_2 : Nat → Int32 → OW → Nat → RO) (hk_2 : ∀ l0 l1 ω n r, k_2 l0 l1 ω n = some r → GR Θ yX11_keepsAll cX11_keepsAll 2 (none : Option Jvm.ClassFile.FieldType) 1 (0, 0) 2 [(0, .ref l0), (1, .int l1)] [] ω n r) (l0 : Nat) (l1 : Int32) (ω : OW) (n : Nat) (r : Out) (h : B_X11_keepsAll_2 Θ k_2 l0 l1 ω n = some r) : GR Θ yX11_keepsAll cX11_keepsAll 2 (none : Option Jvm.ClassFile.FieldType) 1 (0, 0) 2 [(0, .ref l0), (1, .int l1)] [] ω n r := by
  unfold B_X11_keepsAll_2 at h
  refine g_iload_n dX11_keepsAll_2 rfl 1 rfl ?_
  refine g_sipush (v := 305) dX11_keepsAll_3 (by decide) ?_
  refine g_icmp_ge (tgt := 27) dX11_keepsAll_6 (by decide) (fun c1 => ?_) (fun c1 => ?_)
  · rw [if_pos c1] at h
    cases h
    exact g_vret rfl dX11_keepsAll_27 rfl
  · rw [if_neg c1] at h
    refine g_aload_n dX11_keepsAll_9 rfl 0 rfl ?_
    refine g_rA fl_X11_23 dX11_keepsAll_10 h (fun a2 h => ?_)
    refine g_iload_n dX11_keepsAll_13 rfl 1 rfl ?_
    refine g_aload_n dX11_keepsAll_14 rfl 0 rfl ?_
    refine g_rA fl_X11_13 dX11_keepsAll_15 h (fun a3 h => ?_)
    refine g_iload_n dX11_keepsAll_18 rfl 1 rfl ?_
    refine g_lIi dX11_keepsAll_19 h (fun x4 h => ?_)
    refine g_sIi dX11_keepsAll_20 h (fun ω h => ?_)
    refine g_iinc (j := 1) (v := l1 + 1) (lv' := [(1, .int (l1 + 1)), (0, .ref l0)]) dX11_keepsAll_21 rfl rfl (by decide) rfl ?_
    refine g_goto (tgt := 2) dX11_keepsAll_24 (by decide) ?_
    refine G.lsub [1, 0] rfl ?_
    exact hk_2 l0 (l1 + 1) _ _ r h
theorem ok_L_X11_keepsAll_2 (Θ : GP) : ∀ (f : Nat) (l0 : Nat) (l1 : Int32) (ω : OW) (n : Nat) (r : Out), L_X11_keepsAll_2 Θ f l0 l1 ω n = some r → GR Θ yX11_keepsAll cX11_keepsAll 2 (none : Option Jvm.ClassFile.FieldType) 1 (0, 0) 2 [(0, .ref l0), (1, .int l1)] [] ω n r := by
  intro f
  induction f with
  | zero =>
    intro l0 l1 ω n r h
    unfold L_X11_keepsAll_2 at h
    cases h
  | succ f ih =>
    intro l0 l1 ω n r h
    unfold L_X11_keepsAll_2 at h
    exact ok_B_X11_keepsAll_2 Θ (L_X11_keepsAll_2 Θ f) ih l0 l1 ω n r h
theorem ok_X11_keepsAll (Θ : GP) (l0 : Nat) (ω : OW) (n : Nat) : Ok Θ 1 0 0 yX11_keepsAll cX11_keepsAll 2 (none : Option Jvm.ClassFile.FieldType) [.ref l0] ω n (F_X11_keepsAll Θ l0 ω n) := by
  refine Ok.of (by decide +kernel) (Nat.le_of_ble_eq_true rfl) (fun r h => ?_)
  unfold F_X11_keepsAll at h
  show GR Θ yX11_keepsAll cX11_keepsAll 2 (none : Option Jvm.ClassFile.FieldType) 1 (0, 0) 0 [(0, .ref l0)] [] ω n r
  refine g_iconst (v := 0) dX11_keepsAll_0 (by decide) ?_
  refine g_istore_n (lv' := [(1, .int 0), (0, .ref l0)]) dX11_keepsAll_1 rfl (by decide) rfl ?_
  refine G.lsub [1, 0] rfl ?_
  exact ok_L_X11_keepsAll_2 Θ 5000 l0 0 _ _ r h
def B_X11_bringsBack_2 (Θ : GP) (k_2 : Nat → Int32 → OW → Nat → RO) (l0 : Nat) (l1 : Int32) (ω : OW) (n : Nat) : RO := if 305 ≤ l1 then (some (.inl (none, ω, n))) else (rA ω l0 11 1 (fun a2 => rA ω l0 11 4 (fun a3 => lI ω (gI Θ) a3 l1 (fun x4 => sI ω (gI Θ) a2 l1 x4 (fun ω => k_2 l0 (l1 + 1) ω n)))))
def L_X11_bringsBack_2 (Θ : GP) : Nat → Nat → Int32 → OW → Nat → RO
  | 0, _, _, _, _ => none
  | f + 1, l0, l1, ω, n => B_X11_bringsBack_2 Θ (L_X11_bringsBack_2 Θ f) l0 l1 ω n
def F_X11_bringsBack (Θ : GP) (l0 : Nat) (ω : OW) (n : Nat) : RO := L_X11_bringsBack_2 Θ 5000 l0 0 ω n
theorem ok_B_X11_bringsBack_2 (Θ : GP) (k_2 : Nat → Int32 → OW → Nat → RO) (hk_2 : ∀ l0 l1 ω n r, k_2 l0 l1 ω n = some r → GR Θ yX11_bringsBack cX11_bringsBack 2 (none : Option Jvm.ClassFile.FieldType) 1 (0, 0) 2 [(0, .ref l0), (1, .int l1)] [] ω n r) (l0 : Nat) (l1 : Int32) (ω : OW) (n : Nat) (r : Out) (h : B_X11_bringsBack_2 Θ k_2 l0 l1 ω n = some r) : GR Θ yX11_bringsBack cX11_bringsBack 2 (none : Option Jvm.ClassFile.FieldType) 1 (0, 0) 2 [(0, .ref l0), (1, .int l1)] [] ω n r := by
  unfold B_X11_bringsBack_2 at h
  refine g_iload_n dX11_bringsBack_2 rfl 1 rfl ?_
  refine g_sipush (v := 305) dX11_bringsBack_3 (by decide) ?_
  refine g_icmp_ge (tgt := 27) dX11_bringsBack_6 (by decide) (fun c1 => ?_) (fun c1 => ?_)
  · rw [if_pos c1] at h
    cases h
    exact g_vret rfl dX11_bringsBack_27 rfl
  · rw [if_neg c1] at h
    refine g_aload_n dX11_bringsBack_9 rfl 0 rfl ?_
    refine g_rA fl_X11_13 dX11_bringsBack_10 h (fun a2 h => ?_)
    refine g_iload_n dX11_bringsBack_13 rfl 1 rfl ?_
    refine g_aload_n dX11_bringsBack_14 rfl 0 rfl ?_
    refine g_rA fl_X11_23 dX11_bringsBack_15 h (fun a3 h => ?_)
    refine g_iload_n dX11_bringsBack_18 rfl 1 rfl ?_
    refine g_lIi dX11_bringsBack_19 h (fun x4 h => ?_)
    refine g_sIi dX11_bringsBack_20 h (fun ω h => ?_)
    refine g_iinc (j := 1) (v := l1 + 1) (lv' := [(1, .int (l1 + 1)), (0, .ref l0)]) dX11_bringsBack_21 rfl rfl (by decide) rfl ?_
    refine g_goto (tgt := 2) dX11_bringsBack_24 (by decide) ?_
    refine G.lsub [1, 0] rfl ?_
    exact hk_2 l0 (l1 + 1) _ _ r h
theorem ok_L_X11_bringsBack_2 (Θ : GP) : ∀ (f : Nat) (l0 : Nat) (l1 : Int32) (ω : OW) (n : Nat) (r : Out), L_X11_bringsBack_2 Θ f l0 l1 ω n = some r → GR Θ yX11_bringsBack cX11_bringsBack 2 (none : Option Jvm.ClassFile.FieldType) 1 (0, 0) 2 [(0, .ref l0), (1, .int l1)] [] ω n r := by
  intro f
  induction f with
  | zero =>
    intro l0 l1 ω n r h
    unfold L_X11_bringsBack_2 at h
    cases h
  | succ f ih =>
    intro l0 l1 ω n r h
    unfold L_X11_bringsBack_2 at h
    exact ok_B_X11_bringsBack_2 Θ (L_X11_bringsBack_2 Θ f) ih l0 l1 ω n r h
theorem ok_X11_bringsBack (Θ : GP) (l0 : Nat) (ω : OW) (n : Nat) : Ok Θ 1 0 0 yX11_bringsBack cX11_bringsBack 2 (none : Option Jvm.ClassFile.FieldType) [.ref l0] ω n (F_X11_bringsBack Θ l0 ω n) := by
  refine Ok.of (by decide +kernel) (Nat.le_of_ble_eq_true rfl) (fun r h => ?_)
  unfold F_X11_bringsBack at h
  show GR Θ yX11_bringsBack cX11_bringsBack 2 (none : Option Jvm.ClassFile.FieldType) 1 (0, 0) 0 [(0, .ref l0)] [] ω n r
  refine g_iconst (v := 0) dX11_bringsBack_0 (by decide) ?_
  refine g_istore_n (lv' := [(1, .int 0), (0, .ref l0)]) dX11_bringsBack_1 rfl (by decide) rfl ?_
  refine G.lsub [1, 0] rfl ?_
  exact ok_L_X11_bringsBack_2 Θ 5000 l0 0 _ _ r h
def J_X11_screamers_55 (Θ : GP) (k_8 : Nat → Int32 → Int32 → Int32 → OW → Nat → RO) (l0 : Nat) (l1 : Int32) (l2 : Int32) (l3 : Int32) (ω : OW) (n : Nat) : RO := k_8 l0 l1 l2 (l3 + 1) ω n
def J_X11_screamers_44 (Θ : GP) (k_8 : Nat → Int32 → Int32 → Int32 → OW → Nat → RO) (l0 : Nat) (l1 : Int32) (l3 : Int32) (s0 : Int32) (s1 : Int32) (ω : OW) (n : Nat) : RO := if l1 = 0 then (J_X11_screamers_55 Θ k_8 l0 l1 (s1 ||| s0) l3 ω n) else (cO ω l0 11 (kV (F_X11_laysOn Θ l0 l3 ω n) (fun ω n => J_X11_screamers_55 Θ k_8 l0 l1 (s1 ||| s0) l3 ω n)))
def B_X11_screamers_8 (Θ : GP) (k_8 : Nat → Int32 → Int32 → Int32 → OW → Nat → RO) (l0 : Nat) (l1 : Int32) (l2 : Int32) (l3 : Int32) (ω : OW) (n : Nat) : RO := cO ω l0 11 (kI (F_X11_oneCount Θ l0 ω n) (fun x3 ω n => if x3 ≤ l3 then (cO ω l0 11 (kV (F_X11_bringsBack Θ l0 ω n) (fun ω n => some (.inl (some (.int l2), ω, n))))) else (cO ω l0 11 (kI (F_X11_waits Θ l0 l3 ω n) (fun x6 ω n => if x6 = 0 then (J_X11_screamers_55 Θ k_8 l0 l1 l2 l3 ω n) else (cO ω l0 11 (kI (F_X11_ridesStraight Θ l0 l3 ω n) (fun x8 ω n => if x8 = (-1) then (J_X11_screamers_44 Θ k_8 l0 l1 l3 0 l2 ω n) else (J_X11_screamers_44 Θ k_8 l0 l1 l3 (1 <<< ((l3 : Int32) &&& 31)) l2 ω n)))))))))
def L_X11_screamers_8 (Θ : GP) : Nat → Nat → Int32 → Int32 → Int32 → OW → Nat → RO
  | 0, _, _, _, _, _, _ => none
  | f + 1, l0, l1, l2, l3, ω, n => B_X11_screamers_8 Θ (L_X11_screamers_8 Θ f) l0 l1 l2 l3 ω n
def F_X11_screamers (Θ : GP) (l0 : Nat) (l1 : Int32) (ω : OW) (n : Nat) : RO := cO ω l0 11 (kV (F_X11_keepsAll Θ l0 ω n) (fun ω n => L_X11_screamers_8 Θ 5000 l0 l1 0 0 ω n))
theorem ok_J_X11_screamers_55 (Θ : GP) (k_8 : Nat → Int32 → Int32 → Int32 → OW → Nat → RO) (hk_8 : ∀ l0 l1 l2 l3 ω n r, k_8 l0 l1 l2 l3 ω n = some r → GR Θ yX11_screamers cX11_screamers 4 (some .int) 11 (0, 0) 8 [(0, .ref l0), (1, .int l1), (2, .int l2), (3, .int l3)] [] ω n r) (l0 : Nat) (l1 : Int32) (l2 : Int32) (l3 : Int32) (ω : OW) (n : Nat) (r : Out) (h : J_X11_screamers_55 Θ k_8 l0 l1 l2 l3 ω n = some r) : GR Θ yX11_screamers cX11_screamers 4 (some .int) 11 (0, 0) 55 [(0, .ref l0), (1, .int l1), (2, .int l2), (3, .int l3)] [] ω n r := by
  unfold J_X11_screamers_55 at h
  refine g_iinc (j := 3) (v := l3 + 1) (lv' := [(3, .int (l3 + 1)), (0, .ref l0), (1, .int l1), (2, .int l2)]) dX11_screamers_55 rfl rfl (by decide) rfl ?_
  refine g_goto (tgt := 8) dX11_screamers_58 (by decide) ?_
  refine G.lsub [1, 2, 3, 0] rfl ?_
  exact hk_8 l0 l1 l2 (l3 + 1) _ _ r h
theorem ok_J_X11_screamers_44 (Θ : GP) (k_8 : Nat → Int32 → Int32 → Int32 → OW → Nat → RO) (hk_8 : ∀ l0 l1 l2 l3 ω n r, k_8 l0 l1 l2 l3 ω n = some r → GR Θ yX11_screamers cX11_screamers 4 (some .int) 11 (0, 0) 8 [(0, .ref l0), (1, .int l1), (2, .int l2), (3, .int l3)] [] ω n r) (l0 : Nat) (l1 : Int32) (l3 : Int32) (s0 : Int32) (s1 : Int32) (ω : OW) (n : Nat) (r : Out) (h : J_X11_screamers_44 Θ k_8 l0 l1 l3 s0 s1 ω n = some r) : GR Θ yX11_screamers cX11_screamers 4 (some .int) 11 (0, 0) 44 [(0, .ref l0), (1, .int l1), (3, .int l3)] [.int s0, .int s1] ω n r := by
  unfold J_X11_screamers_44 at h
  refine g_ior dX11_screamers_44 ?_
  refine g_istore_n (lv' := [(2, .int (s1 ||| s0)), (0, .ref l0), (1, .int l1), (3, .int l3)]) dX11_screamers_45 rfl (by decide) rfl ?_
  refine g_iload_n dX11_screamers_46 rfl 2 rfl ?_
  refine g_if_eq (tgt := 55) dX11_screamers_47 (by decide) (fun c1 => ?_) (fun c1 => ?_)
  · rw [if_pos c1] at h
    refine G.lsub [1, 2, 0, 3] rfl ?_
    exact ok_J_X11_screamers_55 Θ k_8 hk_8 l0 l1 (s1 ||| s0) l3 _ _ r h
  · rw [if_neg c1] at h
    refine g_aload_n dX11_screamers_50 rfl 1 rfl ?_
    refine g_iload_n dX11_screamers_51 rfl 3 rfl ?_
    refine g_cV (ci := 11) (As := [.int l3]) mv_X11_361 dX11_screamers_52 rfl (ok_X11_laysOn Θ l0 l3 _ _) rfl rfl (Nat.le_of_ble_eq_true rfl) (by decide) (by decide) (by decide) h (fun ω n h => ?_)
    refine G.less (B' := (0, 0)) (by decide) (by decide) ?_
    refine G.lsub [1, 2, 0, 3] rfl ?_
    exact ok_J_X11_screamers_55 Θ k_8 hk_8 l0 l1 (s1 ||| s0) l3 _ _ r h
theorem ok_B_X11_screamers_8 (Θ : GP) (k_8 : Nat → Int32 → Int32 → Int32 → OW → Nat → RO) (hk_8 : ∀ l0 l1 l2 l3 ω n r, k_8 l0 l1 l2 l3 ω n = some r → GR Θ yX11_screamers cX11_screamers 4 (some .int) 11 (0, 0) 8 [(0, .ref l0), (1, .int l1), (2, .int l2), (3, .int l3)] [] ω n r) (l0 : Nat) (l1 : Int32) (l2 : Int32) (l3 : Int32) (ω : OW) (n : Nat) (r : Out) (h : B_X11_screamers_8 Θ k_8 l0 l1 l2 l3 ω n = some r) : GR Θ yX11_screamers cX11_screamers 4 (some .int) 11 (0, 0) 8 [(0, .ref l0), (1, .int l1), (2, .int l2), (3, .int l3)] [] ω n r := by
  unfold B_X11_screamers_8 at h
  refine g_iload_n dX11_screamers_8 rfl 3 rfl ?_
  refine g_aload_n dX11_screamers_9 rfl 0 rfl ?_
  refine g_cI (ci := 11) (As := []) mv_X11_91 dX11_screamers_10 rfl (ok_X11_oneCount Θ l0 _ _) rfl rfl (Nat.le_of_ble_eq_true rfl) (by decide) (by decide) (by decide) h (fun x3 ω n h => ?_)
  refine G.less (B' := (0, 0)) (by decide) (by decide) ?_
  refine g_icmp_ge (tgt := 61) dX11_screamers_13 (by decide) (fun c4 => ?_) (fun c4 => ?_)
  · rw [if_pos c4] at h
    refine g_aload_n dX11_screamers_61 rfl 0 rfl ?_
    refine g_cV (ci := 11) (As := []) mv_X11_373 dX11_screamers_62 rfl (ok_X11_bringsBack Θ l0 _ _) rfl rfl (Nat.le_of_ble_eq_true rfl) (by decide) (by decide) (by decide) h (fun ω n h => ?_)
    refine G.less (B' := (0, 0)) (by decide) (by decide) ?_
    refine g_iload_n dX11_screamers_65 rfl 2 rfl ?_
    cases h
    exact g_iret rfl dX11_screamers_66 rfl
  · rw [if_neg c4] at h
    refine g_aload_n dX11_screamers_16 rfl 0 rfl ?_
    refine g_iload_n dX11_screamers_17 rfl 3 rfl ?_
    refine g_cI (ci := 11) (As := [.int l3]) mv_X11_355 dX11_screamers_18 rfl (ok_X11_waits Θ l0 l3 _ _) rfl rfl (Nat.le_of_ble_eq_true rfl) (by decide) (by decide) (by decide) h (fun x6 ω n h => ?_)
    refine G.less (B' := (0, 0)) (by decide) (by decide) ?_
    refine g_if_ne (tgt := 27) dX11_screamers_21 (by decide) (fun c7 => ?_) (fun c7 => ?_)
    · rw [if_neg c7] at h
      refine g_iload_n dX11_screamers_27 rfl 2 rfl ?_
      refine g_aload_n dX11_screamers_28 rfl 0 rfl ?_
      refine g_iload_n dX11_screamers_29 rfl 3 rfl ?_
      refine g_cI (ci := 11) (As := [.int l3]) mv_X11_367 dX11_screamers_30 rfl (ok_X11_ridesStraight Θ l0 l3 _ _) rfl rfl (Nat.le_of_ble_eq_true rfl) (by decide) (by decide) (by decide) h (fun x8 ω n h => ?_)
      refine G.less (B' := (0, 0)) (by decide) (by decide) ?_
      refine g_iconst (v := (-1)) dX11_screamers_33 (by decide) ?_
      refine g_icmp_eq (tgt := 43) dX11_screamers_34 (by decide) (fun c9 => ?_) (fun c9 => ?_)
      · rw [if_pos c9] at h
        refine g_iconst (v := 0) dX11_screamers_43 (by decide) ?_
        refine G.lsub [0, 1, 3] rfl ?_
        exact ok_J_X11_screamers_44 Θ k_8 hk_8 l0 l1 l3 0 l2 _ _ r h
      · rw [if_neg c9] at h
        refine g_iconst (v := 1) dX11_screamers_37 (by decide) ?_
        refine g_iload_n dX11_screamers_38 rfl 3 rfl ?_
        refine g_ishl dX11_screamers_39 ?_
        refine g_goto (tgt := 44) dX11_screamers_40 (by decide) ?_
        refine G.lsub [0, 1, 3] rfl ?_
        exact ok_J_X11_screamers_44 Θ k_8 hk_8 l0 l1 l3 (1 <<< ((l3 : Int32) &&& 31)) l2 _ _ r h
    · rw [if_pos c7] at h
      refine g_goto (tgt := 55) dX11_screamers_24 (by decide) ?_
      exact ok_J_X11_screamers_55 Θ k_8 hk_8 l0 l1 l2 l3 _ _ r h
theorem ok_L_X11_screamers_8 (Θ : GP) : ∀ (f : Nat) (l0 : Nat) (l1 : Int32) (l2 : Int32) (l3 : Int32) (ω : OW) (n : Nat) (r : Out), L_X11_screamers_8 Θ f l0 l1 l2 l3 ω n = some r → GR Θ yX11_screamers cX11_screamers 4 (some .int) 11 (0, 0) 8 [(0, .ref l0), (1, .int l1), (2, .int l2), (3, .int l3)] [] ω n r := by
  intro f
  induction f with
  | zero =>
    intro l0 l1 l2 l3 ω n r h
    unfold L_X11_screamers_8 at h
    cases h
  | succ f ih =>
    intro l0 l1 l2 l3 ω n r h
    unfold L_X11_screamers_8 at h
    exact ok_B_X11_screamers_8 Θ (L_X11_screamers_8 Θ f) ih l0 l1 l2 l3 ω n r h
theorem ok_X11_screamers (Θ : GP) (l0 : Nat) (l1 : Int32) (ω : OW) (n : Nat) : Ok Θ 11 0 0 yX11_screamers cX11_screamers 4 (some .int) [.ref l0, .int l1] ω n (F_X11_screamers Θ l0 l1 ω n) := by
  refine Ok.of (by decide +kernel) (Nat.le_of_ble_eq_true rfl) (fun r h => ?_)
  unfold F_X11_screamers at h
  show GR Θ yX11_screamers cX11_screamers 4 (some .int) 11 (0, 0) 0 [(0, .ref l0), (1, .int l1)] [] ω n r
  refine g_iconst (v := 0) dX11_screamers_0 (by decide) ?_
  refine g_istore_n (lv' := [(2, .int 0), (0, .ref l0), (1, .int l1)]) dX11_screamers_1 rfl (by decide) rfl ?_
  refine g_aload_n dX11_screamers_2 rfl 1 rfl ?_
  refine g_cV (ci := 11) (As := []) mv_X11_370 dX11_screamers_3 rfl (ok_X11_keepsAll Θ l0 _ _) rfl rfl (Nat.le_of_ble_eq_true rfl) (by decide) (by decide) (by decide) h (fun ω n h => ?_)
  refine G.less (B' := (0, 0)) (by decide) (by decide) ?_
  refine g_iconst (v := 0) dX11_screamers_6 (by decide) ?_
  refine g_istore_n (lv' := [(3, .int 0), (2, .int 0), (0, .ref l0), (1, .int l1)]) dX11_screamers_7 rfl (by decide) rfl ?_
  refine G.lsub [2, 3, 1, 0] rfl ?_
  exact ok_L_X11_screamers_8 Θ 5000 l0 l1 0 0 _ _ r h
def F_X11_all (Θ : GP) (l0 : Nat) (l1 : Int32) (ω : OW) (n : Nat) : RO := wF ω l0 11 0 (.int 0) (fun ω => cO ω l0 11 (kI (F_X11_screamers Θ l0 l1 ω n) (fun x1 ω n => some (.inl (some (.int x1), ω, n)))))
theorem ok_X11_all (Θ : GP) (l0 : Nat) (l1 : Int32) (ω : OW) (n : Nat) : Ok Θ 12 0 0 yX11_all cX11_all 2 (some .int) [.ref l0, .int l1] ω n (F_X11_all Θ l0 l1 ω n) := by
  refine Ok.of (by decide +kernel) (Nat.le_of_ble_eq_true rfl) (fun r h => ?_)
  unfold F_X11_all at h
  show GR Θ yX11_all cX11_all 2 (some .int) 12 (0, 0) 0 [(0, .ref l0), (1, .int l1)] [] ω n r
  refine g_aload_n dX11_all_0 rfl 0 rfl ?_
  refine g_iconst (v := 0) dX11_all_1 (by decide) ?_
  refine g_wF fl_X11_3 dX11_all_2 (rfl) rfl h (fun ω h => ?_)
  refine g_aload_n dX11_all_5 rfl 0 rfl ?_
  refine g_iload_n dX11_all_6 rfl 1 rfl ?_
  refine g_cI (ci := 11) (As := [.int l1]) mv_X11_376 dX11_all_7 rfl (ok_X11_screamers Θ l0 l1 _ _) rfl rfl (Nat.le_of_ble_eq_true rfl) (by decide) (by decide) (by decide) h (fun x1 ω n h => ?_)
  refine G.less (B' := (0, 0)) (by decide) (by decide) ?_
  cases h
  exact g_iret rfl dX11_all_10 rfl
def J_X11_lasts_92 (Θ : GP) (l0 : Nat) (l3 : Int32) (ω : OW) (n : Nat) : RO := cO ω l0 11 (kV (F_X11_bringsBack Θ l0 ω n) (fun ω n => some (.inl (some (.int l3), ω, n))))
def J_X11_lasts_74 (Θ : GP) (k_45 : Nat → Int32 → Int32 → Int32 → Int32 → OW → Nat → RO) (l0 : Nat) (l1 : Int32) (l2 : Int32) (l4 : Int32) (s0 : Int32) (ω : OW) (n : Nat) : RO := cO ω l0 11 (kI (F_X11_ridesStraight Θ l0 l2 ω n) (fun x2 ω n => cO ω l0 11 (kV (F_X11_laysOn Θ l0 l2 ω n) (fun ω n => k_45 l0 l1 l2 s0 (l4 + 1) ω n))))
def B_X11_lasts_45 (Θ : GP) (k_45 : Nat → Int32 → Int32 → Int32 → Int32 → OW → Nat → RO) (l0 : Nat) (l1 : Int32) (l2 : Int32) (l3 : Int32) (l4 : Int32) (ω : OW) (n : Nat) : RO := if 60 < l4 then (J_X11_lasts_92 Θ l0 l3 ω n) else (if l3 = (-1) then (cO ω l0 11 (kI (F_X11_ofProp Θ l0 l1 2 ω n) (fun x6 ω n => if x6 < 50 then (J_X11_lasts_74 Θ k_45 l0 l1 l2 l4 (-1) ω n) else (J_X11_lasts_74 Θ k_45 l0 l1 l2 l4 l4 ω n)))) else (J_X11_lasts_92 Θ l0 l3 ω n))
def L_X11_lasts_45 (Θ : GP) : Nat → Nat → Int32 → Int32 → Int32 → Int32 → OW → Nat → RO
  | 0, _, _, _, _, _, _, _ => none
  | f + 1, l0, l1, l2, l3, l4, ω, n => B_X11_lasts_45 Θ (L_X11_lasts_45 Θ f) l0 l1 l2 l3 l4 ω n
def J_X11_lasts_27 (Θ : GP) (l0 : Nat) (l1 : Int32) (l2 : Int32) (s0 : Int32) (s1 : Nat) (ω : OW) (n : Nat) : RO := cO ω s1 11 (kI (F_X11_throwsIf Θ s1 s0 1 ω n) (fun x8 ω n => if x8 = 0 then (cO ω l0 11 (kV (F_X11_keepsAll Θ l0 ω n) (fun ω n => L_X11_lasts_45 Θ 5000 l0 l1 l2 (-1) 0 ω n))) else (some (.inl (some (.int 0), ω, n)))))
def J_X11_lasts_22 (Θ : GP) (l0 : Nat) (l1 : Int32) (l2 : Int32) (s0 : Nat) (ω : OW) (n : Nat) : RO := J_X11_lasts_27 Θ l0 l1 l2 1 s0 ω n
def F_X11_lasts (Θ : GP) (l0 : Nat) (l1 : Int32) (l2 : Int32) (ω : OW) (n : Nat) : RO := wF ω l0 11 0 (.int 0) (fun ω => cO ω l0 11 (kI (F_X11_noProp Θ l0 l1 ω n) (fun x11 ω n => if x11 = 0 then (cO ω l0 11 (kI (F_X11_noOne Θ l0 l2 ω n) (fun x13 ω n => if x13 = 0 then (J_X11_lasts_27 Θ l0 l1 l2 0 l0 ω n) else (J_X11_lasts_22 Θ l0 l1 l2 l0 ω n)))) else (J_X11_lasts_22 Θ l0 l1 l2 l0 ω n))))
theorem ok_J_X11_lasts_92 (Θ : GP) (l0 : Nat) (l3 : Int32) (ω : OW) (n : Nat) (r : Out) (h : J_X11_lasts_92 Θ l0 l3 ω n = some r) : GR Θ yX11_lasts cX11_lasts 5 (some .int) 11 (0, 0) 92 [(0, .ref l0), (3, .int l3)] [] ω n r := by
  unfold J_X11_lasts_92 at h
  refine g_aload_n dX11_lasts_92 rfl 0 rfl ?_
  refine g_cV (ci := 11) (As := []) mv_X11_373 dX11_lasts_93 rfl (ok_X11_bringsBack Θ l0 _ _) rfl rfl (Nat.le_of_ble_eq_true rfl) (by decide) (by decide) (by decide) h (fun ω n h => ?_)
  refine G.less (B' := (0, 0)) (by decide) (by decide) ?_
  refine g_iload_n dX11_lasts_96 rfl 1 rfl ?_
  cases h
  exact g_iret rfl dX11_lasts_97 rfl
theorem ok_J_X11_lasts_74 (Θ : GP) (k_45 : Nat → Int32 → Int32 → Int32 → Int32 → OW → Nat → RO) (hk_45 : ∀ l0 l1 l2 l3 l4 ω n r, k_45 l0 l1 l2 l3 l4 ω n = some r → GR Θ yX11_lasts cX11_lasts 5 (some .int) 11 (0, 0) 45 [(0, .ref l0), (1, .int l1), (2, .int l2), (3, .int l3), (4, .int l4)] [] ω n r) (l0 : Nat) (l1 : Int32) (l2 : Int32) (l4 : Int32) (s0 : Int32) (ω : OW) (n : Nat) (r : Out) (h : J_X11_lasts_74 Θ k_45 l0 l1 l2 l4 s0 ω n = some r) : GR Θ yX11_lasts cX11_lasts 5 (some .int) 11 (0, 0) 74 [(0, .ref l0), (1, .int l1), (2, .int l2), (4, .int l4)] [.int s0] ω n r := by
  unfold J_X11_lasts_74 at h
  refine g_istore_n (lv' := [(3, .int s0), (0, .ref l0), (1, .int l1), (2, .int l2), (4, .int l4)]) dX11_lasts_74 rfl (by decide) rfl ?_
  refine g_aload_n dX11_lasts_75 rfl 1 rfl ?_
  refine g_iload_n dX11_lasts_76 rfl 3 rfl ?_
  refine g_cI (ci := 11) (As := [.int l2]) mv_X11_367 dX11_lasts_77 rfl (ok_X11_ridesStraight Θ l0 l2 _ _) rfl rfl (Nat.le_of_ble_eq_true rfl) (by decide) (by decide) (by decide) h (fun x2 ω n h => ?_)
  refine G.less (B' := (0, 0)) (by decide) (by decide) ?_
  refine g_pop dX11_lasts_80 rfl ?_
  refine g_aload_n dX11_lasts_81 rfl 1 rfl ?_
  refine g_iload_n dX11_lasts_82 rfl 3 rfl ?_
  refine g_cV (ci := 11) (As := [.int l2]) mv_X11_361 dX11_lasts_83 rfl (ok_X11_laysOn Θ l0 l2 _ _) rfl rfl (Nat.le_of_ble_eq_true rfl) (by decide) (by decide) (by decide) h (fun ω n h => ?_)
  refine G.less (B' := (0, 0)) (by decide) (by decide) ?_
  refine g_iinc (j := 4) (v := l4 + 1) (lv' := [(4, .int (l4 + 1)), (3, .int s0), (0, .ref l0), (1, .int l1), (2, .int l2)]) dX11_lasts_86 rfl rfl (by decide) rfl ?_
  refine g_goto (tgt := 45) dX11_lasts_89 (by decide) ?_
  refine G.lsub [2, 3, 4, 1, 0] rfl ?_
  exact hk_45 l0 l1 l2 s0 (l4 + 1) _ _ r h
theorem ok_B_X11_lasts_45 (Θ : GP) (k_45 : Nat → Int32 → Int32 → Int32 → Int32 → OW → Nat → RO) (hk_45 : ∀ l0 l1 l2 l3 l4 ω n r, k_45 l0 l1 l2 l3 l4 ω n = some r → GR Θ yX11_lasts cX11_lasts 5 (some .int) 11 (0, 0) 45 [(0, .ref l0), (1, .int l1), (2, .int l2), (3, .int l3), (4, .int l4)] [] ω n r) (l0 : Nat) (l1 : Int32) (l2 : Int32) (l3 : Int32) (l4 : Int32) (ω : OW) (n : Nat) (r : Out) (h : B_X11_lasts_45 Θ k_45 l0 l1 l2 l3 l4 ω n = some r) : GR Θ yX11_lasts cX11_lasts 5 (some .int) 11 (0, 0) 45 [(0, .ref l0), (1, .int l1), (2, .int l2), (3, .int l3), (4, .int l4)] [] ω n r := by
  unfold B_X11_lasts_45 at h
  refine g_iload dX11_lasts_45 4 rfl ?_
  refine g_bipush (v := 60) dX11_lasts_47 (by decide) ?_
  refine g_icmp_gt (tgt := 92) dX11_lasts_49 (by decide) (fun c4 => ?_) (fun c4 => ?_)
  · rw [if_pos c4] at h
    refine G.lsub [0, 3] rfl ?_
    exact ok_J_X11_lasts_92 Θ l0 l3 _ _ r h
  · rw [if_neg c4] at h
    refine g_iload_n dX11_lasts_52 rfl 3 rfl ?_
    refine g_iconst (v := (-1)) dX11_lasts_53 (by decide) ?_
    refine g_icmp_ne (tgt := 92) dX11_lasts_54 (by decide) (fun c5 => ?_) (fun c5 => ?_)
    · rw [if_neg c5] at h
      refine G.lsub [0, 3] rfl ?_
      exact ok_J_X11_lasts_92 Θ l0 l3 _ _ r h
    · rw [if_pos c5] at h
      refine g_aload_n dX11_lasts_57 rfl 0 rfl ?_
      refine g_iload_n dX11_lasts_58 rfl 1 rfl ?_
      refine g_iconst (v := 2) dX11_lasts_59 (by decide) ?_
      refine g_cI (ci := 11) (As := [.int l1, .int 2]) mv_X11_74 dX11_lasts_60 rfl (ok_X11_ofProp Θ l0 l1 2 _ _) rfl rfl (Nat.le_of_ble_eq_true rfl) (by decide) (by decide) (by decide) h (fun x6 ω n h => ?_)
      refine G.less (B' := (0, 0)) (by decide) (by decide) ?_
      refine g_bipush (v := 50) dX11_lasts_63 (by decide) ?_
      refine g_icmp_lt (tgt := 73) dX11_lasts_65 (by decide) (fun c7 => ?_) (fun c7 => ?_)
      · rw [if_pos c7] at h
        refine g_iconst (v := (-1)) dX11_lasts_73 (by decide) ?_
        refine G.lsub [0, 1, 2, 4] rfl ?_
        exact ok_J_X11_lasts_74 Θ k_45 hk_45 l0 l1 l2 l4 (-1) _ _ r h
      · rw [if_neg c7] at h
        refine g_iload dX11_lasts_68 4 rfl ?_
        refine g_goto (tgt := 74) dX11_lasts_70 (by decide) ?_
        refine G.lsub [0, 1, 2, 4] rfl ?_
        exact ok_J_X11_lasts_74 Θ k_45 hk_45 l0 l1 l2 l4 l4 _ _ r h
theorem ok_L_X11_lasts_45 (Θ : GP) : ∀ (f : Nat) (l0 : Nat) (l1 : Int32) (l2 : Int32) (l3 : Int32) (l4 : Int32) (ω : OW) (n : Nat) (r : Out), L_X11_lasts_45 Θ f l0 l1 l2 l3 l4 ω n = some r → GR Θ yX11_lasts cX11_lasts 5 (some .int) 11 (0, 0) 45 [(0, .ref l0), (1, .int l1), (2, .int l2), (3, .int l3), (4, .int l4)] [] ω n r := by
  intro f
  induction f with
  | zero =>
    intro l0 l1 l2 l3 l4 ω n r h
    unfold L_X11_lasts_45 at h
    cases h
  | succ f ih =>
    intro l0 l1 l2 l3 l4 ω n r h
    unfold L_X11_lasts_45 at h
    exact ok_B_X11_lasts_45 Θ (L_X11_lasts_45 Θ f) ih l0 l1 l2 l3 l4 ω n r h
theorem ok_J_X11_lasts_27 (Θ : GP) (l0 : Nat) (l1 : Int32) (l2 : Int32) (s0 : Int32) (s1 : Nat) (ω : OW) (n : Nat) (r : Out) (h : J_X11_lasts_27 Θ l0 l1 l2 s0 s1 ω n = some r) : GR Θ yX11_lasts cX11_lasts 5 (some .int) 11 (0, 0) 27 [(0, .ref l0), (1, .int l1), (2, .int l2)] [.int s0, .ref s1] ω n r := by
  unfold J_X11_lasts_27 at h
  refine g_iconst (v := 1) dX11_lasts_27 (by decide) ?_
  refine g_cI (ci := 11) (As := [.int s0, .int 1]) mv_X11_262 dX11_lasts_28 rfl (ok_X11_throwsIf Θ s1 s0 1 _ _) rfl rfl (Nat.le_of_ble_eq_true rfl) (by decide) (by decide) (by decide) h (fun x8 ω n h => ?_)
  refine G.less (B' := (0, 0)) (by decide) (by decide) ?_
  refine g_if_eq (tgt := 36) dX11_lasts_31 (by decide) (fun c9 => ?_) (fun c9 => ?_)
  · rw [if_pos c9] at h
    refine g_iconst (v := (-1)) dX11_lasts_36 (by decide) ?_
    refine g_istore_n (lv' := [(3, .int (-1)), (0, .ref l0), (1, .int l1), (2, .int l2)]) dX11_lasts_37 rfl (by decide) rfl ?_
    refine g_aload_n dX11_lasts_38 rfl 1 rfl ?_
    refine g_cV (ci := 11) (As := []) mv_X11_370 dX11_lasts_39 rfl (ok_X11_keepsAll Θ l0 _ _) rfl rfl (Nat.le_of_ble_eq_true rfl) (by decide) (by decide) (by decide) h (fun ω n h => ?_)
    refine G.less (B' := (0, 0)) (by decide) (by decide) ?_
    refine g_iconst (v := 0) dX11_lasts_42 (by decide) ?_
    refine g_istore (lv' := [(4, .int 0), (3, .int (-1)), (0, .ref l0), (1, .int l1), (2, .int l2)]) dX11_lasts_43 (by decide) rfl ?_
    refine G.lsub [2, 3, 4, 1, 0] rfl ?_
    exact ok_L_X11_lasts_45 Θ 5000 l0 l1 l2 (-1) 0 _ _ r h
  · rw [if_neg c9] at h
    refine g_iconst (v := 0) dX11_lasts_34 (by decide) ?_
    cases h
    exact g_iret rfl dX11_lasts_35 rfl
theorem ok_J_X11_lasts_22 (Θ : GP) (l0 : Nat) (l1 : Int32) (l2 : Int32) (s0 : Nat) (ω : OW) (n : Nat) (r : Out) (h : J_X11_lasts_22 Θ l0 l1 l2 s0 ω n = some r) : GR Θ yX11_lasts cX11_lasts 5 (some .int) 11 (0, 0) 22 [(0, .ref l0), (1, .int l1), (2, .int l2)] [.ref s0] ω n r := by
  unfold J_X11_lasts_22 at h
  refine g_iconst (v := 1) dX11_lasts_22 (by decide) ?_
  refine g_goto (tgt := 27) dX11_lasts_23 (by decide) ?_
  exact ok_J_X11_lasts_27 Θ l0 l1 l2 1 s0 _ _ r h
theorem ok_X11_lasts (Θ : GP) (l0 : Nat) (l1 : Int32) (l2 : Int32) (ω : OW) (n : Nat) : Ok Θ 11 0 0 yX11_lasts cX11_lasts 5 (some .int) [.ref l0, .int l1, .int l2] ω n (F_X11_lasts Θ l0 l1 l2 ω n) := by
  refine Ok.of (by decide +kernel) (Nat.le_of_ble_eq_true rfl) (fun r h => ?_)
  unfold F_X11_lasts at h
  show GR Θ yX11_lasts cX11_lasts 5 (some .int) 11 (0, 0) 0 [(0, .ref l0), (1, .int l1), (2, .int l2)] [] ω n r
  refine g_aload_n dX11_lasts_0 rfl 0 rfl ?_
  refine g_iconst (v := 0) dX11_lasts_1 (by decide) ?_
  refine g_wF fl_X11_3 dX11_lasts_2 (rfl) rfl h (fun ω h => ?_)
  refine g_aload_n dX11_lasts_5 rfl 0 rfl ?_
  refine g_aload_n dX11_lasts_6 rfl 0 rfl ?_
  refine g_iload_n dX11_lasts_7 rfl 1 rfl ?_
  refine g_cI (ci := 11) (As := [.int l1]) mv_X11_294 dX11_lasts_8 rfl (ok_X11_noProp Θ l0 l1 _ _) rfl rfl (Nat.le_of_ble_eq_true rfl) (by decide) (by decide) (by decide) h (fun x11 ω n h => ?_)
  refine G.less (B' := (0, 0)) (by decide) (by decide) ?_
  refine g_if_ne (tgt := 22) dX11_lasts_11 (by decide) (fun c12 => ?_) (fun c12 => ?_)
  · rw [if_neg c12] at h
    exact ok_J_X11_lasts_22 Θ l0 l1 l2 l0 _ _ r h
  · rw [if_pos c12] at h
    refine g_aload_n dX11_lasts_14 rfl 0 rfl ?_
    refine g_iload_n dX11_lasts_15 rfl 2 rfl ?_
    refine g_cI (ci := 11) (As := [.int l2]) mv_X11_300 dX11_lasts_16 rfl (ok_X11_noOne Θ l0 l2 _ _) rfl rfl (Nat.le_of_ble_eq_true rfl) (by decide) (by decide) (by decide) h (fun x13 ω n h => ?_)
    refine G.less (B' := (0, 0)) (by decide) (by decide) ?_
    refine g_if_eq (tgt := 26) dX11_lasts_19 (by decide) (fun c14 => ?_) (fun c14 => ?_)
    · rw [if_pos c14] at h
      refine g_iconst (v := 0) dX11_lasts_26 (by decide) ?_
      exact ok_J_X11_lasts_27 Θ l0 l1 l2 0 l0 _ _ r h
    · rw [if_neg c14] at h
      exact ok_J_X11_lasts_22 Θ l0 l1 l2 l0 _ _ r h
def J_X11_carStep_37 (Θ : GP) (s0 : Int32) (ω : OW) (n : Nat) : RO := some (.inl (some (.int s0), ω, n))
def F_X11_carStep (Θ : GP) (l0 : Nat) (l1 : Int32) (l2 : Int32) (l3 : Int32) (ω : OW) (n : Nat) : RO := cO ω l0 11 (kV (F_X11_looksAt Θ l0 l1 ω n) (fun ω n => cO ω l0 11 (kI (F_X11_propIn Θ l0 l2 ω n) (fun x2 ω n => if x2 = (-1) then (cO ω l0 11 (kI (F_X11_calmer Θ l0 l3 ω n) (fun x5 ω n => J_X11_carStep_37 Θ x5 ω n))) else (cO ω l0 11 (kI (F_X11_frightsBy Θ l0 x2 l3 ω n) (fun x4 ω n => J_X11_carStep_37 Θ ((l3 + x4) + 1) ω n)))))))
theorem ok_J_X11_carStep_37 (Θ : GP) (s0 : Int32) (ω : OW) (n : Nat) (r : Out) (h : J_X11_carStep_37 Θ s0 ω n = some r) : GR Θ yX11_carStep cX11_carStep 5 (some .int) 7 (0, 0) 37 [] [.int s0] ω n r := by
  unfold J_X11_carStep_37 at h
  cases h
  exact g_iret rfl dX11_carStep_37 rfl
theorem ok_X11_carStep (Θ : GP) (l0 : Nat) (l1 : Int32) (l2 : Int32) (l3 : Int32) (ω : OW) (n : Nat) : Ok Θ 7 0 0 yX11_carStep cX11_carStep 5 (some .int) [.ref l0, .int l1, .int l2, .int l3] ω n (F_X11_carStep Θ l0 l1 l2 l3 ω n) := by
  refine Ok.of (by decide +kernel) (Nat.le_of_ble_eq_true rfl) (fun r h => ?_)
  unfold F_X11_carStep at h
  show GR Θ yX11_carStep cX11_carStep 5 (some .int) 7 (0, 0) 0 [(0, .ref l0), (1, .int l1), (2, .int l2), (3, .int l3)] [] ω n r
  refine g_aload_n dX11_carStep_0 rfl 0 rfl ?_
  refine g_iload_n dX11_carStep_1 rfl 1 rfl ?_
  refine g_cV (ci := 11) (As := [.int l1]) mv_X11_303 dX11_carStep_2 rfl (ok_X11_looksAt Θ l0 l1 _ _) rfl rfl (Nat.le_of_ble_eq_true rfl) (by decide) (by decide) (by decide) h (fun ω n h => ?_)
  refine G.less (B' := (0, 0)) (by decide) (by decide) ?_
  refine g_aload_n dX11_carStep_5 rfl 0 rfl ?_
  refine g_iload_n dX11_carStep_6 rfl 2 rfl ?_
  refine g_cI (ci := 11) (As := [.int l2]) mv_X11_160 dX11_carStep_7 rfl (ok_X11_propIn Θ l0 l2 _ _) rfl rfl (Nat.le_of_ble_eq_true rfl) (by decide) (by decide) (by decide) h (fun x2 ω n h => ?_)
  refine G.less (B' := (0, 0)) (by decide) (by decide) ?_
  refine g_istore (lv' := [(4, .int x2), (0, .ref l0), (1, .int l1), (2, .int l2), (3, .int l3)]) dX11_carStep_10 (by decide) rfl ?_
  refine g_iload dX11_carStep_12 0 rfl ?_
  refine g_iconst (v := (-1)) dX11_carStep_14 (by decide) ?_
  refine g_icmp_ne (tgt := 26) dX11_carStep_15 (by decide) (fun c3 => ?_) (fun c3 => ?_)
  · rw [if_neg c3] at h
    refine g_iload_n dX11_carStep_26 rfl 4 rfl ?_
    refine g_aload_n dX11_carStep_27 rfl 1 rfl ?_
    refine g_iload dX11_carStep_28 0 rfl ?_
    refine g_iload_n dX11_carStep_30 rfl 4 rfl ?_
    refine g_cI (ci := 11) (As := [.int x2, .int l3]) mv_X11_310 dX11_carStep_31 rfl (ok_X11_frightsBy Θ l0 x2 l3 _ _) rfl rfl (Nat.le_of_ble_eq_true rfl) (by decide) (by decide) (by decide) h (fun x4 ω n h => ?_)
    refine G.less (B' := (0, 0)) (by decide) (by decide) ?_
    refine g_iadd dX11_carStep_34 ?_
    refine g_iconst (v := 1) dX11_carStep_35 (by decide) ?_
    refine g_iadd dX11_carStep_36 ?_
    refine G.lsub [] rfl ?_
    exact ok_J_X11_carStep_37 Θ ((l3 + x4) + 1) _ _ r h
  · rw [if_pos c3] at h
    refine g_aload_n dX11_carStep_18 rfl 1 rfl ?_
    refine g_iload_n dX11_carStep_19 rfl 4 rfl ?_
    refine g_cI (ci := 11) (As := [.int l3]) mv_X11_331 dX11_carStep_20 rfl (ok_X11_calmer Θ l0 l3 _ _) rfl rfl (Nat.le_of_ble_eq_true rfl) (by decide) (by decide) (by decide) h (fun x5 ω n h => ?_)
    refine G.less (B' := (0, 0)) (by decide) (by decide) ?_
    refine g_goto (tgt := 37) dX11_carStep_23 (by decide) ?_
    refine G.lsub [] rfl ?_
    exact ok_J_X11_carStep_37 Θ x5 _ _ r h
def J_X11_screams_15 (Θ : GP) (s0 : Int32) (ω : OW) (n : Nat) : RO := bz s0 (some (.inl (some (.int s0), ω, n)))
def F_X11_screams (Θ : GP) (l0 : Nat) (l1 : Int32) (l2 : Int32) (ω : OW) (n : Nat) : RO := cO ω l0 11 (kI (F_X11_of Θ l0 l1 1 ω n) (fun x2 ω n => if l2 ≤ x2 then (J_X11_screams_15 Θ 0 ω n) else (J_X11_screams_15 Θ 1 ω n)))
theorem ok_J_X11_screams_15 (Θ : GP) (s0 : Int32) (ω : OW) (n : Nat) (r : Out) (h : J_X11_screams_15 Θ s0 ω n = some r) : GR Θ yX11_screams cX11_screams 3 (some .boolean) 3 (0, 0) 15 [] [.int s0] ω n r := by
  unfold J_X11_screams_15 at h
  obtain ⟨z1, h⟩ := bz_inv h
  cases h
  exact g_zret rfl z1 dX11_screams_15 rfl
theorem ok_X11_screams (Θ : GP) (l0 : Nat) (l1 : Int32) (l2 : Int32) (ω : OW) (n : Nat) : Ok Θ 3 0 0 yX11_screams cX11_screams 3 (some .boolean) [.ref l0, .int l1, .int l2] ω n (F_X11_screams Θ l0 l1 l2 ω n) := by
  refine Ok.of (by decide +kernel) (Nat.le_of_ble_eq_true rfl) (fun r h => ?_)
  unfold F_X11_screams at h
  show GR Θ yX11_screams cX11_screams 3 (some .boolean) 3 (0, 0) 0 [(0, .ref l0), (1, .int l1), (2, .int l2)] [] ω n r
  refine g_iload_n dX11_screams_0 rfl 2 rfl ?_
  refine g_aload_n dX11_screams_1 rfl 0 rfl ?_
  refine g_iload_n dX11_screams_2 rfl 1 rfl ?_
  refine g_iconst (v := 1) dX11_screams_3 (by decide) ?_
  refine g_cI (ci := 11) (As := [.int l1, .int 1]) mv_X11_80 dX11_screams_4 rfl (ok_X11_of Θ l0 l1 1 _ _) rfl rfl (Nat.le_of_ble_eq_true rfl) (by decide) (by decide) (by decide) h (fun x2 ω n h => ?_)
  refine G.less (B' := (0, 0)) (by decide) (by decide) ?_
  refine g_icmp_le (tgt := 14) dX11_screams_7 (by decide) (fun c3 => ?_) (fun c3 => ?_)
  · rw [if_pos c3] at h
    refine g_iconst (v := 0) dX11_screams_14 (by decide) ?_
    refine G.lsub [] rfl ?_
    exact ok_J_X11_screams_15 Θ 0 _ _ r h
  · rw [if_neg c3] at h
    refine g_iconst (v := 1) dX11_screams_10 (by decide) ?_
    refine g_goto (tgt := 15) dX11_screams_11 (by decide) ?_
    refine G.lsub [] rfl ?_
    exact ok_J_X11_screams_15 Θ 1 _ _ r h
def J_X11_car_278 (Θ : GP) (k_69 : Nat → Int32 → Int32 → Int32 → Int32 → OW → Nat → RO) (l0 : Nat) (l1 : Int32) (l2 : Int32) (l3 : Int32) (l4 : Int32) (ω : OW) (n : Nat) : RO := k_69 l0 l1 l2 l3 (l4 + 1) ω n
def J_X11_car_275 (Θ : GP) (k_69 : Nat → Int32 → Int32 → Int32 → Int32 → OW → Nat → RO) (l0 : Nat) (l1 : Int32) (l2 : Int32) (l4 : Int32) (s0 : Int32) (s1 : Int32) (s2 : Int32) (ω : OW) (n : Nat) : RO := J_X11_car_278 Θ k_69 l0 l1 l2 (s2 ||| (s1 ||| s0)) l4 ω n
def J_X11_car_258 (Θ : GP) (k_69 : Nat → Int32 → Int32 → Int32 → Int32 → OW → Nat → RO) (l0 : Nat) (l1 : Int32) (l2 : Int32) (l4 : Int32) (s0 : Int32) (s1 : Int32) (ω : OW) (n : Nat) : RO := rI ω l0 11 32 (fun x1 => cO ω l0 11 (kI (F_X11_screams Θ l0 l2 x1 ω n) (fun x2 ω n => if x2 = 0 then (J_X11_car_275 Θ k_69 l0 l1 l2 l4 0 s0 s1 ω n) else (J_X11_car_275 Θ k_69 l0 l1 l2 l4 2 s0 s1 ω n))))
def J_X11_car_240 (Θ : GP) (k_69 : Nat → Int32 → Int32 → Int32 → Int32 → OW → Nat → RO) (l0 : Nat) (l1 : Int32) (l2 : Int32) (l3 : Int32) (l4 : Int32) (ω : OW) (n : Nat) : RO := rI ω l0 11 31 (fun x4 => cO ω l0 11 (kI (F_X11_screams Θ l0 l1 x4 ω n) (fun x5 ω n => if x5 = 0 then (J_X11_car_258 Θ k_69 l0 l1 l2 l4 0 l3 ω n) else (J_X11_car_258 Θ k_69 l0 l1 l2 l4 1 l3 ω n))))
def J_X11_car_180 (Θ : GP) (k_69 : Nat → Int32 → Int32 → Int32 → Int32 → OW → Nat → RO) (l0 : Nat) (l1 : Int32) (l2 : Int32) (l4 : Int32) (l5 : Int32) (s0 : Int32) (s1 : Int32) (s2 : Int32) (ω : OW) (n : Nat) : RO := if l5 = 0 then (if (s2 ||| (s1 ||| s0)) = 0 then (J_X11_car_278 Θ k_69 l0 l1 l2 (s2 ||| (s1 ||| s0)) l4 ω n) else (if (s2 ||| (s1 ||| s0)) = 3 then (J_X11_car_278 Θ k_69 l0 l1 l2 (s2 ||| (s1 ||| s0)) l4 ω n) else (if (s2 ||| (s1 ||| s0)) = 1 then (rI ω l0 11 32 (fun x14 => rA ω l0 11 1 (fun a15 => lI ω (gI Θ) a15 6 (fun x16 => wF ω l0 11 32 (.int (x14 + x16)) (fun ω => J_X11_car_240 Θ k_69 l0 l1 l2 (s2 ||| (s1 ||| s0)) l4 ω n))))) else (rI ω l0 11 31 (fun x11 => rA ω l0 11 1 (fun a12 => lI ω (gI Θ) a12 6 (fun x13 => wF ω l0 11 31 (.int (x11 + x13)) (fun ω => J_X11_car_240 Θ k_69 l0 l1 l2 (s2 ||| (s1 ||| s0)) l4 ω n)))))))) else (J_X11_car_278 Θ k_69 l0 l1 l2 (s2 ||| (s1 ||| s0)) l4 ω n)
def J_X11_car_179 (Θ : GP) (k_69 : Nat → Int32 → Int32 → Int32 → Int32 → OW → Nat → RO) (l0 : Nat) (l1 : Int32) (l2 : Int32) (l4 : Int32) (l5 : Int32) (s0 : Int32) (s1 : Int32) (ω : OW) (n : Nat) : RO := J_X11_car_180 Θ k_69 l0 l1 l2 l4 l5 0 s0 s1 ω n
def J_X11_car_154 (Θ : GP) (k_69 : Nat → Int32 → Int32 → Int32 → Int32 → OW → Nat → RO) (l0 : Nat) (l1 : Int32) (l2 : Int32) (l4 : Int32) (l5 : Int32) (s0 : Int32) (s1 : Int32) (ω : OW) (n : Nat) : RO := kI (F_X11_has Θ l5 1 ω n) (fun x17 ω n => if x17 = 0 then (rI ω l0 11 32 (fun x19 => cO ω l0 11 (kI (F_X11_screams Θ l0 l2 x19 ω n) (fun x20 ω n => if x20 = 0 then (J_X11_car_179 Θ k_69 l0 l1 l2 l4 l5 s0 s1 ω n) else (J_X11_car_180 Θ k_69 l0 l1 l2 l4 l5 2 s0 s1 ω n))))) else (J_X11_car_179 Θ k_69 l0 l1 l2 l4 l5 s0 s1 ω n))
def J_X11_car_153 (Θ : GP) (k_69 : Nat → Int32 → Int32 → Int32 → Int32 → OW → Nat → RO) (l0 : Nat) (l1 : Int32) (l2 : Int32) (l4 : Int32) (l5 : Int32) (s0 : Int32) (ω : OW) (n : Nat) : RO := J_X11_car_154 Θ k_69 l0 l1 l2 l4 l5 0 s0 ω n
def J_X11_car_127 (Θ : GP) (k_69 : Nat → Int32 → Int32 → Int32 → Int32 → OW → Nat → RO) (l0 : Nat) (l1 : Int32) (l2 : Int32) (l3 : Int32) (l4 : Int32) (l5 : Int32) (ω : OW) (n : Nat) : RO := kI (F_X11_has Θ l5 0 ω n) (fun x22 ω n => if x22 = 0 then (rI ω l0 11 31 (fun x24 => cO ω l0 11 (kI (F_X11_screams Θ l0 l1 x24 ω n) (fun x25 ω n => if x25 = 0 then (J_X11_car_153 Θ k_69 l0 l1 l2 l4 l5 l3 ω n) else (J_X11_car_154 Θ k_69 l0 l1 l2 l4 l5 1 l3 ω n))))) else (J_X11_car_153 Θ k_69 l0 l1 l2 l4 l5 l3 ω n))
def J_X11_car_103 (Θ : GP) (k_69 : Nat → Int32 → Int32 → Int32 → Int32 → OW → Nat → RO) (l0 : Nat) (l1 : Int32) (l2 : Int32) (l3 : Int32) (l4 : Int32) (l5 : Int32) (ω : OW) (n : Nat) : RO := kI (F_X11_has Θ l5 1 ω n) (fun x27 ω n => if x27 = 0 then (rI ω l0 11 32 (fun x29 => cO ω l0 11 (kI (F_X11_carStep Θ l0 l2 l4 x29 ω n) (fun x30 ω n => wF ω l0 11 32 (.int x30) (fun ω => J_X11_car_127 Θ k_69 l0 l1 l2 l3 l4 l5 ω n))))) else (J_X11_car_127 Θ k_69 l0 l1 l2 l3 l4 l5 ω n))
def B_X11_car_69 (Θ : GP) (k_69 : Nat → Int32 → Int32 → Int32 → Int32 → OW → Nat → RO) (l0 : Nat) (l1 : Int32) (l2 : Int32) (l3 : Int32) (l4 : Int32) (ω : OW) (n : Nat) : RO := if 10 ≤ l4 then (some (.inl (some (.int l3), ω, n))) else (kI (F_X11_has Θ l3 0 ω n) (fun x32 ω n => if x32 = 0 then (rI ω l0 11 31 (fun x34 => cO ω l0 11 (kI (F_X11_carStep Θ l0 l1 l4 x34 ω n) (fun x35 ω n => wF ω l0 11 31 (.int x35) (fun ω => J_X11_car_103 Θ k_69 l0 l1 l2 l3 l4 l3 ω n))))) else (J_X11_car_103 Θ k_69 l0 l1 l2 l3 l4 l3 ω n)))
def L_X11_car_69 (Θ : GP) : Nat → Nat → Int32 → Int32 → Int32 → Int32 → OW → Nat → RO
  | 0, _, _, _, _, _, _, _ => none
  | f + 1, l0, l1, l2, l3, l4, ω, n => B_X11_car_69 Θ (L_X11_car_69 Θ f) l0 l1 l2 l3 l4 ω n
def J_X11_car_52 (Θ : GP) (ω : OW) (n : Nat) : RO := some (.inl (some (.int 0), ω, n))
def J_X11_car_45 (Θ : GP) (l0 : Nat) (l1 : Int32) (l2 : Int32) (s0 : Int32) (s1 : Nat) (ω : OW) (n : Nat) : RO := cO ω s1 11 (kI (F_X11_throwsIf Θ s1 s0 2 ω n) (fun x36 ω n => if x36 = 0 then (wF ω l0 11 31 (.int 0) (fun ω => wF ω l0 11 32 (.int 0) (fun ω => L_X11_car_69 Θ 5000 l0 l1 l2 0 0 ω n))) else (J_X11_car_52 Θ ω n)))
def J_X11_car_27 (Θ : GP) (l0 : Nat) (l1 : Int32) (l2 : Int32) (s0 : Int32) (s1 : Nat) (ω : OW) (n : Nat) : RO := cO ω s1 11 (kI (F_X11_throwsIf Θ s1 s0 1 ω n) (fun x38 ω n => if x38 = 0 then (if l1 = l2 then (J_X11_car_45 Θ l0 l1 l2 1 l0 ω n) else (J_X11_car_45 Θ l0 l1 l2 0 l0 ω n)) else (J_X11_car_52 Θ ω n)))
def J_X11_car_22 (Θ : GP) (l0 : Nat) (l1 : Int32) (l2 : Int32) (s0 : Nat) (ω : OW) (n : Nat) : RO := J_X11_car_27 Θ l0 l1 l2 1 s0 ω n
def F_X11_car (Θ : GP) (l0 : Nat) (l1 : Int32) (l2 : Int32) (ω : OW) (n : Nat) : RO := wF ω l0 11 0 (.int 0) (fun ω => cO ω l0 11 (kI (F_X11_noOne Θ l0 l1 ω n) (fun x41 ω n => if x41 = 0 then (cO ω l0 11 (kI (F_X11_noOne Θ l0 l2 ω n) (fun x43 ω n => if x43 = 0 then (J_X11_car_27 Θ l0 l1 l2 0 l0 ω n) else (J_X11_car_22 Θ l0 l1 l2 l0 ω n)))) else (J_X11_car_22 Θ l0 l1 l2 l0 ω n))))
theorem ok_J_X11_car_278 (Θ : GP) (k_69 : Nat → Int32 → Int32 → Int32 → Int32 → OW → Nat → RO) (hk_69 : ∀ l0 l1 l2 l3 l4 ω n r, k_69 l0 l1 l2 l3 l4 ω n = some r → GR Θ yX11_car cX11_car 6 (some .int) 8 (0, 0) 69 [(0, .ref l0), (1, .int l1), (2, .int l2), (3, .int l3), (4, .int l4)] [] ω n r) (l0 : Nat) (l1 : Int32) (l2 : Int32) (l3 : Int32) (l4 : Int32) (ω : OW) (n : Nat) (r : Out) (h : J_X11_car_278 Θ k_69 l0 l1 l2 l3 l4 ω n = some r) : GR Θ yX11_car cX11_car 6 (some .int) 8 (0, 0) 278 [(0, .ref l0), (1, .int l1), (2, .int l2), (3, .int l3), (4, .int l4)] [] ω n r := by
  unfold J_X11_car_278 at h
  refine g_iinc (j := 4) (v := l4 + 1) (lv' := [(4, .int (l4 + 1)), (0, .ref l0), (1, .int l1), (2, .int l2), (3, .int l3)]) dX11_car_278 rfl rfl (by decide) rfl ?_
  refine g_goto (tgt := 69) dX11_car_281 (by decide) ?_
  refine G.lsub [1, 2, 3, 4, 0] rfl ?_
  exact hk_69 l0 l1 l2 l3 (l4 + 1) _ _ r h
theorem ok_J_X11_car_275 (Θ : GP) (k_69 : Nat → Int32 → Int32 → Int32 → Int32 → OW → Nat → RO) (hk_69 : ∀ l0 l1 l2 l3 l4 ω n r, k_69 l0 l1 l2 l3 l4 ω n = some r → GR Θ yX11_car cX11_car 6 (some .int) 8 (0, 0) 69 [(0, .ref l0), (1, .int l1), (2, .int l2), (3, .int l3), (4, .int l4)] [] ω n r) (l0 : Nat) (l1 : Int32) (l2 : Int32) (l4 : Int32) (s0 : Int32) (s1 : Int32) (s2 : Int32) (ω : OW) (n : Nat) (r : Out) (h : J_X11_car_275 Θ k_69 l0 l1 l2 l4 s0 s1 s2 ω n = some r) : GR Θ yX11_car cX11_car 6 (some .int) 8 (0, 0) 275 [(0, .ref l0), (1, .int l1), (2, .int l2), (4, .int l4)] [.int s0, .int s1, .int s2] ω n r := by
  unfold J_X11_car_275 at h
  refine g_ior dX11_car_275 ?_
  refine g_ior dX11_car_276 ?_
  refine g_istore_n (lv' := [(3, .int (s2 ||| (s1 ||| s0))), (0, .ref l0), (1, .int l1), (2, .int l2), (4, .int l4)]) dX11_car_277 rfl (by decide) rfl ?_
  refine G.lsub [1, 2, 3, 0, 4] rfl ?_
  exact ok_J_X11_car_278 Θ k_69 hk_69 l0 l1 l2 (s2 ||| (s1 ||| s0)) l4 _ _ r h
theorem ok_J_X11_car_258 (Θ : GP) (k_69 : Nat → Int32 → Int32 → Int32 → Int32 → OW → Nat → RO) (hk_69 : ∀ l0 l1 l2 l3 l4 ω n r, k_69 l0 l1 l2 l3 l4 ω n = some r → GR Θ yX11_car cX11_car 6 (some .int) 8 (0, 0) 69 [(0, .ref l0), (1, .int l1), (2, .int l2), (3, .int l3), (4, .int l4)] [] ω n r) (l0 : Nat) (l1 : Int32) (l2 : Int32) (l4 : Int32) (s0 : Int32) (s1 : Int32) (ω : OW) (n : Nat) (r : Out) (h : J_X11_car_258 Θ k_69 l0 l1 l2 l4 s0 s1 ω n = some r) : GR Θ yX11_car cX11_car 6 (some .int) 8 (0, 0) 258 [(0, .ref l0), (1, .int l1), (2, .int l2), (4, .int l4)] [.int s0, .int s1] ω n r := by
  unfold J_X11_car_258 at h
  refine g_aload_n dX11_car_258 rfl 0 rfl ?_
  refine g_iload_n dX11_car_259 rfl 2 rfl ?_
  refine g_aload_n dX11_car_260 rfl 0 rfl ?_
  refine g_rI fl_X11_382 dX11_car_261 h (fun x1 h => ?_)
  refine g_cI (ci := 11) (As := [.int l2, .int x1]) mv_X11_389 dX11_car_264 rfl (ok_X11_screams Θ l0 l2 x1 _ _) rfl rfl (Nat.le_of_ble_eq_true rfl) (by decide) (by decide) (by decide) h (fun x2 ω n h => ?_)
  refine G.less (B' := (0, 0)) (by decide) (by decide) ?_
  refine g_if_eq (tgt := 274) dX11_car_267 (by decide) (fun c3 => ?_) (fun c3 => ?_)
  · rw [if_pos c3] at h
    refine g_iconst (v := 0) dX11_car_274 (by decide) ?_
    exact ok_J_X11_car_275 Θ k_69 hk_69 l0 l1 l2 l4 0 s0 s1 _ _ r h
  · rw [if_neg c3] at h
    refine g_iconst (v := 2) dX11_car_270 (by decide) ?_
    refine g_goto (tgt := 275) dX11_car_271 (by decide) ?_
    exact ok_J_X11_car_275 Θ k_69 hk_69 l0 l1 l2 l4 2 s0 s1 _ _ r h
theorem ok_J_X11_car_240 (Θ : GP) (k_69 : Nat → Int32 → Int32 → Int32 → Int32 → OW → Nat → RO) (hk_69 : ∀ l0 l1 l2 l3 l4 ω n r, k_69 l0 l1 l2 l3 l4 ω n = some r → GR Θ yX11_car cX11_car 6 (some .int) 8 (0, 0) 69 [(0, .ref l0), (1, .int l1), (2, .int l2), (3, .int l3), (4, .int l4)] [] ω n r) (l0 : Nat) (l1 : Int32) (l2 : Int32) (l3 : Int32) (l4 : Int32) (ω : OW) (n : Nat) (r : Out) (h : J_X11_car_240 Θ k_69 l0 l1 l2 l3 l4 ω n = some r) : GR Θ yX11_car cX11_car 6 (some .int) 8 (0, 0) 240 [(0, .ref l0), (1, .int l1), (2, .int l2), (3, .int l3), (4, .int l4)] [] ω n r := by
  unfold J_X11_car_240 at h
  refine g_iload_n dX11_car_240 rfl 3 rfl ?_
  refine g_aload_n dX11_car_241 rfl 0 rfl ?_
  refine g_iload_n dX11_car_242 rfl 1 rfl ?_
  refine g_aload_n dX11_car_243 rfl 0 rfl ?_
  refine g_rI fl_X11_379 dX11_car_244 h (fun x4 h => ?_)
  refine g_cI (ci := 11) (As := [.int l1, .int x4]) mv_X11_389 dX11_car_247 rfl (ok_X11_screams Θ l0 l1 x4 _ _) rfl rfl (Nat.le_of_ble_eq_true rfl) (by decide) (by decide) (by decide) h (fun x5 ω n h => ?_)
  refine G.less (B' := (0, 0)) (by decide) (by decide) ?_
  refine g_if_eq (tgt := 257) dX11_car_250 (by decide) (fun c6 => ?_) (fun c6 => ?_)
  · rw [if_pos c6] at h
    refine g_iconst (v := 0) dX11_car_257 (by decide) ?_
    refine G.lsub [0, 1, 2, 4] rfl ?_
    exact ok_J_X11_car_258 Θ k_69 hk_69 l0 l1 l2 l4 0 l3 _ _ r h
  · rw [if_neg c6] at h
    refine g_iconst (v := 1) dX11_car_253 (by decide) ?_
    refine g_goto (tgt := 258) dX11_car_254 (by decide) ?_
    refine G.lsub [0, 1, 2, 4] rfl ?_
    exact ok_J_X11_car_258 Θ k_69 hk_69 l0 l1 l2 l4 1 l3 _ _ r h
theorem ok_J_X11_car_180 (Θ : GP) (k_69 : Nat → Int32 → Int32 → Int32 → Int32 → OW → Nat → RO) (hk_69 : ∀ l0 l1 l2 l3 l4 ω n r, k_69 l0 l1 l2 l3 l4 ω n = some r → GR Θ yX11_car cX11_car 6 (some .int) 8 (0, 0) 69 [(0, .ref l0), (1, .int l1), (2, .int l2), (3, .int l3), (4, .int l4)] [] ω n r) (l0 : Nat) (l1 : Int32) (l2 : Int32) (l4 : Int32) (l5 : Int32) (s0 : Int32) (s1 : Int32) (s2 : Int32) (ω : OW) (n : Nat) (r : Out) (h : J_X11_car_180 Θ k_69 l0 l1 l2 l4 l5 s0 s1 s2 ω n = some r) : GR Θ yX11_car cX11_car 6 (some .int) 8 (0, 0) 180 [(0, .ref l0), (1, .int l1), (2, .int l2), (4, .int l4), (5, .int l5)] [.int s0, .int s1, .int s2] ω n r := by
  unfold J_X11_car_180 at h
  refine g_ior dX11_car_180 ?_
  refine g_ior dX11_car_181 ?_
  refine g_istore_n (lv' := [(3, .int (s2 ||| (s1 ||| s0))), (0, .ref l0), (1, .int l1), (2, .int l2), (4, .int l4), (5, .int l5)]) dX11_car_182 rfl (by decide) rfl ?_
  refine g_iload dX11_car_183 5 rfl ?_
  refine g_if_ne (tgt := 278) dX11_car_185 (by decide) (fun c7 => ?_) (fun c7 => ?_)
  · rw [if_neg c7] at h
    refine G.lsub [1, 2, 3, 0, 4] rfl ?_
    exact ok_J_X11_car_278 Θ k_69 hk_69 l0 l1 l2 (s2 ||| (s1 ||| s0)) l4 _ _ r h
  · rw [if_pos c7] at h
    refine g_iload_n dX11_car_188 rfl 0 rfl ?_
    refine g_if_eq (tgt := 278) dX11_car_189 (by decide) (fun c8 => ?_) (fun c8 => ?_)
    · rw [if_pos c8] at h
      refine G.lsub [1, 2, 3, 0, 4] rfl ?_
      exact ok_J_X11_car_278 Θ k_69 hk_69 l0 l1 l2 (s2 ||| (s1 ||| s0)) l4 _ _ r h
    · rw [if_neg c8] at h
      refine g_iload_n dX11_car_192 rfl 0 rfl ?_
      refine g_iconst (v := 3) dX11_car_193 (by decide) ?_
      refine g_icmp_ne (tgt := 200) dX11_car_194 (by decide) (fun c9 => ?_) (fun c9 => ?_)
      · rw [if_neg c9] at h
        refine g_iload_n dX11_car_200 rfl 0 rfl ?_
        refine g_iconst (v := 1) dX11_car_201 (by decide) ?_
        refine g_icmp_ne (tgt := 224) dX11_car_202 (by decide) (fun c10 => ?_) (fun c10 => ?_)
        · rw [if_neg c10] at h
          refine g_aload_n dX11_car_224 rfl 1 rfl ?_
          refine g_dup dX11_car_225 rfl ?_
          refine g_rI fl_X11_379 dX11_car_226 h (fun x11 h => ?_)
          refine g_aload_n dX11_car_229 rfl 1 rfl ?_
          refine g_rA fl_X11_13 dX11_car_230 h (fun a12 h => ?_)
          refine g_bipush (v := 6) dX11_car_233 (by decide) ?_
          refine g_lIi dX11_car_235 h (fun x13 h => ?_)
          refine g_iadd dX11_car_236 ?_
          refine g_wF fl_X11_379 dX11_car_237 (rfl) rfl h (fun ω h => ?_)
          refine G.lsub [1, 2, 3, 0, 4] rfl ?_
          exact ok_J_X11_car_240 Θ k_69 hk_69 l0 l1 l2 (s2 ||| (s1 ||| s0)) l4 _ _ r h
        · rw [if_pos c10] at h
          refine g_aload_n dX11_car_205 rfl 1 rfl ?_
          refine g_dup dX11_car_206 rfl ?_
          refine g_rI fl_X11_382 dX11_car_207 h (fun x14 h => ?_)
          refine g_aload_n dX11_car_210 rfl 1 rfl ?_
          refine g_rA fl_X11_13 dX11_car_211 h (fun a15 h => ?_)
          refine g_bipush (v := 6) dX11_car_214 (by decide) ?_
          refine g_lIi dX11_car_216 h (fun x16 h => ?_)
          refine g_iadd dX11_car_217 ?_
          refine g_wF fl_X11_382 dX11_car_218 (rfl) rfl h (fun ω h => ?_)
          refine g_goto (tgt := 240) dX11_car_221 (by decide) ?_
          refine G.lsub [1, 2, 3, 0, 4] rfl ?_
          exact ok_J_X11_car_240 Θ k_69 hk_69 l0 l1 l2 (s2 ||| (s1 ||| s0)) l4 _ _ r h
      · rw [if_pos c9] at h
        refine g_goto (tgt := 278) dX11_car_197 (by decide) ?_
        refine G.lsub [1, 2, 3, 0, 4] rfl ?_
        exact ok_J_X11_car_278 Θ k_69 hk_69 l0 l1 l2 (s2 ||| (s1 ||| s0)) l4 _ _ r h
theorem ok_J_X11_car_179 (Θ : GP) (k_69 : Nat → Int32 → Int32 → Int32 → Int32 → OW → Nat → RO) (hk_69 : ∀ l0 l1 l2 l3 l4 ω n r, k_69 l0 l1 l2 l3 l4 ω n = some r → GR Θ yX11_car cX11_car 6 (some .int) 8 (0, 0) 69 [(0, .ref l0), (1, .int l1), (2, .int l2), (3, .int l3), (4, .int l4)] [] ω n r) (l0 : Nat) (l1 : Int32) (l2 : Int32) (l4 : Int32) (l5 : Int32) (s0 : Int32) (s1 : Int32) (ω : OW) (n : Nat) (r : Out) (h : J_X11_car_179 Θ k_69 l0 l1 l2 l4 l5 s0 s1 ω n = some r) : GR Θ yX11_car cX11_car 6 (some .int) 8 (0, 0) 179 [(0, .ref l0), (1, .int l1), (2, .int l2), (4, .int l4), (5, .int l5)] [.int s0, .int s1] ω n r := by
  unfold J_X11_car_179 at h
  refine g_iconst (v := 0) dX11_car_179 (by decide) ?_
  exact ok_J_X11_car_180 Θ k_69 hk_69 l0 l1 l2 l4 l5 0 s0 s1 _ _ r h
theorem ok_J_X11_car_154 (Θ : GP) (k_69 : Nat → Int32 → Int32 → Int32 → Int32 → OW → Nat → RO) (hk_69 : ∀ l0 l1 l2 l3 l4 ω n r, k_69 l0 l1 l2 l3 l4 ω n = some r → GR Θ yX11_car cX11_car 6 (some .int) 8 (0, 0) 69 [(0, .ref l0), (1, .int l1), (2, .int l2), (3, .int l3), (4, .int l4)] [] ω n r) (l0 : Nat) (l1 : Int32) (l2 : Int32) (l4 : Int32) (l5 : Int32) (s0 : Int32) (s1 : Int32) (ω : OW) (n : Nat) (r : Out) (h : J_X11_car_154 Θ k_69 l0 l1 l2 l4 l5 s0 s1 ω n = some r) : GR Θ yX11_car cX11_car 6 (some .int) 8 (0, 0) 154 [(0, .ref l0), (1, .int l1), (2, .int l2), (4, .int l4), (5, .int l5)] [.int s0, .int s1] ω n r := by
  unfold J_X11_car_154 at h
  refine g_iload dX11_car_154 4 rfl ?_
  refine g_iconst (v := 1) dX11_car_156 (by decide) ?_
  refine g_sI (As := [.int l5, .int 1]) ms_X11_137 dX11_car_157 (ok_X11_has Θ l5 1 _ _) rfl rfl (Nat.le_of_ble_eq_true rfl) (by decide) (by decide) (by decide) h (fun x17 ω n h => ?_)
  refine G.less (B' := (0, 0)) (by decide) (by decide) ?_
  refine g_if_ne (tgt := 179) dX11_car_160 (by decide) (fun c18 => ?_) (fun c18 => ?_)
  · rw [if_neg c18] at h
    exact ok_J_X11_car_179 Θ k_69 hk_69 l0 l1 l2 l4 l5 s0 s1 _ _ r h
  · rw [if_pos c18] at h
    refine g_aload_n dX11_car_163 rfl 0 rfl ?_
    refine g_iload_n dX11_car_164 rfl 2 rfl ?_
    refine g_aload_n dX11_car_165 rfl 0 rfl ?_
    refine g_rI fl_X11_382 dX11_car_166 h (fun x19 h => ?_)
    refine g_cI (ci := 11) (As := [.int l2, .int x19]) mv_X11_389 dX11_car_169 rfl (ok_X11_screams Θ l0 l2 x19 _ _) rfl rfl (Nat.le_of_ble_eq_true rfl) (by decide) (by decide) (by decide) h (fun x20 ω n h => ?_)
    refine G.less (B' := (0, 0)) (by decide) (by decide) ?_
    refine g_if_eq (tgt := 179) dX11_car_172 (by decide) (fun c21 => ?_) (fun c21 => ?_)
    · rw [if_pos c21] at h
      exact ok_J_X11_car_179 Θ k_69 hk_69 l0 l1 l2 l4 l5 s0 s1 _ _ r h
    · rw [if_neg c21] at h
      refine g_iconst (v := 2) dX11_car_175 (by decide) ?_
      refine g_goto (tgt := 180) dX11_car_176 (by decide) ?_
      exact ok_J_X11_car_180 Θ k_69 hk_69 l0 l1 l2 l4 l5 2 s0 s1 _ _ r h
theorem ok_J_X11_car_153 (Θ : GP) (k_69 : Nat → Int32 → Int32 → Int32 → Int32 → OW → Nat → RO) (hk_69 : ∀ l0 l1 l2 l3 l4 ω n r, k_69 l0 l1 l2 l3 l4 ω n = some r → GR Θ yX11_car cX11_car 6 (some .int) 8 (0, 0) 69 [(0, .ref l0), (1, .int l1), (2, .int l2), (3, .int l3), (4, .int l4)] [] ω n r) (l0 : Nat) (l1 : Int32) (l2 : Int32) (l4 : Int32) (l5 : Int32) (s0 : Int32) (ω : OW) (n : Nat) (r : Out) (h : J_X11_car_153 Θ k_69 l0 l1 l2 l4 l5 s0 ω n = some r) : GR Θ yX11_car cX11_car 6 (some .int) 8 (0, 0) 153 [(0, .ref l0), (1, .int l1), (2, .int l2), (4, .int l4), (5, .int l5)] [.int s0] ω n r := by
  unfold J_X11_car_153 at h
  refine g_iconst (v := 0) dX11_car_153 (by decide) ?_
  exact ok_J_X11_car_154 Θ k_69 hk_69 l0 l1 l2 l4 l5 0 s0 _ _ r h
theorem ok_J_X11_car_127 (Θ : GP) (k_69 : Nat → Int32 → Int32 → Int32 → Int32 → OW → Nat → RO) (hk_69 : ∀ l0 l1 l2 l3 l4 ω n r, k_69 l0 l1 l2 l3 l4 ω n = some r → GR Θ yX11_car cX11_car 6 (some .int) 8 (0, 0) 69 [(0, .ref l0), (1, .int l1), (2, .int l2), (3, .int l3), (4, .int l4)] [] ω n r) (l0 : Nat) (l1 : Int32) (l2 : Int32) (l3 : Int32) (l4 : Int32) (l5 : Int32) (ω : OW) (n : Nat) (r : Out) (h : J_X11_car_127 Θ k_69 l0 l1 l2 l3 l4 l5 ω n = some r) : GR Θ yX11_car cX11_car 6 (some .int) 8 (0, 0) 127 [(0, .ref l0), (1, .int l1), (2, .int l2), (3, .int l3), (4, .int l4), (5, .int l5)] [] ω n r := by
  unfold J_X11_car_127 at h
  refine g_iload_n dX11_car_127 rfl 3 rfl ?_
  refine g_iload dX11_car_128 5 rfl ?_
  refine g_iconst (v := 0) dX11_car_130 (by decide) ?_
  refine g_sI (As := [.int l5, .int 0]) ms_X11_137 dX11_car_131 (ok_X11_has Θ l5 0 _ _) rfl rfl (Nat.le_of_ble_eq_true rfl) (by decide) (by decide) (by decide) h (fun x22 ω n h => ?_)
  refine G.less (B' := (0, 0)) (by decide) (by decide) ?_
  refine g_if_ne (tgt := 153) dX11_car_134 (by decide) (fun c23 => ?_) (fun c23 => ?_)
  · rw [if_neg c23] at h
    refine G.lsub [0, 1, 2, 4, 5] rfl ?_
    exact ok_J_X11_car_153 Θ k_69 hk_69 l0 l1 l2 l4 l5 l3 _ _ r h
  · rw [if_pos c23] at h
    refine g_aload_n dX11_car_137 rfl 0 rfl ?_
    refine g_iload_n dX11_car_138 rfl 1 rfl ?_
    refine g_aload_n dX11_car_139 rfl 0 rfl ?_
    refine g_rI fl_X11_379 dX11_car_140 h (fun x24 h => ?_)
    refine g_cI (ci := 11) (As := [.int l1, .int x24]) mv_X11_389 dX11_car_143 rfl (ok_X11_screams Θ l0 l1 x24 _ _) rfl rfl (Nat.le_of_ble_eq_true rfl) (by decide) (by decide) (by decide) h (fun x25 ω n h => ?_)
    refine G.less (B' := (0, 0)) (by decide) (by decide) ?_
    refine g_if_eq (tgt := 153) dX11_car_146 (by decide) (fun c26 => ?_) (fun c26 => ?_)
    · rw [if_pos c26] at h
      refine G.lsub [0, 1, 2, 4, 5] rfl ?_
      exact ok_J_X11_car_153 Θ k_69 hk_69 l0 l1 l2 l4 l5 l3 _ _ r h
    · rw [if_neg c26] at h
      refine g_iconst (v := 1) dX11_car_149 (by decide) ?_
      refine g_goto (tgt := 154) dX11_car_150 (by decide) ?_
      refine G.lsub [0, 1, 2, 4, 5] rfl ?_
      exact ok_J_X11_car_154 Θ k_69 hk_69 l0 l1 l2 l4 l5 1 l3 _ _ r h
theorem ok_J_X11_car_103 (Θ : GP) (k_69 : Nat → Int32 → Int32 → Int32 → Int32 → OW → Nat → RO) (hk_69 : ∀ l0 l1 l2 l3 l4 ω n r, k_69 l0 l1 l2 l3 l4 ω n = some r → GR Θ yX11_car cX11_car 6 (some .int) 8 (0, 0) 69 [(0, .ref l0), (1, .int l1), (2, .int l2), (3, .int l3), (4, .int l4)] [] ω n r) (l0 : Nat) (l1 : Int32) (l2 : Int32) (l3 : Int32) (l4 : Int32) (l5 : Int32) (ω : OW) (n : Nat) (r : Out) (h : J_X11_car_103 Θ k_69 l0 l1 l2 l3 l4 l5 ω n = some r) : GR Θ yX11_car cX11_car 6 (some .int) 8 (0, 0) 103 [(0, .ref l0), (1, .int l1), (2, .int l2), (3, .int l3), (4, .int l4), (5, .int l5)] [] ω n r := by
  unfold J_X11_car_103 at h
  refine g_iload dX11_car_103 5 rfl ?_
  refine g_iconst (v := 1) dX11_car_105 (by decide) ?_
  refine g_sI (As := [.int l5, .int 1]) ms_X11_137 dX11_car_106 (ok_X11_has Θ l5 1 _ _) rfl rfl (Nat.le_of_ble_eq_true rfl) (by decide) (by decide) (by decide) h (fun x27 ω n h => ?_)
  refine G.less (B' := (0, 0)) (by decide) (by decide) ?_
  refine g_if_ne (tgt := 127) dX11_car_109 (by decide) (fun c28 => ?_) (fun c28 => ?_)
  · rw [if_neg c28] at h
    exact ok_J_X11_car_127 Θ k_69 hk_69 l0 l1 l2 l3 l4 l5 _ _ r h
  · rw [if_pos c28] at h
    refine g_aload_n dX11_car_112 rfl 0 rfl ?_
    refine g_aload_n dX11_car_113 rfl 0 rfl ?_
    refine g_iload_n dX11_car_114 rfl 2 rfl ?_
    refine g_iload dX11_car_115 4 rfl ?_
    refine g_aload_n dX11_car_117 rfl 0 rfl ?_
    refine g_rI fl_X11_382 dX11_car_118 h (fun x29 h => ?_)
    refine g_cI (ci := 11) (As := [.int l2, .int l4, .int x29]) mv_X11_385 dX11_car_121 rfl (ok_X11_carStep Θ l0 l2 l4 x29 _ _) rfl rfl (Nat.le_of_ble_eq_true rfl) (by decide) (by decide) (by decide) h (fun x30 ω n h => ?_)
    refine G.less (B' := (0, 0)) (by decide) (by decide) ?_
    refine g_wF fl_X11_382 dX11_car_124 (rfl) rfl h (fun ω h => ?_)
    exact ok_J_X11_car_127 Θ k_69 hk_69 l0 l1 l2 l3 l4 l5 _ _ r h
theorem ok_B_X11_car_69 (Θ : GP) (k_69 : Nat → Int32 → Int32 → Int32 → Int32 → OW → Nat → RO) (hk_69 : ∀ l0 l1 l2 l3 l4 ω n r, k_69 l0 l1 l2 l3 l4 ω n = some r → GR Θ yX11_car cX11_car 6 (some .int) 8 (0, 0) 69 [(0, .ref l0), (1, .int l1), (2, .int l2), (3, .int l3), (4, .int l4)] [] ω n r) (l0 : Nat) (l1 : Int32) (l2 : Int32) (l3 : Int32) (l4 : Int32) (ω : OW) (n : Nat) (r : Out) (h : B_X11_car_69 Θ k_69 l0 l1 l2 l3 l4 ω n = some r) : GR Θ yX11_car cX11_car 6 (some .int) 8 (0, 0) 69 [(0, .ref l0), (1, .int l1), (2, .int l2), (3, .int l3), (4, .int l4)] [] ω n r := by
  unfold B_X11_car_69 at h
  refine g_iload dX11_car_69 4 rfl ?_
  refine g_bipush (v := 10) dX11_car_71 (by decide) ?_
  refine g_icmp_ge (tgt := 284) dX11_car_73 (by decide) (fun c31 => ?_) (fun c31 => ?_)
  · rw [if_pos c31] at h
    refine g_iload_n dX11_car_284 rfl 3 rfl ?_
    cases h
    exact g_iret rfl dX11_car_285 rfl
  · rw [if_neg c31] at h
    refine g_iload_n dX11_car_76 rfl 3 rfl ?_
    refine g_istore (lv' := [(5, .int l3), (0, .ref l0), (1, .int l1), (2, .int l2), (3, .int l3), (4, .int l4)]) dX11_car_77 (by decide) rfl ?_
    refine g_iload dX11_car_79 0 rfl ?_
    refine g_iconst (v := 0) dX11_car_81 (by decide) ?_
    refine g_sI (As := [.int l3, .int 0]) ms_X11_137 dX11_car_82 (ok_X11_has Θ l3 0 _ _) rfl rfl (Nat.le_of_ble_eq_true rfl) (by decide) (by decide) (by decide) h (fun x32 ω n h => ?_)
    refine G.less (B' := (0, 0)) (by decide) (by decide) ?_
    refine g_if_ne (tgt := 103) dX11_car_85 (by decide) (fun c33 => ?_) (fun c33 => ?_)
    · rw [if_neg c33] at h
      refine G.lsub [1, 2, 3, 4, 5, 0] rfl ?_
      exact ok_J_X11_car_103 Θ k_69 hk_69 l0 l1 l2 l3 l4 l3 _ _ r h
    · rw [if_pos c33] at h
      refine g_aload_n dX11_car_88 rfl 1 rfl ?_
      refine g_aload_n dX11_car_89 rfl 1 rfl ?_
      refine g_iload_n dX11_car_90 rfl 2 rfl ?_
      refine g_iload dX11_car_91 5 rfl ?_
      refine g_aload_n dX11_car_93 rfl 1 rfl ?_
      refine g_rI fl_X11_379 dX11_car_94 h (fun x34 h => ?_)
      refine g_cI (ci := 11) (As := [.int l1, .int l4, .int x34]) mv_X11_385 dX11_car_97 rfl (ok_X11_carStep Θ l0 l1 l4 x34 _ _) rfl rfl (Nat.le_of_ble_eq_true rfl) (by decide) (by decide) (by decide) h (fun x35 ω n h => ?_)
      refine G.less (B' := (0, 0)) (by decide) (by decide) ?_
      refine g_wF fl_X11_379 dX11_car_100 (rfl) rfl h (fun ω h => ?_)
      refine G.lsub [1, 2, 3, 4, 5, 0] rfl ?_
      exact ok_J_X11_car_103 Θ k_69 hk_69 l0 l1 l2 l3 l4 l3 _ _ r h
theorem ok_L_X11_car_69 (Θ : GP) : ∀ (f : Nat) (l0 : Nat) (l1 : Int32) (l2 : Int32) (l3 : Int32) (l4 : Int32) (ω : OW) (n : Nat) (r : Out), L_X11_car_69 Θ f l0 l1 l2 l3 l4 ω n = some r → GR Θ yX11_car cX11_car 6 (some .int) 8 (0, 0) 69 [(0, .ref l0), (1, .int l1), (2, .int l2), (3, .int l3), (4, .int l4)] [] ω n r := by
  intro f
  induction f with
  | zero =>
    intro l0 l1 l2 l3 l4 ω n r h
    unfold L_X11_car_69 at h
    cases h
  | succ f ih =>
    intro l0 l1 l2 l3 l4 ω n r h
    unfold L_X11_car_69 at h
    exact ok_B_X11_car_69 Θ (L_X11_car_69 Θ f) ih l0 l1 l2 l3 l4 ω n r h
theorem ok_J_X11_car_52 (Θ : GP) (ω : OW) (n : Nat) (r : Out) (h : J_X11_car_52 Θ ω n = some r) : GR Θ yX11_car cX11_car 6 (some .int) 8 (0, 0) 52 [] [] ω n r := by
  unfold J_X11_car_52 at h
  refine g_iconst (v := 0) dX11_car_52 (by decide) ?_
  cases h
  exact g_iret rfl dX11_car_53 rfl
theorem ok_J_X11_car_45 (Θ : GP) (l0 : Nat) (l1 : Int32) (l2 : Int32) (s0 : Int32) (s1 : Nat) (ω : OW) (n : Nat) (r : Out) (h : J_X11_car_45 Θ l0 l1 l2 s0 s1 ω n = some r) : GR Θ yX11_car cX11_car 6 (some .int) 8 (0, 0) 45 [(0, .ref l0), (1, .int l1), (2, .int l2)] [.int s0, .ref s1] ω n r := by
  unfold J_X11_car_45 at h
  refine g_iconst (v := 2) dX11_car_45 (by decide) ?_
  refine g_cI (ci := 11) (As := [.int s0, .int 2]) mv_X11_262 dX11_car_46 rfl (ok_X11_throwsIf Θ s1 s0 2 _ _) rfl rfl (Nat.le_of_ble_eq_true rfl) (by decide) (by decide) (by decide) h (fun x36 ω n h => ?_)
  refine G.less (B' := (0, 0)) (by decide) (by decide) ?_
  refine g_if_eq (tgt := 54) dX11_car_49 (by decide) (fun c37 => ?_) (fun c37 => ?_)
  · rw [if_pos c37] at h
    refine g_iconst (v := 0) dX11_car_54 (by decide) ?_
    refine g_istore_n (lv' := [(3, .int 0), (0, .ref l0), (1, .int l1), (2, .int l2)]) dX11_car_55 rfl (by decide) rfl ?_
    refine g_aload_n dX11_car_56 rfl 1 rfl ?_
    refine g_iconst (v := 0) dX11_car_57 (by decide) ?_
    refine g_wF fl_X11_379 dX11_car_58 (rfl) rfl h (fun ω h => ?_)
    refine g_aload_n dX11_car_61 rfl 1 rfl ?_
    refine g_iconst (v := 0) dX11_car_62 (by decide) ?_
    refine g_wF fl_X11_382 dX11_car_63 (rfl) rfl h (fun ω h => ?_)
    refine g_iconst (v := 0) dX11_car_66 (by decide) ?_
    refine g_istore (lv' := [(4, .int 0), (3, .int 0), (0, .ref l0), (1, .int l1), (2, .int l2)]) dX11_car_67 (by decide) rfl ?_
    refine G.lsub [2, 3, 4, 1, 0] rfl ?_
    exact ok_L_X11_car_69 Θ 5000 l0 l1 l2 0 0 _ _ r h
  · rw [if_neg c37] at h
    refine G.lsub [] rfl ?_
    exact ok_J_X11_car_52 Θ _ _ r h
theorem ok_J_X11_car_27 (Θ : GP) (l0 : Nat) (l1 : Int32) (l2 : Int32) (s0 : Int32) (s1 : Nat) (ω : OW) (n : Nat) (r : Out) (h : J_X11_car_27 Θ l0 l1 l2 s0 s1 ω n = some r) : GR Θ yX11_car cX11_car 6 (some .int) 8 (0, 0) 27 [(0, .ref l0), (1, .int l1), (2, .int l2)] [.int s0, .ref s1] ω n r := by
  unfold J_X11_car_27 at h
  refine g_iconst (v := 1) dX11_car_27 (by decide) ?_
  refine g_cI (ci := 11) (As := [.int s0, .int 1]) mv_X11_262 dX11_car_28 rfl (ok_X11_throwsIf Θ s1 s0 1 _ _) rfl rfl (Nat.le_of_ble_eq_true rfl) (by decide) (by decide) (by decide) h (fun x38 ω n h => ?_)
  refine G.less (B' := (0, 0)) (by decide) (by decide) ?_
  refine g_if_ne (tgt := 52) dX11_car_31 (by decide) (fun c39 => ?_) (fun c39 => ?_)
  · rw [if_neg c39] at h
    refine G.lsub [] rfl ?_
    exact ok_J_X11_car_52 Θ _ _ r h
  · rw [if_pos c39] at h
    refine g_aload_n dX11_car_34 rfl 0 rfl ?_
    refine g_iload_n dX11_car_35 rfl 1 rfl ?_
    refine g_iload_n dX11_car_36 rfl 2 rfl ?_
    refine g_icmp_ne (tgt := 44) dX11_car_37 (by decide) (fun c40 => ?_) (fun c40 => ?_)
    · rw [if_neg c40] at h
      refine g_iconst (v := 0) dX11_car_44 (by decide) ?_
      exact ok_J_X11_car_45 Θ l0 l1 l2 0 l0 _ _ r h
    · rw [if_pos c40] at h
      refine g_iconst (v := 1) dX11_car_40 (by decide) ?_
      refine g_goto (tgt := 45) dX11_car_41 (by decide) ?_
      exact ok_J_X11_car_45 Θ l0 l1 l2 1 l0 _ _ r h
theorem ok_J_X11_car_22 (Θ : GP) (l0 : Nat) (l1 : Int32) (l2 : Int32) (s0 : Nat) (ω : OW) (n : Nat) (r : Out) (h : J_X11_car_22 Θ l0 l1 l2 s0 ω n = some r) : GR Θ yX11_car cX11_car 6 (some .int) 8 (0, 0) 22 [(0, .ref l0), (1, .int l1), (2, .int l2)] [.ref s0] ω n r := by
  unfold J_X11_car_22 at h
  refine g_iconst (v := 1) dX11_car_22 (by decide) ?_
  refine g_goto (tgt := 27) dX11_car_23 (by decide) ?_
  exact ok_J_X11_car_27 Θ l0 l1 l2 1 s0 _ _ r h
theorem ok_X11_car (Θ : GP) (l0 : Nat) (l1 : Int32) (l2 : Int32) (ω : OW) (n : Nat) : Ok Θ 8 0 0 yX11_car cX11_car 6 (some .int) [.ref l0, .int l1, .int l2] ω n (F_X11_car Θ l0 l1 l2 ω n) := by
  refine Ok.of (by decide +kernel) (Nat.le_of_ble_eq_true rfl) (fun r h => ?_)
  unfold F_X11_car at h
  show GR Θ yX11_car cX11_car 6 (some .int) 8 (0, 0) 0 [(0, .ref l0), (1, .int l1), (2, .int l2)] [] ω n r
  refine g_aload_n dX11_car_0 rfl 0 rfl ?_
  refine g_iconst (v := 0) dX11_car_1 (by decide) ?_
  refine g_wF fl_X11_3 dX11_car_2 (rfl) rfl h (fun ω h => ?_)
  refine g_aload_n dX11_car_5 rfl 0 rfl ?_
  refine g_aload_n dX11_car_6 rfl 0 rfl ?_
  refine g_iload_n dX11_car_7 rfl 1 rfl ?_
  refine g_cI (ci := 11) (As := [.int l1]) mv_X11_300 dX11_car_8 rfl (ok_X11_noOne Θ l0 l1 _ _) rfl rfl (Nat.le_of_ble_eq_true rfl) (by decide) (by decide) (by decide) h (fun x41 ω n h => ?_)
  refine G.less (B' := (0, 0)) (by decide) (by decide) ?_
  refine g_if_ne (tgt := 22) dX11_car_11 (by decide) (fun c42 => ?_) (fun c42 => ?_)
  · rw [if_neg c42] at h
    exact ok_J_X11_car_22 Θ l0 l1 l2 l0 _ _ r h
  · rw [if_pos c42] at h
    refine g_aload_n dX11_car_14 rfl 0 rfl ?_
    refine g_iload_n dX11_car_15 rfl 2 rfl ?_
    refine g_cI (ci := 11) (As := [.int l2]) mv_X11_300 dX11_car_16 rfl (ok_X11_noOne Θ l0 l2 _ _) rfl rfl (Nat.le_of_ble_eq_true rfl) (by decide) (by decide) (by decide) h (fun x43 ω n h => ?_)
    refine G.less (B' := (0, 0)) (by decide) (by decide) ?_
    refine g_if_eq (tgt := 26) dX11_car_19 (by decide) (fun c44 => ?_) (fun c44 => ?_)
    · rw [if_pos c44] at h
      refine g_iconst (v := 0) dX11_car_26 (by decide) ?_
      exact ok_J_X11_car_27 Θ l0 l1 l2 0 l0 _ _ r h
    · rw [if_neg c44] at h
      exact ok_J_X11_car_22 Θ l0 l1 l2 l0 _ _ r h
def B_X11_laysSlot_169 (Θ : GP) (k_169 : Nat → Int32 → OW → Nat → RO) (l0 : Nat) (l3 : Int32) (ω : OW) (n : Nat) : RO := if 60 < l3 then (some (.inl (none, ω, n))) else (rA ω l0 11 33 (fun a2 => rA ω l0 11 34 (fun a3 => lI ω (gI Θ) a3 l3 (fun x4 => sI ω (gI Θ) a2 l3 x4 (fun ω => k_169 l0 (l3 + 1) ω n)))))
def L_X11_laysSlot_169 (Θ : GP) : Nat → Nat → Int32 → OW → Nat → RO
  | 0, _, _, _, _ => none
  | f + 1, l0, l3, ω, n => B_X11_laysSlot_169 Θ (L_X11_laysSlot_169 Θ f) l0 l3 ω n
def J_X11_laysSlot_161 (Θ : GP) (k_36 : Nat → Int32 → Int32 → Int32 → OW → Nat → RO) (l0 : Nat) (l1 : Int32) (l2 : Int32) (l3 : Int32) (ω : OW) (n : Nat) : RO := k_36 l0 l1 l2 (l3 + 1) ω n
def J_X11_laysSlot_155 (Θ : GP) (k_36 : Nat → Int32 → Int32 → Int32 → OW → Nat → RO) (k_96 : Nat → Int32 → Int32 → Int32 → Int32 → Int32 → OW → Nat → RO) (l0 : Nat) (l1 : Int32) (l2 : Int32) (l3 : Int32) (l4 : Int32) (l5 : Int32) (ω : OW) (n : Nat) : RO := k_96 l0 l1 l2 l3 l4 (l5 + 1) ω n
def B_X11_laysSlot_96 (Θ : GP) (k_36 : Nat → Int32 → Int32 → Int32 → OW → Nat → RO) (k_96 : Nat → Int32 → Int32 → Int32 → Int32 → Int32 → OW → Nat → RO) (l0 : Nat) (l1 : Int32) (l2 : Int32) (l3 : Int32) (l4 : Int32) (l5 : Int32) (ω : OW) (n : Nat) : RO := if 3 ≤ l5 then (J_X11_laysSlot_161 Θ k_36 l0 l1 l2 l3 ω n) else (rI ω l0 11 19 (fun x6 => if (l4 + l5) ≤ x6 then (rA ω l0 11 34 (fun a8 => lI ω (gI Θ) a8 (l4 + l5) (fun x9 => rA ω l0 11 33 (fun a10 => lI ω (gI Θ) a10 l3 (fun x11 => sI ω (gI Θ) a8 (l4 + l5) (x9 + (x11 / 3)) (fun ω => J_X11_laysSlot_155 Θ k_36 k_96 l0 l1 l2 l3 l4 l5 ω n)))))) else (rA ω l0 11 35 (fun a12 => lI ω (gI Θ) a12 l1 (fun x13 => rA ω l0 11 33 (fun a14 => lI ω (gI Θ) a14 l3 (fun x15 => sI ω (gI Θ) a12 l1 (x13 + (x15 / 3)) (fun ω => J_X11_laysSlot_155 Θ k_36 k_96 l0 l1 l2 l3 l4 l5 ω n))))))))
def L_X11_laysSlot_96 (Θ : GP) (k_36 : Nat → Int32 → Int32 → Int32 → OW → Nat → RO) : Nat → Nat → Int32 → Int32 → Int32 → Int32 → Int32 → OW → Nat → RO
  | 0, _, _, _, _, _, _, _, _ => none
  | f + 1, l0, l1, l2, l3, l4, l5, ω, n => B_X11_laysSlot_96 Θ k_36 (L_X11_laysSlot_96 Θ k_36 f) l0 l1 l2 l3 l4 l5 ω n
def B_X11_laysSlot_36 (Θ : GP) (k_36 : Nat → Int32 → Int32 → Int32 → OW → Nat → RO) (l0 : Nat) (l1 : Int32) (l2 : Int32) (l3 : Int32) (ω : OW) (n : Nat) : RO := rI ω l0 11 19 (fun x16 => if x16 < l3 then (L_X11_laysSlot_169 Θ 5000 l0 0 ω n) else (rA ω l0 11 33 (fun a18 => lI ω (gI Θ) a18 l3 (fun x19 => if x19 = 0 then (J_X11_laysSlot_161 Θ k_36 l0 l1 l2 l3 ω n) else (if l2 = (-1) then (rA ω l0 11 34 (fun a23 => cO ω l0 11 (kI (F_X11_calmer Θ l0 l3 ω n) (fun x24 ω n => lI ω (gI Θ) a23 x24 (fun x25 => rA ω l0 11 33 (fun a26 => lI ω (gI Θ) a26 l3 (fun x27 => sI ω (gI Θ) a23 x24 (x25 + x27) (fun ω => J_X11_laysSlot_161 Θ k_36 l0 l1 l2 l3 ω n)))))))) else (cO ω l0 11 (kI (F_X11_frightsBy Θ l0 l2 l3 ω n) (fun x22 ω n => L_X11_laysSlot_96 Θ k_36 5000 l0 l1 l2 l3 (l3 + x22) 0 ω n))))))))
def L_X11_laysSlot_36 (Θ : GP) : Nat → Nat → Int32 → Int32 → Int32 → OW → Nat → RO
  | 0, _, _, _, _, _, _ => none
  | f + 1, l0, l1, l2, l3, ω, n => B_X11_laysSlot_36 Θ (L_X11_laysSlot_36 Θ f) l0 l1 l2 l3 ω n
def B_X11_laysSlot_15 (Θ : GP) (k_15 : Nat → Int32 → Int32 → Int32 → OW → Nat → RO) (l0 : Nat) (l1 : Int32) (l2 : Int32) (l3 : Int32) (ω : OW) (n : Nat) : RO := if 60 < l3 then (L_X11_laysSlot_36 Θ 5000 l0 l1 l2 0 ω n) else (rA ω l0 11 34 (fun a29 => sI ω (gI Θ) a29 l3 0 (fun ω => k_15 l0 l1 l2 (l3 + 1) ω n)))
def L_X11_laysSlot_15 (Θ : GP) : Nat → Nat → Int32 → Int32 → Int32 → OW → Nat → RO
  | 0, _, _, _, _, _, _ => none
  | f + 1, l0, l1, l2, l3, ω, n => B_X11_laysSlot_15 Θ (L_X11_laysSlot_15 Θ f) l0 l1 l2 l3 ω n
def F_X11_laysSlot (Θ : GP) (l0 : Nat) (l1 : Int32) (ω : OW) (n : Nat) : RO := cO ω l0 11 (kI (F_X11_propIn Θ l0 l1 ω n) (fun x30 ω n => rA ω l0 11 35 (fun a31 => sI ω (gI Θ) a31 l1 0 (fun ω => L_X11_laysSlot_15 Θ 5000 l0 l1 x30 0 ω n))))
theorem ok_B_X11_laysSlot_169 (Θ : GP) (k_169 : Nat → Int32 → OW → Nat → RO) (hk_169 : ∀ l0 l3 ω n r, k_169 l0 l3 ω n = some r → GR Θ yX11_laysSlot cX11_laysSlot 6 (none : Option Jvm.ClassFile.FieldType) 7 (0, 0) 169 [(0, .ref l0), (3, .int l3)] [] ω n r) (l0 : Nat) (l3 : Int32) (ω : OW) (n : Nat) (r : Out) (h : B_X11_laysSlot_169 Θ k_169 l0 l3 ω n = some r) : GR Θ yX11_laysSlot cX11_laysSlot 6 (none : Option Jvm.ClassFile.FieldType) 7 (0, 0) 169 [(0, .ref l0), (3, .int l3)] [] ω n r := by
  unfold B_X11_laysSlot_169 at h
  refine g_iload_n dX11_laysSlot_169 rfl 1 rfl ?_
  refine g_bipush (v := 60) dX11_laysSlot_170 (by decide) ?_
  refine g_icmp_gt (tgt := 193) dX11_laysSlot_172 (by decide) (fun c1 => ?_) (fun c1 => ?_)
  · rw [if_pos c1] at h
    cases h
    exact g_vret rfl dX11_laysSlot_193 rfl
  · rw [if_neg c1] at h
    refine g_aload_n dX11_laysSlot_175 rfl 0 rfl ?_
    refine g_rA fl_X11_51 dX11_laysSlot_176 h (fun a2 h => ?_)
    refine g_iload_n dX11_laysSlot_179 rfl 1 rfl ?_
    refine g_aload_n dX11_laysSlot_180 rfl 0 rfl ?_
    refine g_rA fl_X11_54 dX11_laysSlot_181 h (fun a3 h => ?_)
    refine g_iload_n dX11_laysSlot_184 rfl 1 rfl ?_
    refine g_lIi dX11_laysSlot_185 h (fun x4 h => ?_)
    refine g_sIi dX11_laysSlot_186 h (fun ω h => ?_)
    refine g_iinc (j := 1) (v := l3 + 1) (lv' := [(3, .int (l3 + 1)), (0, .ref l0)]) dX11_laysSlot_187 rfl rfl (by decide) rfl ?_
    refine g_goto (tgt := 169) dX11_laysSlot_190 (by decide) ?_
    refine G.lsub [1, 0] rfl ?_
    exact hk_169 l0 (l3 + 1) _ _ r h
theorem ok_L_X11_laysSlot_169 (Θ : GP) : ∀ (f : Nat) (l0 : Nat) (l3 : Int32) (ω : OW) (n : Nat) (r : Out), L_X11_laysSlot_169 Θ f l0 l3 ω n = some r → GR Θ yX11_laysSlot cX11_laysSlot 6 (none : Option Jvm.ClassFile.FieldType) 7 (0, 0) 169 [(0, .ref l0), (3, .int l3)] [] ω n r := by
  intro f
  induction f with
  | zero =>
    intro l0 l3 ω n r h
    unfold L_X11_laysSlot_169 at h
    cases h
  | succ f ih =>
    intro l0 l3 ω n r h
    unfold L_X11_laysSlot_169 at h
    exact ok_B_X11_laysSlot_169 Θ (L_X11_laysSlot_169 Θ f) ih l0 l3 ω n r h
theorem ok_J_X11_laysSlot_161 (Θ : GP) (k_36 : Nat → Int32 → Int32 → Int32 → OW → Nat → RO) (hk_36 : ∀ l0 l1 l2 l3 ω n r, k_36 l0 l1 l2 l3 ω n = some r → GR Θ yX11_laysSlot cX11_laysSlot 6 (none : Option Jvm.ClassFile.FieldType) 7 (0, 0) 36 [(0, .ref l0), (1, .int l1), (2, .int l2), (3, .int l3)] [] ω n r) (l0 : Nat) (l1 : Int32) (l2 : Int32) (l3 : Int32) (ω : OW) (n : Nat) (r : Out) (h : J_X11_laysSlot_161 Θ k_36 l0 l1 l2 l3 ω n = some r) : GR Θ yX11_laysSlot cX11_laysSlot 6 (none : Option Jvm.ClassFile.FieldType) 7 (0, 0) 161 [(0, .ref l0), (1, .int l1), (2, .int l2), (3, .int l3)] [] ω n r := by
  unfold J_X11_laysSlot_161 at h
  refine g_iinc (j := 3) (v := l3 + 1) (lv' := [(3, .int (l3 + 1)), (0, .ref l0), (1, .int l1), (2, .int l2)]) dX11_laysSlot_161 rfl rfl (by decide) rfl ?_
  refine g_goto (tgt := 36) dX11_laysSlot_164 (by decide) ?_
  refine G.lsub [1, 2, 3, 0] rfl ?_
  exact hk_36 l0 l1 l2 (l3 + 1) _ _ r h
theorem ok_J_X11_laysSlot_155 (Θ : GP) (k_36 : Nat → Int32 → Int32 → Int32 → OW → Nat → RO) (k_96 : Nat → Int32 → Int32 → Int32 → Int32 → Int32 → OW → Nat → RO) (hk_36 : ∀ l0 l1 l2 l3 ω n r, k_36 l0 l1 l2 l3 ω n = some r → GR Θ yX11_laysSlot cX11_laysSlot 6 (none : Option Jvm.ClassFile.FieldType) 7 (0, 0) 36 [(0, .ref l0), (1, .int l1), (2, .int l2), (3, .int l3)] [] ω n r) (hk_96 : ∀ l0 l1 l2 l3 l4 l5 ω n r, k_96 l0 l1 l2 l3 l4 l5 ω n = some r → GR Θ yX11_laysSlot cX11_laysSlot 6 (none : Option Jvm.ClassFile.FieldType) 7 (0, 0) 96 [(0, .ref l0), (1, .int l1), (2, .int l2), (3, .int l3), (4, .int l4), (5, .int l5)] [] ω n r) (l0 : Nat) (l1 : Int32) (l2 : Int32) (l3 : Int32) (l4 : Int32) (l5 : Int32) (ω : OW) (n : Nat) (r : Out) (h : J_X11_laysSlot_155 Θ k_36 k_96 l0 l1 l2 l3 l4 l5 ω n = some r) : GR Θ yX11_laysSlot cX11_laysSlot 6 (none : Option Jvm.ClassFile.FieldType) 7 (0, 0) 155 [(0, .ref l0), (1, .int l1), (2, .int l2), (3, .int l3), (4, .int l4), (5, .int l5)] [] ω n r := by
  unfold J_X11_laysSlot_155 at h
  refine g_iinc (j := 5) (v := l5 + 1) (lv' := [(5, .int (l5 + 1)), (0, .ref l0), (1, .int l1), (2, .int l2), (3, .int l3), (4, .int l4)]) dX11_laysSlot_155 rfl rfl (by decide) rfl ?_
  refine g_goto (tgt := 96) dX11_laysSlot_158 (by decide) ?_
  refine G.lsub [1, 2, 3, 4, 5, 0] rfl ?_
  exact hk_96 l0 l1 l2 l3 l4 (l5 + 1) _ _ r h
theorem ok_B_X11_laysSlot_96 (Θ : GP) (k_36 : Nat → Int32 → Int32 → Int32 → OW → Nat → RO) (k_96 : Nat → Int32 → Int32 → Int32 → Int32 → Int32 → OW → Nat → RO) (hk_36 : ∀ l0 l1 l2 l3 ω n r, k_36 l0 l1 l2 l3 ω n = some r → GR Θ yX11_laysSlot cX11_laysSlot 6 (none : Option Jvm.ClassFile.FieldType) 7 (0, 0) 36 [(0, .ref l0), (1, .int l1), (2, .int l2), (3, .int l3)] [] ω n r) (hk_96 : ∀ l0 l1 l2 l3 l4 l5 ω n r, k_96 l0 l1 l2 l3 l4 l5 ω n = some r → GR Θ yX11_laysSlot cX11_laysSlot 6 (none : Option Jvm.ClassFile.FieldType) 7 (0, 0) 96 [(0, .ref l0), (1, .int l1), (2, .int l2), (3, .int l3), (4, .int l4), (5, .int l5)] [] ω n r) (l0 : Nat) (l1 : Int32) (l2 : Int32) (l3 : Int32) (l4 : Int32) (l5 : Int32) (ω : OW) (n : Nat) (r : Out) (h : B_X11_laysSlot_96 Θ k_36 k_96 l0 l1 l2 l3 l4 l5 ω n = some r) : GR Θ yX11_laysSlot cX11_laysSlot 6 (none : Option Jvm.ClassFile.FieldType) 7 (0, 0) 96 [(0, .ref l0), (1, .int l1), (2, .int l2), (3, .int l3), (4, .int l4), (5, .int l5)] [] ω n r := by
  unfold B_X11_laysSlot_96 at h
  refine g_iload dX11_laysSlot_96 5 rfl ?_
  refine g_iconst (v := 3) dX11_laysSlot_98 (by decide) ?_
  refine g_icmp_ge (tgt := 161) dX11_laysSlot_99 (by decide) (fun c5 => ?_) (fun c5 => ?_)
  · rw [if_pos c5] at h
    refine G.lsub [0, 1, 2, 3] rfl ?_
    exact ok_J_X11_laysSlot_161 Θ k_36 hk_36 l0 l1 l2 l3 _ _ r h
  · rw [if_neg c5] at h
    refine g_iload dX11_laysSlot_102 4 rfl ?_
    refine g_iload dX11_laysSlot_104 5 rfl ?_
    refine g_iadd dX11_laysSlot_106 ?_
    refine g_aload_n dX11_laysSlot_107 rfl 0 rfl ?_
    refine g_rI fl_X11_268 dX11_laysSlot_108 h (fun x6 h => ?_)
    refine g_icmp_le (tgt := 134) dX11_laysSlot_111 (by decide) (fun c7 => ?_) (fun c7 => ?_)
    · rw [if_pos c7] at h
      refine g_aload_n dX11_laysSlot_134 rfl 0 rfl ?_
      refine g_rA fl_X11_54 dX11_laysSlot_135 h (fun a8 h => ?_)
      refine g_iload dX11_laysSlot_138 4 rfl ?_
      refine g_iload dX11_laysSlot_140 5 rfl ?_
      refine g_iadd dX11_laysSlot_142 ?_
      refine g_dup2 dX11_laysSlot_143 rfl rfl ?_
      refine g_lIi dX11_laysSlot_144 h (fun x9 h => ?_)
      refine g_aload_n dX11_laysSlot_145 rfl 0 rfl ?_
      refine g_rA fl_X11_51 dX11_laysSlot_146 h (fun a10 h => ?_)
      refine g_iload_n dX11_laysSlot_149 rfl 3 rfl ?_
      refine g_lIi dX11_laysSlot_150 h (fun x11 h => ?_)
      refine g_iconst (v := 3) dX11_laysSlot_151 (by decide) ?_
      refine g_idiv dX11_laysSlot_152 (by decide) ?_
      refine g_iadd dX11_laysSlot_153 ?_
      refine g_sIi dX11_laysSlot_154 h (fun ω h => ?_)
      exact ok_J_X11_laysSlot_155 Θ k_36 k_96 hk_36 hk_96 l0 l1 l2 l3 l4 l5 _ _ r h
    · rw [if_neg c7] at h
      refine g_aload_n dX11_laysSlot_114 rfl 0 rfl ?_
      refine g_rA fl_X11_57 dX11_laysSlot_115 h (fun a12 h => ?_)
      refine g_iload_n dX11_laysSlot_118 rfl 1 rfl ?_
      refine g_dup2 dX11_laysSlot_119 rfl rfl ?_
      refine g_lIi dX11_laysSlot_120 h (fun x13 h => ?_)
      refine g_aload_n dX11_laysSlot_121 rfl 0 rfl ?_
      refine g_rA fl_X11_51 dX11_laysSlot_122 h (fun a14 h => ?_)
      refine g_iload_n dX11_laysSlot_125 rfl 3 rfl ?_
      refine g_lIi dX11_laysSlot_126 h (fun x15 h => ?_)
      refine g_iconst (v := 3) dX11_laysSlot_127 (by decide) ?_
      refine g_idiv dX11_laysSlot_128 (by decide) ?_
      refine g_iadd dX11_laysSlot_129 ?_
      refine g_sIi dX11_laysSlot_130 h (fun ω h => ?_)
      refine g_goto (tgt := 155) dX11_laysSlot_131 (by decide) ?_
      exact ok_J_X11_laysSlot_155 Θ k_36 k_96 hk_36 hk_96 l0 l1 l2 l3 l4 l5 _ _ r h
theorem ok_L_X11_laysSlot_96 (Θ : GP) (k_36 : Nat → Int32 → Int32 → Int32 → OW → Nat → RO) (hk_36 : ∀ l0 l1 l2 l3 ω n r, k_36 l0 l1 l2 l3 ω n = some r → GR Θ yX11_laysSlot cX11_laysSlot 6 (none : Option Jvm.ClassFile.FieldType) 7 (0, 0) 36 [(0, .ref l0), (1, .int l1), (2, .int l2), (3, .int l3)] [] ω n r) : ∀ (f : Nat) (l0 : Nat) (l1 : Int32) (l2 : Int32) (l3 : Int32) (l4 : Int32) (l5 : Int32) (ω : OW) (n : Nat) (r : Out), L_X11_laysSlot_96 Θ k_36 f l0 l1 l2 l3 l4 l5 ω n = some r → GR Θ yX11_laysSlot cX11_laysSlot 6 (none : Option Jvm.ClassFile.FieldType) 7 (0, 0) 96 [(0, .ref l0), (1, .int l1), (2, .int l2), (3, .int l3), (4, .int l4), (5, .int l5)] [] ω n r := by
  intro f
  induction f with
  | zero =>
    intro l0 l1 l2 l3 l4 l5 ω n r h
    unfold L_X11_laysSlot_96 at h
    cases h
  | succ f ih =>
    intro l0 l1 l2 l3 l4 l5 ω n r h
    unfold L_X11_laysSlot_96 at h
    exact ok_B_X11_laysSlot_96 Θ k_36 (L_X11_laysSlot_96 Θ k_36 f) hk_36 ih l0 l1 l2 l3 l4 l5 ω n r h
theorem ok_B_X11_laysSlot_36 (Θ : GP) (k_36 : Nat → Int32 → Int32 → Int32 → OW → Nat → RO) (hk_36 : ∀ l0 l1 l2 l3 ω n r, k_36 l0 l1 l2 l3 ω n = some r → GR Θ yX11_laysSlot cX11_laysSlot 6 (none : Option Jvm.ClassFile.FieldType) 7 (0, 0) 36 [(0, .ref l0), (1, .int l1), (2, .int l2), (3, .int l3)] [] ω n r) (l0 : Nat) (l1 : Int32) (l2 : Int32) (l3 : Int32) (ω : OW) (n : Nat) (r : Out) (h : B_X11_laysSlot_36 Θ k_36 l0 l1 l2 l3 ω n = some r) : GR Θ yX11_laysSlot cX11_laysSlot 6 (none : Option Jvm.ClassFile.FieldType) 7 (0, 0) 36 [(0, .ref l0), (1, .int l1), (2, .int l2), (3, .int l3)] [] ω n r := by
  unfold B_X11_laysSlot_36 at h
  refine g_iload_n dX11_laysSlot_36 rfl 3 rfl ?_
  refine g_aload_n dX11_laysSlot_37 rfl 0 rfl ?_
  refine g_rI fl_X11_268 dX11_laysSlot_38 h (fun x16 h => ?_)
  refine g_icmp_gt (tgt := 167) dX11_laysSlot_41 (by decide) (fun c17 => ?_) (fun c17 => ?_)
  · rw [if_pos c17] at h
    refine g_iconst (v := 0) dX11_laysSlot_167 (by decide) ?_
    refine g_istore_n (lv' := [(3, .int 0), (0, .ref l0), (1, .int l1), (2, .int l2)]) dX11_laysSlot_168 rfl (by decide) rfl ?_
    refine G.lsub [1, 0] rfl ?_
    exact ok_L_X11_laysSlot_169 Θ 5000 l0 0 _ _ r h
  · rw [if_neg c17] at h
    refine g_aload_n dX11_laysSlot_44 rfl 0 rfl ?_
    refine g_rA fl_X11_51 dX11_laysSlot_45 h (fun a18 h => ?_)
    refine g_iload_n dX11_laysSlot_48 rfl 3 rfl ?_
    refine g_lIi dX11_laysSlot_49 h (fun x19 h => ?_)
    refine g_if_ne (tgt := 56) dX11_laysSlot_50 (by decide) (fun c20 => ?_) (fun c20 => ?_)
    · rw [if_neg c20] at h
      refine g_iload_n dX11_laysSlot_56 rfl 2 rfl ?_
      refine g_iconst (v := (-1)) dX11_laysSlot_57 (by decide) ?_
      refine g_icmp_ne (tgt := 83) dX11_laysSlot_58 (by decide) (fun c21 => ?_) (fun c21 => ?_)
      · rw [if_neg c21] at h
        refine g_iload_n dX11_laysSlot_83 rfl 3 rfl ?_
        refine g_aload_n dX11_laysSlot_84 rfl 0 rfl ?_
        refine g_iload_n dX11_laysSlot_85 rfl 2 rfl ?_
        refine g_iload_n dX11_laysSlot_86 rfl 3 rfl ?_
        refine g_cI (ci := 11) (As := [.int l2, .int l3]) mv_X11_310 dX11_laysSlot_87 rfl (ok_X11_frightsBy Θ l0 l2 l3 _ _) rfl rfl (Nat.le_of_ble_eq_true rfl) (by decide) (by decide) (by decide) h (fun x22 ω n h => ?_)
        refine G.less (B' := (0, 0)) (by decide) (by decide) ?_
        refine g_iadd dX11_laysSlot_90 ?_
        refine g_istore (lv' := [(4, .int (l3 + x22)), (0, .ref l0), (1, .int l1), (2, .int l2), (3, .int l3)]) dX11_laysSlot_91 (by decide) rfl ?_
        refine g_iconst (v := 0) dX11_laysSlot_93 (by decide) ?_
        refine g_istore (lv' := [(5, .int 0), (4, .int (l3 + x22)), (0, .ref l0), (1, .int l1), (2, .int l2), (3, .int l3)]) dX11_laysSlot_94 (by decide) rfl ?_
        refine G.lsub [2, 3, 4, 5, 1, 0] rfl ?_
        exact ok_L_X11_laysSlot_96 Θ k_36 hk_36 5000 l0 l1 l2 l3 (l3 + x22) 0 _ _ r h
      · rw [if_pos c21] at h
        refine g_aload_n dX11_laysSlot_61 rfl 0 rfl ?_
        refine g_rA fl_X11_54 dX11_laysSlot_62 h (fun a23 h => ?_)
        refine g_aload_n dX11_laysSlot_65 rfl 0 rfl ?_
        refine g_iload_n dX11_laysSlot_66 rfl 3 rfl ?_
        refine g_cI (ci := 11) (As := [.int l3]) mv_X11_331 dX11_laysSlot_67 rfl (ok_X11_calmer Θ l0 l3 _ _) rfl rfl (Nat.le_of_ble_eq_true rfl) (by decide) (by decide) (by decide) h (fun x24 ω n h => ?_)
        refine G.less (B' := (0, 0)) (by decide) (by decide) ?_
        refine g_dup2 dX11_laysSlot_70 rfl rfl ?_
        refine g_lIi dX11_laysSlot_71 h (fun x25 h => ?_)
        refine g_aload_n dX11_laysSlot_72 rfl 0 rfl ?_
        refine g_rA fl_X11_51 dX11_laysSlot_73 h (fun a26 h => ?_)
        refine g_iload_n dX11_laysSlot_76 rfl 3 rfl ?_
        refine g_lIi dX11_laysSlot_77 h (fun x27 h => ?_)
        refine g_iadd dX11_laysSlot_78 ?_
        refine g_sIi dX11_laysSlot_79 h (fun ω h => ?_)
        refine g_goto (tgt := 161) dX11_laysSlot_80 (by decide) ?_
        exact ok_J_X11_laysSlot_161 Θ k_36 hk_36 l0 l1 l2 l3 _ _ r h
    · rw [if_pos c20] at h
      refine g_goto (tgt := 161) dX11_laysSlot_53 (by decide) ?_
      exact ok_J_X11_laysSlot_161 Θ k_36 hk_36 l0 l1 l2 l3 _ _ r h
theorem ok_L_X11_laysSlot_36 (Θ : GP) : ∀ (f : Nat) (l0 : Nat) (l1 : Int32) (l2 : Int32) (l3 : Int32) (ω : OW) (n : Nat) (r : Out), L_X11_laysSlot_36 Θ f l0 l1 l2 l3 ω n = some r → GR Θ yX11_laysSlot cX11_laysSlot 6 (none : Option Jvm.ClassFile.FieldType) 7 (0, 0) 36 [(0, .ref l0), (1, .int l1), (2, .int l2), (3, .int l3)] [] ω n r := by
  intro f
  induction f with
  | zero =>
    intro l0 l1 l2 l3 ω n r h
    unfold L_X11_laysSlot_36 at h
    cases h
  | succ f ih =>
    intro l0 l1 l2 l3 ω n r h
    unfold L_X11_laysSlot_36 at h
    exact ok_B_X11_laysSlot_36 Θ (L_X11_laysSlot_36 Θ f) ih l0 l1 l2 l3 ω n r h
theorem ok_B_X11_laysSlot_15 (Θ : GP) (k_15 : Nat → Int32 → Int32 → Int32 → OW → Nat → RO) (hk_15 : ∀ l0 l1 l2 l3 ω n r, k_15 l0 l1 l2 l3 ω n = some r → GR Θ yX11_laysSlot cX11_laysSlot 6 (none : Option Jvm.ClassFile.FieldType) 7 (0, 0) 15 [(0, .ref l0), (1, .int l1), (2, .int l2), (3, .int l3)] [] ω n r) (l0 : Nat) (l1 : Int32) (l2 : Int32) (l3 : Int32) (ω : OW) (n : Nat) (r : Out) (h : B_X11_laysSlot_15 Θ k_15 l0 l1 l2 l3 ω n = some r) : GR Θ yX11_laysSlot cX11_laysSlot 6 (none : Option Jvm.ClassFile.FieldType) 7 (0, 0) 15 [(0, .ref l0), (1, .int l1), (2, .int l2), (3, .int l3)] [] ω n r := by
  unfold B_X11_laysSlot_15 at h
  refine g_iload_n dX11_laysSlot_15 rfl 3 rfl ?_
  refine g_bipush (v := 60) dX11_laysSlot_16 (by decide) ?_
  refine g_icmp_gt (tgt := 34) dX11_laysSlot_18 (by decide) (fun c28 => ?_) (fun c28 => ?_)
  · rw [if_pos c28] at h
    refine g_iconst (v := 0) dX11_laysSlot_34 (by decide) ?_
    refine g_istore_n (lv' := [(3, .int 0), (0, .ref l0), (1, .int l1), (2, .int l2)]) dX11_laysSlot_35 rfl (by decide) rfl ?_
    refine G.lsub [1, 2, 3, 0] rfl ?_
    exact ok_L_X11_laysSlot_36 Θ 5000 l0 l1 l2 0 _ _ r h
  · rw [if_neg c28] at h
    refine g_aload_n dX11_laysSlot_21 rfl 0 rfl ?_
    refine g_rA fl_X11_54 dX11_laysSlot_22 h (fun a29 h => ?_)
    refine g_iload_n dX11_laysSlot_25 rfl 3 rfl ?_
    refine g_iconst (v := 0) dX11_laysSlot_26 (by decide) ?_
    refine g_sIi dX11_laysSlot_27 h (fun ω h => ?_)
    refine g_iinc (j := 3) (v := l3 + 1) (lv' := [(3, .int (l3 + 1)), (0, .ref l0), (1, .int l1), (2, .int l2)]) dX11_laysSlot_28 rfl rfl (by decide) rfl ?_
    refine g_goto (tgt := 15) dX11_laysSlot_31 (by decide) ?_
    refine G.lsub [1, 2, 3, 0] rfl ?_
    exact hk_15 l0 l1 l2 (l3 + 1) _ _ r h
theorem ok_L_X11_laysSlot_15 (Θ : GP) : ∀ (f : Nat) (l0 : Nat) (l1 : Int32) (l2 : Int32) (l3 : Int32) (ω : OW) (n : Nat) (r : Out), L_X11_laysSlot_15 Θ f l0 l1 l2 l3 ω n = some r → GR Θ yX11_laysSlot cX11_laysSlot 6 (none : Option Jvm.ClassFile.FieldType) 7 (0, 0) 15 [(0, .ref l0), (1, .int l1), (2, .int l2), (3, .int l3)] [] ω n r := by
  intro f
  induction f with
  | zero =>
    intro l0 l1 l2 l3 ω n r h
    unfold L_X11_laysSlot_15 at h
    cases h
  | succ f ih =>
    intro l0 l1 l2 l3 ω n r h
    unfold L_X11_laysSlot_15 at h
    exact ok_B_X11_laysSlot_15 Θ (L_X11_laysSlot_15 Θ f) ih l0 l1 l2 l3 ω n r h
theorem ok_X11_laysSlot (Θ : GP) (l0 : Nat) (l1 : Int32) (ω : OW) (n : Nat) : Ok Θ 7 0 0 yX11_laysSlot cX11_laysSlot 6 (none : Option Jvm.ClassFile.FieldType) [.ref l0, .int l1] ω n (F_X11_laysSlot Θ l0 l1 ω n) := by
  refine Ok.of (by decide +kernel) (Nat.le_of_ble_eq_true rfl) (fun r h => ?_)
  unfold F_X11_laysSlot at h
  show GR Θ yX11_laysSlot cX11_laysSlot 6 (none : Option Jvm.ClassFile.FieldType) 7 (0, 0) 0 [(0, .ref l0), (1, .int l1)] [] ω n r
  refine g_aload_n dX11_laysSlot_0 rfl 0 rfl ?_
  refine g_iload_n dX11_laysSlot_1 rfl 1 rfl ?_
  refine g_cI (ci := 11) (As := [.int l1]) mv_X11_160 dX11_laysSlot_2 rfl (ok_X11_propIn Θ l0 l1 _ _) rfl rfl (Nat.le_of_ble_eq_true rfl) (by decide) (by decide) (by decide) h (fun x30 ω n h => ?_)
  refine G.less (B' := (0, 0)) (by decide) (by decide) ?_
  refine g_istore_n (lv' := [(2, .int x30), (0, .ref l0), (1, .int l1)]) dX11_laysSlot_5 rfl (by decide) rfl ?_
  refine g_aload_n dX11_laysSlot_6 rfl 1 rfl ?_
  refine g_rA fl_X11_57 dX11_laysSlot_7 h (fun a31 h => ?_)
  refine g_iload_n dX11_laysSlot_10 rfl 2 rfl ?_
  refine g_iconst (v := 0) dX11_laysSlot_11 (by decide) ?_
  refine g_sIi dX11_laysSlot_12 h (fun ω h => ?_)
  refine g_iconst (v := 0) dX11_laysSlot_13 (by decide) ?_
  refine g_istore_n (lv' := [(3, .int 0), (2, .int x30), (0, .ref l0), (1, .int l1)]) dX11_laysSlot_14 rfl (by decide) rfl ?_
  refine G.lsub [2, 3, 1, 0] rfl ?_
  exact ok_L_X11_laysSlot_15 Θ 5000 l0 l1 x30 0 _ _ r h
def B_X11_laysRows_82 (Θ : GP) (k_82 : Nat → Int32 → OW → Nat → RO) (l0 : Nat) (l2 : Int32) (ω : OW) (n : Nat) : RO := if 10 ≤ l2 then (some (.inl (none, ω, n))) else (cO ω l0 11 (kV (F_X11_laysSlot Θ l0 l2 ω n) (fun ω n => k_82 l0 (l2 + 1) ω n)))
def L_X11_laysRows_82 (Θ : GP) : Nat → Nat → Int32 → OW → Nat → RO
  | 0, _, _, _, _ => none
  | f + 1, l0, l2, ω, n => B_X11_laysRows_82 Θ (L_X11_laysRows_82 Θ f) l0 l2 ω n
def J_X11_laysRows_73 (Θ : GP) (k_50 : Nat → Int32 → OW → Nat → RO) (l0 : Nat) (l2 : Int32) (s0 : Int32) (s1 : Int32) (s2 : Nat) (ω : OW) (n : Nat) : RO := sI ω (gI Θ) s2 s1 s0 (fun ω => k_50 l0 (l2 + 1) ω n)
def B_X11_laysRows_50 (Θ : GP) (k_50 : Nat → Int32 → OW → Nat → RO) (l0 : Nat) (l2 : Int32) (ω : OW) (n : Nat) : RO := if 60 < l2 then (L_X11_laysRows_82 Θ 5000 l0 0 ω n) else (rA ω l0 11 33 (fun a4 => if l2 = 0 then (rI ω l0 11 36 (fun x6 => J_X11_laysRows_73 Θ k_50 l0 l2 x6 l2 a4 ω n)) else (J_X11_laysRows_73 Θ k_50 l0 l2 0 l2 a4 ω n)))
def L_X11_laysRows_50 (Θ : GP) : Nat → Nat → Int32 → OW → Nat → RO
  | 0, _, _, _, _ => none
  | f + 1, l0, l2, ω, n => B_X11_laysRows_50 Θ (L_X11_laysRows_50 Θ f) l0 l2 ω n
def J_X11_laysRows_38 (Θ : GP) (k_12 : Nat → Int32 → OW → Nat → RO) (l0 : Nat) (l2 : Int32) (s0 : Int32) (s1 : Int32) (s2 : Nat) (ω : OW) (n : Nat) : RO := wF ω s2 11 36 (.int (s1 * s0)) (fun ω => k_12 l0 (l2 + 1) ω n)
def B_X11_laysRows_12 (Θ : GP) (k_12 : Nat → Int32 → OW → Nat → RO) (l0 : Nat) (l2 : Int32) (ω : OW) (n : Nat) : RO := cO ω l0 11 (kI (F_X11_props Θ l0 ω n) (fun x7 ω n => if x7 ≤ l2 then (L_X11_laysRows_50 Θ 5000 l0 0 ω n) else (rI ω l0 11 36 (fun x9 => cO ω l0 11 (kI (F_X11_isNailed Θ l0 l2 ω n) (fun x10 ω n => if x10 = 0 then (J_X11_laysRows_38 Θ k_12 l0 l2 1 x9 l0 ω n) else (J_X11_laysRows_38 Θ k_12 l0 l2 3 x9 l0 ω n)))))))
def L_X11_laysRows_12 (Θ : GP) : Nat → Nat → Int32 → OW → Nat → RO
  | 0, _, _, _, _ => none
  | f + 1, l0, l2, ω, n => B_X11_laysRows_12 Θ (L_X11_laysRows_12 Θ f) l0 l2 ω n
def F_X11_laysRows (Θ : GP) (l0 : Nat) (l1 : Int32) (ω : OW) (n : Nat) : RO := cO ω l0 11 (kV (F_X11_looksAt Θ l0 l1 ω n) (fun ω n => wF ω l0 11 36 (.int 1) (fun ω => L_X11_laysRows_12 Θ 5000 l0 0 ω n)))
theorem ok_B_X11_laysRows_82 (Θ : GP) (k_82 : Nat → Int32 → OW → Nat → RO) (hk_82 : ∀ l0 l2 ω n r, k_82 l0 l2 ω n = some r → GR Θ yX11_laysRows cX11_laysRows 3 (none : Option Jvm.ClassFile.FieldType) 8 (0, 0) 82 [(0, .ref l0), (2, .int l2)] [] ω n r) (l0 : Nat) (l2 : Int32) (ω : OW) (n : Nat) (r : Out) (h : B_X11_laysRows_82 Θ k_82 l0 l2 ω n = some r) : GR Θ yX11_laysRows cX11_laysRows 3 (none : Option Jvm.ClassFile.FieldType) 8 (0, 0) 82 [(0, .ref l0), (2, .int l2)] [] ω n r := by
  unfold B_X11_laysRows_82 at h
  refine g_iload_n dX11_laysRows_82 rfl 1 rfl ?_
  refine g_bipush (v := 10) dX11_laysRows_83 (by decide) ?_
  refine g_icmp_ge (tgt := 99) dX11_laysRows_85 (by decide) (fun c1 => ?_) (fun c1 => ?_)
  · rw [if_pos c1] at h
    cases h
    exact g_vret rfl dX11_laysRows_99 rfl
  · rw [if_neg c1] at h
    refine g_aload_n dX11_laysRows_88 rfl 0 rfl ?_
    refine g_iload_n dX11_laysRows_89 rfl 1 rfl ?_
    refine g_cV (ci := 11) (As := [.int l2]) mv_X11_394 dX11_laysRows_90 rfl (ok_X11_laysSlot Θ l0 l2 _ _) rfl rfl (Nat.le_of_ble_eq_true rfl) (by decide) (by decide) (by decide) h (fun ω n h => ?_)
    refine G.less (B' := (0, 0)) (by decide) (by decide) ?_
    refine g_iinc (j := 1) (v := l2 + 1) (lv' := [(2, .int (l2 + 1)), (0, .ref l0)]) dX11_laysRows_93 rfl rfl (by decide) rfl ?_
    refine g_goto (tgt := 82) dX11_laysRows_96 (by decide) ?_
    refine G.lsub [1, 0] rfl ?_
    exact hk_82 l0 (l2 + 1) _ _ r h
theorem ok_L_X11_laysRows_82 (Θ : GP) : ∀ (f : Nat) (l0 : Nat) (l2 : Int32) (ω : OW) (n : Nat) (r : Out), L_X11_laysRows_82 Θ f l0 l2 ω n = some r → GR Θ yX11_laysRows cX11_laysRows 3 (none : Option Jvm.ClassFile.FieldType) 8 (0, 0) 82 [(0, .ref l0), (2, .int l2)] [] ω n r := by
  intro f
  induction f with
  | zero =>
    intro l0 l2 ω n r h
    unfold L_X11_laysRows_82 at h
    cases h
  | succ f ih =>
    intro l0 l2 ω n r h
    unfold L_X11_laysRows_82 at h
    exact ok_B_X11_laysRows_82 Θ (L_X11_laysRows_82 Θ f) ih l0 l2 ω n r h
theorem ok_J_X11_laysRows_73 (Θ : GP) (k_50 : Nat → Int32 → OW → Nat → RO) (hk_50 : ∀ l0 l2 ω n r, k_50 l0 l2 ω n = some r → GR Θ yX11_laysRows cX11_laysRows 3 (none : Option Jvm.ClassFile.FieldType) 8 (0, 0) 50 [(0, .ref l0), (2, .int l2)] [] ω n r) (l0 : Nat) (l2 : Int32) (s0 : Int32) (s1 : Int32) (s2 : Nat) (ω : OW) (n : Nat) (r : Out) (h : J_X11_laysRows_73 Θ k_50 l0 l2 s0 s1 s2 ω n = some r) : GR Θ yX11_laysRows cX11_laysRows 3 (none : Option Jvm.ClassFile.FieldType) 8 (0, 0) 73 [(0, .ref l0), (2, .int l2)] [.int s0, .int s1, .ref s2] ω n r := by
  unfold J_X11_laysRows_73 at h
  refine g_sIi dX11_laysRows_73 h (fun ω h => ?_)
  refine g_iinc (j := 1) (v := l2 + 1) (lv' := [(2, .int (l2 + 1)), (0, .ref l0)]) dX11_laysRows_74 rfl rfl (by decide) rfl ?_
  refine g_goto (tgt := 50) dX11_laysRows_77 (by decide) ?_
  refine G.lsub [1, 0] rfl ?_
  exact hk_50 l0 (l2 + 1) _ _ r h
theorem ok_B_X11_laysRows_50 (Θ : GP) (k_50 : Nat → Int32 → OW → Nat → RO) (hk_50 : ∀ l0 l2 ω n r, k_50 l0 l2 ω n = some r → GR Θ yX11_laysRows cX11_laysRows 3 (none : Option Jvm.ClassFile.FieldType) 8 (0, 0) 50 [(0, .ref l0), (2, .int l2)] [] ω n r) (l0 : Nat) (l2 : Int32) (ω : OW) (n : Nat) (r : Out) (h : B_X11_laysRows_50 Θ k_50 l0 l2 ω n = some r) : GR Θ yX11_laysRows cX11_laysRows 3 (none : Option Jvm.ClassFile.FieldType) 8 (0, 0) 50 [(0, .ref l0), (2, .int l2)] [] ω n r := by
  unfold B_X11_laysRows_50 at h
  refine g_iload_n dX11_laysRows_50 rfl 1 rfl ?_
  refine g_bipush (v := 60) dX11_laysRows_51 (by decide) ?_
  refine g_icmp_gt (tgt := 80) dX11_laysRows_53 (by decide) (fun c3 => ?_) (fun c3 => ?_)
  · rw [if_pos c3] at h
    refine g_iconst (v := 0) dX11_laysRows_80 (by decide) ?_
    refine g_istore_n (lv' := [(2, .int 0), (0, .ref l0)]) dX11_laysRows_81 rfl (by decide) rfl ?_
    refine G.lsub [1, 0] rfl ?_
    exact ok_L_X11_laysRows_82 Θ 5000 l0 0 _ _ r h
  · rw [if_neg c3] at h
    refine g_aload_n dX11_laysRows_56 rfl 0 rfl ?_
    refine g_rA fl_X11_51 dX11_laysRows_57 h (fun a4 h => ?_)
    refine g_iload_n dX11_laysRows_60 rfl 1 rfl ?_
    refine g_iload_n dX11_laysRows_61 rfl 1 rfl ?_
    refine g_if_ne (tgt := 72) dX11_laysRows_62 (by decide) (fun c5 => ?_) (fun c5 => ?_)
    · rw [if_neg c5] at h
      refine g_iconst (v := 0) dX11_laysRows_72 (by decide) ?_
      exact ok_J_X11_laysRows_73 Θ k_50 hk_50 l0 l2 0 l2 a4 _ _ r h
    · rw [if_pos c5] at h
      refine g_aload_n dX11_laysRows_65 rfl 0 rfl ?_
      refine g_rI fl_X11_391 dX11_laysRows_66 h (fun x6 h => ?_)
      refine g_goto (tgt := 73) dX11_laysRows_69 (by decide) ?_
      exact ok_J_X11_laysRows_73 Θ k_50 hk_50 l0 l2 x6 l2 a4 _ _ r h
theorem ok_L_X11_laysRows_50 (Θ : GP) : ∀ (f : Nat) (l0 : Nat) (l2 : Int32) (ω : OW) (n : Nat) (r : Out), L_X11_laysRows_50 Θ f l0 l2 ω n = some r → GR Θ yX11_laysRows cX11_laysRows 3 (none : Option Jvm.ClassFile.FieldType) 8 (0, 0) 50 [(0, .ref l0), (2, .int l2)] [] ω n r := by
  intro f
  induction f with
  | zero =>
    intro l0 l2 ω n r h
    unfold L_X11_laysRows_50 at h
    cases h
  | succ f ih =>
    intro l0 l2 ω n r h
    unfold L_X11_laysRows_50 at h
    exact ok_B_X11_laysRows_50 Θ (L_X11_laysRows_50 Θ f) ih l0 l2 ω n r h
theorem ok_J_X11_laysRows_38 (Θ : GP) (k_12 : Nat → Int32 → OW → Nat → RO) (hk_12 : ∀ l0 l2 ω n r, k_12 l0 l2 ω n = some r → GR Θ yX11_laysRows cX11_laysRows 3 (none : Option Jvm.ClassFile.FieldType) 8 (0, 0) 12 [(0, .ref l0), (2, .int l2)] [] ω n r) (l0 : Nat) (l2 : Int32) (s0 : Int32) (s1 : Int32) (s2 : Nat) (ω : OW) (n : Nat) (r : Out) (h : J_X11_laysRows_38 Θ k_12 l0 l2 s0 s1 s2 ω n = some r) : GR Θ yX11_laysRows cX11_laysRows 3 (none : Option Jvm.ClassFile.FieldType) 8 (0, 0) 38 [(0, .ref l0), (2, .int l2)] [.int s0, .int s1, .ref s2] ω n r := by
  unfold J_X11_laysRows_38 at h
  refine g_imul dX11_laysRows_38 ?_
  refine g_wF fl_X11_391 dX11_laysRows_39 (rfl) rfl h (fun ω h => ?_)
  refine g_iinc (j := 1) (v := l2 + 1) (lv' := [(2, .int (l2 + 1)), (0, .ref l0)]) dX11_laysRows_42 rfl rfl (by decide) rfl ?_
  refine g_goto (tgt := 12) dX11_laysRows_45 (by decide) ?_
  refine G.lsub [1, 0] rfl ?_
  exact hk_12 l0 (l2 + 1) _ _ r h
theorem ok_B_X11_laysRows_12 (Θ : GP) (k_12 : Nat → Int32 → OW → Nat → RO) (hk_12 : ∀ l0 l2 ω n r, k_12 l0 l2 ω n = some r → GR Θ yX11_laysRows cX11_laysRows 3 (none : Option Jvm.ClassFile.FieldType) 8 (0, 0) 12 [(0, .ref l0), (2, .int l2)] [] ω n r) (l0 : Nat) (l2 : Int32) (ω : OW) (n : Nat) (r : Out) (h : B_X11_laysRows_12 Θ k_12 l0 l2 ω n = some r) : GR Θ yX11_laysRows cX11_laysRows 3 (none : Option Jvm.ClassFile.FieldType) 8 (0, 0) 12 [(0, .ref l0), (2, .int l2)] [] ω n r := by
  unfold B_X11_laysRows_12 at h
  refine g_iload_n dX11_laysRows_12 rfl 1 rfl ?_
  refine g_aload_n dX11_laysRows_13 rfl 0 rfl ?_
  refine g_cI (ci := 11) (As := []) mv_X11_83 dX11_laysRows_14 rfl (ok_X11_props Θ l0 _ _) rfl rfl (Nat.le_of_ble_eq_true rfl) (by decide) (by decide) (by decide) h (fun x7 ω n h => ?_)
  refine G.less (B' := (0, 0)) (by decide) (by decide) ?_
  refine g_icmp_ge (tgt := 48) dX11_laysRows_17 (by decide) (fun c8 => ?_) (fun c8 => ?_)
  · rw [if_pos c8] at h
    refine g_iconst (v := 0) dX11_laysRows_48 (by decide) ?_
    refine g_istore_n (lv' := [(2, .int 0), (0, .ref l0)]) dX11_laysRows_49 rfl (by decide) rfl ?_
    refine G.lsub [1, 0] rfl ?_
    exact ok_L_X11_laysRows_50 Θ 5000 l0 0 _ _ r h
  · rw [if_neg c8] at h
    refine g_aload_n dX11_laysRows_20 rfl 0 rfl ?_
    refine g_dup dX11_laysRows_21 rfl ?_
    refine g_rI fl_X11_391 dX11_laysRows_22 h (fun x9 h => ?_)
    refine g_aload_n dX11_laysRows_25 rfl 0 rfl ?_
    refine g_iload_n dX11_laysRows_26 rfl 1 rfl ?_
    refine g_cI (ci := 11) (As := [.int l2]) mv_X11_94 dX11_laysRows_27 rfl (ok_X11_isNailed Θ l0 l2 _ _) rfl rfl (Nat.le_of_ble_eq_true rfl) (by decide) (by decide) (by decide) h (fun x10 ω n h => ?_)
    refine G.less (B' := (0, 0)) (by decide) (by decide) ?_
    refine g_if_eq (tgt := 37) dX11_laysRows_30 (by decide) (fun c11 => ?_) (fun c11 => ?_)
    · rw [if_pos c11] at h
      refine g_iconst (v := 1) dX11_laysRows_37 (by decide) ?_
      exact ok_J_X11_laysRows_38 Θ k_12 hk_12 l0 l2 1 x9 l0 _ _ r h
    · rw [if_neg c11] at h
      refine g_iconst (v := 3) dX11_laysRows_33 (by decide) ?_
      refine g_goto (tgt := 38) dX11_laysRows_34 (by decide) ?_
      exact ok_J_X11_laysRows_38 Θ k_12 hk_12 l0 l2 3 x9 l0 _ _ r h
theorem ok_L_X11_laysRows_12 (Θ : GP) : ∀ (f : Nat) (l0 : Nat) (l2 : Int32) (ω : OW) (n : Nat) (r : Out), L_X11_laysRows_12 Θ f l0 l2 ω n = some r → GR Θ yX11_laysRows cX11_laysRows 3 (none : Option Jvm.ClassFile.FieldType) 8 (0, 0) 12 [(0, .ref l0), (2, .int l2)] [] ω n r := by
  intro f
  induction f with
  | zero =>
    intro l0 l2 ω n r h
    unfold L_X11_laysRows_12 at h
    cases h
  | succ f ih =>
    intro l0 l2 ω n r h
    unfold L_X11_laysRows_12 at h
    exact ok_B_X11_laysRows_12 Θ (L_X11_laysRows_12 Θ f) ih l0 l2 ω n r h
theorem ok_X11_laysRows (Θ : GP) (l0 : Nat) (l1 : Int32) (ω : OW) (n : Nat) : Ok Θ 8 0 0 yX11_laysRows cX11_laysRows 3 (none : Option Jvm.ClassFile.FieldType) [.ref l0, .int l1] ω n (F_X11_laysRows Θ l0 l1 ω n) := by
  refine Ok.of (by decide +kernel) (Nat.le_of_ble_eq_true rfl) (fun r h => ?_)
  unfold F_X11_laysRows at h
  show GR Θ yX11_laysRows cX11_laysRows 3 (none : Option Jvm.ClassFile.FieldType) 8 (0, 0) 0 [(0, .ref l0), (1, .int l1)] [] ω n r
  refine g_aload_n dX11_laysRows_0 rfl 0 rfl ?_
  refine g_iload_n dX11_laysRows_1 rfl 1 rfl ?_
  refine g_cV (ci := 11) (As := [.int l1]) mv_X11_303 dX11_laysRows_2 rfl (ok_X11_looksAt Θ l0 l1 _ _) rfl rfl (Nat.le_of_ble_eq_true rfl) (by decide) (by decide) (by decide) h (fun ω n h => ?_)
  refine G.less (B' := (0, 0)) (by decide) (by decide) ?_
  refine g_aload_n dX11_laysRows_5 rfl 0 rfl ?_
  refine g_iconst (v := 1) dX11_laysRows_6 (by decide) ?_
  refine g_wF fl_X11_391 dX11_laysRows_7 (rfl) rfl h (fun ω h => ?_)
  refine g_iconst (v := 0) dX11_laysRows_10 (by decide) ?_
  refine g_istore_n (lv' := [(2, .int 0), (0, .ref l0), (1, .int l1)]) dX11_laysRows_11 rfl (by decide) rfl ?_
  refine G.lsub [1, 0] rfl ?_
  exact ok_L_X11_laysRows_12 Θ 5000 l0 0 _ _ r h
def B_X11_waysOf_9 (Θ : GP) (k_9 : Nat → Int32 → Int32 → OW → Nat → RO) (l0 : Nat) (l2 : Int32) (l3 : Int32) (ω : OW) (n : Nat) : RO := if 10 ≤ l3 then (some (.inl (some (.int l2), ω, n))) else (rA ω l0 11 35 (fun a2 => lI ω (gI Θ) a2 l3 (fun x3 => k_9 l0 (l2 + x3) (l3 + 1) ω n)))
def L_X11_waysOf_9 (Θ : GP) : Nat → Nat → Int32 → Int32 → OW → Nat → RO
  | 0, _, _, _, _, _ => none
  | f + 1, l0, l2, l3, ω, n => B_X11_waysOf_9 Θ (L_X11_waysOf_9 Θ f) l0 l2 l3 ω n
def F_X11_waysOf (Θ : GP) (l0 : Nat) (l1 : Int32) (ω : OW) (n : Nat) : RO := cO ω l0 11 (kV (F_X11_laysRows Θ l0 l1 ω n) (fun ω n => L_X11_waysOf_9 Θ 5000 l0 0 0 ω n))
theorem ok_B_X11_waysOf_9 (Θ : GP) (k_9 : Nat → Int32 → Int32 → OW → Nat → RO) (hk_9 : ∀ l0 l2 l3 ω n r, k_9 l0 l2 l3 ω n = some r → GR Θ yX11_waysOf cX11_waysOf 4 (some .int) 9 (0, 0) 9 [(0, .ref l0), (2, .int l2), (3, .int l3)] [] ω n r) (l0 : Nat) (l2 : Int32) (l3 : Int32) (ω : OW) (n : Nat) (r : Out) (h : B_X11_waysOf_9 Θ k_9 l0 l2 l3 ω n = some r) : GR Θ yX11_waysOf cX11_waysOf 4 (some .int) 9 (0, 0) 9 [(0, .ref l0), (2, .int l2), (3, .int l3)] [] ω n r := by
  unfold B_X11_waysOf_9 at h
  refine g_iload_n dX11_waysOf_9 rfl 2 rfl ?_
  refine g_bipush (v := 10) dX11_waysOf_10 (by decide) ?_
  refine g_icmp_ge (tgt := 30) dX11_waysOf_12 (by decide) (fun c1 => ?_) (fun c1 => ?_)
  · rw [if_pos c1] at h
    refine g_iload_n dX11_waysOf_30 rfl 1 rfl ?_
    cases h
    exact g_iret rfl dX11_waysOf_31 rfl
  · rw [if_neg c1] at h
    refine g_iload_n dX11_waysOf_15 rfl 1 rfl ?_
    refine g_aload_n dX11_waysOf_16 rfl 0 rfl ?_
    refine g_rA fl_X11_57 dX11_waysOf_17 h (fun a2 h => ?_)
    refine g_iload_n dX11_waysOf_20 rfl 2 rfl ?_
    refine g_lIi dX11_waysOf_21 h (fun x3 h => ?_)
    refine g_iadd dX11_waysOf_22 ?_
    refine g_istore_n (lv' := [(2, .int (l2 + x3)), (0, .ref l0), (3, .int l3)]) dX11_waysOf_23 rfl (by decide) rfl ?_
    refine g_iinc (j := 2) (v := l3 + 1) (lv' := [(3, .int (l3 + 1)), (2, .int (l2 + x3)), (0, .ref l0)]) dX11_waysOf_24 rfl rfl (by decide) rfl ?_
    refine g_goto (tgt := 9) dX11_waysOf_27 (by decide) ?_
    refine G.lsub [2, 1, 0] rfl ?_
    exact hk_9 l0 (l2 + x3) (l3 + 1) _ _ r h
theorem ok_L_X11_waysOf_9 (Θ : GP) : ∀ (f : Nat) (l0 : Nat) (l2 : Int32) (l3 : Int32) (ω : OW) (n : Nat) (r : Out), L_X11_waysOf_9 Θ f l0 l2 l3 ω n = some r → GR Θ yX11_waysOf cX11_waysOf 4 (some .int) 9 (0, 0) 9 [(0, .ref l0), (2, .int l2), (3, .int l3)] [] ω n r := by
  intro f
  induction f with
  | zero =>
    intro l0 l2 l3 ω n r h
    unfold L_X11_waysOf_9 at h
    cases h
  | succ f ih =>
    intro l0 l2 l3 ω n r h
    unfold L_X11_waysOf_9 at h
    exact ok_B_X11_waysOf_9 Θ (L_X11_waysOf_9 Θ f) ih l0 l2 l3 ω n r h
theorem ok_X11_waysOf (Θ : GP) (l0 : Nat) (l1 : Int32) (ω : OW) (n : Nat) : Ok Θ 9 0 0 yX11_waysOf cX11_waysOf 4 (some .int) [.ref l0, .int l1] ω n (F_X11_waysOf Θ l0 l1 ω n) := by
  refine Ok.of (by decide +kernel) (Nat.le_of_ble_eq_true rfl) (fun r h => ?_)
  unfold F_X11_waysOf at h
  show GR Θ yX11_waysOf cX11_waysOf 4 (some .int) 9 (0, 0) 0 [(0, .ref l0), (1, .int l1)] [] ω n r
  refine g_aload_n dX11_waysOf_0 rfl 0 rfl ?_
  refine g_iload_n dX11_waysOf_1 rfl 1 rfl ?_
  refine g_cV (ci := 11) (As := [.int l1]) mv_X11_397 dX11_waysOf_2 rfl (ok_X11_laysRows Θ l0 l1 _ _) rfl rfl (Nat.le_of_ble_eq_true rfl) (by decide) (by decide) (by decide) h (fun ω n h => ?_)
  refine G.less (B' := (0, 0)) (by decide) (by decide) ?_
  refine g_iconst (v := 0) dX11_waysOf_5 (by decide) ?_
  refine g_istore_n (lv' := [(2, .int 0), (0, .ref l0), (1, .int l1)]) dX11_waysOf_6 rfl (by decide) rfl ?_
  refine g_iconst (v := 0) dX11_waysOf_7 (by decide) ?_
  refine g_istore_n (lv' := [(3, .int 0), (2, .int 0), (0, .ref l0), (1, .int l1)]) dX11_waysOf_8 rfl (by decide) rfl ?_
  refine G.lsub [2, 1, 0] rfl ?_
  exact ok_L_X11_waysOf_9 Θ 5000 l0 0 0 _ _ r h
def F_X11_oddsOf (Θ : GP) (l0 : Nat) (l1 : Int32) (ω : OW) (n : Nat) : RO := cO ω l0 11 (kI (F_X11_waysOf Θ l0 l1 ω n) (fun x1 ω n => rI ω l0 11 36 (fun x2 => nzl ((x2 : Int32).toInt64) (some (.inl (some (.int (((10000 * ((x1 : Int32).toInt64)) / ((x2 : Int32).toInt64) : Int64).toInt32)), ω, n))))))
theorem ok_X11_oddsOf (Θ : GP) (l0 : Nat) (l1 : Int32) (ω : OW) (n : Nat) : Ok Θ 10 0 0 yX11_oddsOf cX11_oddsOf 2 (some .int) [.ref l0, .int l1] ω n (F_X11_oddsOf Θ l0 l1 ω n) := by
  refine Ok.of (by decide +kernel) (Nat.le_of_ble_eq_true rfl) (fun r h => ?_)
  unfold F_X11_oddsOf at h
  show GR Θ yX11_oddsOf cX11_oddsOf 2 (some .int) 10 (0, 0) 0 [(0, .ref l0), (1, .int l1)] [] ω n r
  refine g_ldc2_w (v := 10000) wd_1980 dX11_oddsOf_0 ?_
  refine g_aload_n dX11_oddsOf_3 rfl 0 rfl ?_
  refine g_iload_n dX11_oddsOf_4 rfl 1 rfl ?_
  refine g_cI (ci := 11) (As := [.int l1]) mv_X11_402 dX11_oddsOf_5 rfl (ok_X11_waysOf Θ l0 l1 _ _) rfl rfl (Nat.le_of_ble_eq_true rfl) (by decide) (by decide) (by decide) h (fun x1 ω n h => ?_)
  refine G.less (B' := (0, 0)) (by decide) (by decide) ?_
  refine g_i2l dX11_oddsOf_8 ?_
  refine g_lmul dX11_oddsOf_9 ?_
  refine g_aload_n dX11_oddsOf_10 rfl 0 rfl ?_
  refine g_rI fl_X11_391 dX11_oddsOf_11 h (fun x2 h => ?_)
  refine g_i2l dX11_oddsOf_14 ?_
  obtain ⟨z3, h⟩ := nzl_inv h
  refine g_ldiv dX11_oddsOf_15 z3 ?_
  refine g_l2i dX11_oddsOf_16 ?_
  cases h
  exact g_iret rfl dX11_oddsOf_17 rfl
def J_X11_ways_27 (Θ : GP) (s0 : Int32) (ω : OW) (n : Nat) : RO := some (.inl (some (.int s0), ω, n))
def F_X11_ways (Θ : GP) (l0 : Nat) (l1 : Int32) (ω : OW) (n : Nat) : RO := wF ω l0 11 0 (.int 0) (fun ω => cO ω l0 11 (kI (F_X11_noOne Θ l0 l1 ω n) (fun x1 ω n => cO ω l0 11 (kI (F_X11_throwsIf Θ l0 x1 1 ω n) (fun x2 ω n => if x2 = 0 then (cO ω l0 11 (kI (F_X11_waysOf Θ l0 l1 ω n) (fun x4 ω n => J_X11_ways_27 Θ x4 ω n))) else (J_X11_ways_27 Θ 0 ω n))))))
theorem ok_J_X11_ways_27 (Θ : GP) (s0 : Int32) (ω : OW) (n : Nat) (r : Out) (h : J_X11_ways_27 Θ s0 ω n = some r) : GR Θ yX11_ways cX11_ways 2 (some .int) 10 (0, 0) 27 [] [.int s0] ω n r := by
  unfold J_X11_ways_27 at h
  cases h
  exact g_iret rfl dX11_ways_27 rfl
theorem ok_X11_ways (Θ : GP) (l0 : Nat) (l1 : Int32) (ω : OW) (n : Nat) : Ok Θ 10 0 0 yX11_ways cX11_ways 2 (some .int) [.ref l0, .int l1] ω n (F_X11_ways Θ l0 l1 ω n) := by
  refine Ok.of (by decide +kernel) (Nat.le_of_ble_eq_true rfl) (fun r h => ?_)
  unfold F_X11_ways at h
  show GR Θ yX11_ways cX11_ways 2 (some .int) 10 (0, 0) 0 [(0, .ref l0), (1, .int l1)] [] ω n r
  refine g_aload_n dX11_ways_0 rfl 0 rfl ?_
  refine g_iconst (v := 0) dX11_ways_1 (by decide) ?_
  refine g_wF fl_X11_3 dX11_ways_2 (rfl) rfl h (fun ω h => ?_)
  refine g_aload_n dX11_ways_5 rfl 0 rfl ?_
  refine g_aload_n dX11_ways_6 rfl 0 rfl ?_
  refine g_iload_n dX11_ways_7 rfl 1 rfl ?_
  refine g_cI (ci := 11) (As := [.int l1]) mv_X11_300 dX11_ways_8 rfl (ok_X11_noOne Θ l0 l1 _ _) rfl rfl (Nat.le_of_ble_eq_true rfl) (by decide) (by decide) (by decide) h (fun x1 ω n h => ?_)
  refine G.less (B' := (0, 0)) (by decide) (by decide) ?_
  refine g_iconst (v := 1) dX11_ways_11 (by decide) ?_
  refine g_cI (ci := 11) (As := [.int x1, .int 1]) mv_X11_262 dX11_ways_12 rfl (ok_X11_throwsIf Θ l0 x1 1 _ _) rfl rfl (Nat.le_of_ble_eq_true rfl) (by decide) (by decide) (by decide) h (fun x2 ω n h => ?_)
  refine G.less (B' := (0, 0)) (by decide) (by decide) ?_
  refine g_if_eq (tgt := 22) dX11_ways_15 (by decide) (fun c3 => ?_) (fun c3 => ?_)
  · rw [if_pos c3] at h
    refine g_aload_n dX11_ways_22 rfl 0 rfl ?_
    refine g_iload_n dX11_ways_23 rfl 1 rfl ?_
    refine g_cI (ci := 11) (As := [.int l1]) mv_X11_402 dX11_ways_24 rfl (ok_X11_waysOf Θ l0 l1 _ _) rfl rfl (Nat.le_of_ble_eq_true rfl) (by decide) (by decide) (by decide) h (fun x4 ω n h => ?_)
    refine G.less (B' := (0, 0)) (by decide) (by decide) ?_
    refine G.lsub [] rfl ?_
    exact ok_J_X11_ways_27 Θ x4 _ _ r h
  · rw [if_neg c3] at h
    refine g_iconst (v := 0) dX11_ways_18 (by decide) ?_
    refine g_goto (tgt := 27) dX11_ways_19 (by decide) ?_
    refine G.lsub [] rfl ?_
    exact ok_J_X11_ways_27 Θ 0 _ _ r h
def J_X11_at_26 (Θ : GP) (l0 : Nat) (l1 : Int32) (l2 : Int32) (s0 : Int32) (s1 : Nat) (ω : OW) (n : Nat) : RO := cO ω s1 11 (kI (F_X11_throwsIf Θ s1 s0 1 ω n) (fun x1 ω n => if x1 = 0 then (cO ω l0 11 (kV (F_X11_laysRows Θ l0 l1 ω n) (fun ω n => rA ω l0 11 35 (fun a4 => lI ω (gI Θ) a4 l2 (fun x5 => some (.inl (some (.int x5), ω, n))))))) else (some (.inl (some (.int 0), ω, n)))))
def J_X11_at_21 (Θ : GP) (l0 : Nat) (l1 : Int32) (l2 : Int32) (s0 : Nat) (ω : OW) (n : Nat) : RO := J_X11_at_26 Θ l0 l1 l2 1 s0 ω n
def F_X11_at (Θ : GP) (l0 : Nat) (l1 : Int32) (l2 : Int32) (ω : OW) (n : Nat) : RO := wF ω l0 11 0 (.int 0) (fun ω => cO ω l0 11 (kI (F_X11_noOne Θ l0 l1 ω n) (fun x6 ω n => if x6 = 0 then (kI (F_X11_noSlot Θ l2 ω n) (fun x8 ω n => if x8 = 0 then (J_X11_at_26 Θ l0 l1 l2 0 l0 ω n) else (J_X11_at_21 Θ l0 l1 l2 l0 ω n))) else (J_X11_at_21 Θ l0 l1 l2 l0 ω n))))
theorem ok_J_X11_at_26 (Θ : GP) (l0 : Nat) (l1 : Int32) (l2 : Int32) (s0 : Int32) (s1 : Nat) (ω : OW) (n : Nat) (r : Out) (h : J_X11_at_26 Θ l0 l1 l2 s0 s1 ω n = some r) : GR Θ yX11_at cX11_at 3 (some .int) 9 (0, 0) 26 [(0, .ref l0), (1, .int l1), (2, .int l2)] [.int s0, .ref s1] ω n r := by
  unfold J_X11_at_26 at h
  refine g_iconst (v := 1) dX11_at_26 (by decide) ?_
  refine g_cI (ci := 11) (As := [.int s0, .int 1]) mv_X11_262 dX11_at_27 rfl (ok_X11_throwsIf Θ s1 s0 1 _ _) rfl rfl (Nat.le_of_ble_eq_true rfl) (by decide) (by decide) (by decide) h (fun x1 ω n h => ?_)
  refine G.less (B' := (0, 0)) (by decide) (by decide) ?_
  refine g_if_eq (tgt := 35) dX11_at_30 (by decide) (fun c2 => ?_) (fun c2 => ?_)
  · rw [if_pos c2] at h
    refine g_aload_n dX11_at_35 rfl 0 rfl ?_
    refine g_iload_n dX11_at_36 rfl 1 rfl ?_
    refine g_cV (ci := 11) (As := [.int l1]) mv_X11_397 dX11_at_37 rfl (ok_X11_laysRows Θ l0 l1 _ _) rfl rfl (Nat.le_of_ble_eq_true rfl) (by decide) (by decide) (by decide) h (fun ω n h => ?_)
    refine G.less (B' := (0, 0)) (by decide) (by decide) ?_
    refine g_aload_n dX11_at_40 rfl 0 rfl ?_
    refine g_rA fl_X11_57 dX11_at_41 h (fun a4 h => ?_)
    refine g_iload_n dX11_at_44 rfl 2 rfl ?_
    refine g_lIi dX11_at_45 h (fun x5 h => ?_)
    cases h
    exact g_iret rfl dX11_at_46 rfl
  · rw [if_neg c2] at h
    refine g_iconst (v := 0) dX11_at_33 (by decide) ?_
    cases h
    exact g_iret rfl dX11_at_34 rfl
theorem ok_J_X11_at_21 (Θ : GP) (l0 : Nat) (l1 : Int32) (l2 : Int32) (s0 : Nat) (ω : OW) (n : Nat) (r : Out) (h : J_X11_at_21 Θ l0 l1 l2 s0 ω n = some r) : GR Θ yX11_at cX11_at 3 (some .int) 9 (0, 0) 21 [(0, .ref l0), (1, .int l1), (2, .int l2)] [.ref s0] ω n r := by
  unfold J_X11_at_21 at h
  refine g_iconst (v := 1) dX11_at_21 (by decide) ?_
  refine g_goto (tgt := 26) dX11_at_22 (by decide) ?_
  exact ok_J_X11_at_26 Θ l0 l1 l2 1 s0 _ _ r h
theorem ok_X11_at (Θ : GP) (l0 : Nat) (l1 : Int32) (l2 : Int32) (ω : OW) (n : Nat) : Ok Θ 9 0 0 yX11_at cX11_at 3 (some .int) [.ref l0, .int l1, .int l2] ω n (F_X11_at Θ l0 l1 l2 ω n) := by
  refine Ok.of (by decide +kernel) (Nat.le_of_ble_eq_true rfl) (fun r h => ?_)
  unfold F_X11_at at h
  show GR Θ yX11_at cX11_at 3 (some .int) 9 (0, 0) 0 [(0, .ref l0), (1, .int l1), (2, .int l2)] [] ω n r
  refine g_aload_n dX11_at_0 rfl 0 rfl ?_
  refine g_iconst (v := 0) dX11_at_1 (by decide) ?_
  refine g_wF fl_X11_3 dX11_at_2 (rfl) rfl h (fun ω h => ?_)
  refine g_aload_n dX11_at_5 rfl 0 rfl ?_
  refine g_aload_n dX11_at_6 rfl 0 rfl ?_
  refine g_iload_n dX11_at_7 rfl 1 rfl ?_
  refine g_cI (ci := 11) (As := [.int l1]) mv_X11_300 dX11_at_8 rfl (ok_X11_noOne Θ l0 l1 _ _) rfl rfl (Nat.le_of_ble_eq_true rfl) (by decide) (by decide) (by decide) h (fun x6 ω n h => ?_)
  refine G.less (B' := (0, 0)) (by decide) (by decide) ?_
  refine g_if_ne (tgt := 21) dX11_at_11 (by decide) (fun c7 => ?_) (fun c7 => ?_)
  · rw [if_neg c7] at h
    exact ok_J_X11_at_21 Θ l0 l1 l2 l0 _ _ r h
  · rw [if_pos c7] at h
    refine g_iload_n dX11_at_14 rfl 2 rfl ?_
    refine g_sI (As := [.int l2]) ms_X11_297 dX11_at_15 (ok_X11_noSlot Θ l2 _ _) rfl rfl (Nat.le_of_ble_eq_true rfl) (by decide) (by decide) (by decide) h (fun x8 ω n h => ?_)
    refine G.less (B' := (0, 0)) (by decide) (by decide) ?_
    refine g_if_eq (tgt := 25) dX11_at_18 (by decide) (fun c9 => ?_) (fun c9 => ?_)
    · rw [if_pos c9] at h
      refine g_iconst (v := 0) dX11_at_25 (by decide) ?_
      exact ok_J_X11_at_26 Θ l0 l1 l2 0 l0 _ _ r h
    · rw [if_neg c9] at h
      exact ok_J_X11_at_21 Θ l0 l1 l2 l0 _ _ r h
def J_X11_odds_27 (Θ : GP) (s0 : Int32) (ω : OW) (n : Nat) : RO := some (.inl (some (.int s0), ω, n))
def F_X11_odds (Θ : GP) (l0 : Nat) (l1 : Int32) (ω : OW) (n : Nat) : RO := wF ω l0 11 0 (.int 0) (fun ω => cO ω l0 11 (kI (F_X11_noOne Θ l0 l1 ω n) (fun x1 ω n => cO ω l0 11 (kI (F_X11_throwsIf Θ l0 x1 1 ω n) (fun x2 ω n => if x2 = 0 then (cO ω l0 11 (kI (F_X11_oddsOf Θ l0 l1 ω n) (fun x4 ω n => J_X11_odds_27 Θ x4 ω n))) else (J_X11_odds_27 Θ 0 ω n))))))
theorem ok_J_X11_odds_27 (Θ : GP) (s0 : Int32) (ω : OW) (n : Nat) (r : Out) (h : J_X11_odds_27 Θ s0 ω n = some r) : GR Θ yX11_odds cX11_odds 2 (some .int) 11 (0, 0) 27 [] [.int s0] ω n r := by
  unfold J_X11_odds_27 at h
  cases h
  exact g_iret rfl dX11_odds_27 rfl
theorem ok_X11_odds (Θ : GP) (l0 : Nat) (l1 : Int32) (ω : OW) (n : Nat) : Ok Θ 11 0 0 yX11_odds cX11_odds 2 (some .int) [.ref l0, .int l1] ω n (F_X11_odds Θ l0 l1 ω n) := by
  refine Ok.of (by decide +kernel) (Nat.le_of_ble_eq_true rfl) (fun r h => ?_)
  unfold F_X11_odds at h
  show GR Θ yX11_odds cX11_odds 2 (some .int) 11 (0, 0) 0 [(0, .ref l0), (1, .int l1)] [] ω n r
  refine g_aload_n dX11_odds_0 rfl 0 rfl ?_
  refine g_iconst (v := 0) dX11_odds_1 (by decide) ?_
  refine g_wF fl_X11_3 dX11_odds_2 (rfl) rfl h (fun ω h => ?_)
  refine g_aload_n dX11_odds_5 rfl 0 rfl ?_
  refine g_aload_n dX11_odds_6 rfl 0 rfl ?_
  refine g_iload_n dX11_odds_7 rfl 1 rfl ?_
  refine g_cI (ci := 11) (As := [.int l1]) mv_X11_300 dX11_odds_8 rfl (ok_X11_noOne Θ l0 l1 _ _) rfl rfl (Nat.le_of_ble_eq_true rfl) (by decide) (by decide) (by decide) h (fun x1 ω n h => ?_)
  refine G.less (B' := (0, 0)) (by decide) (by decide) ?_
  refine g_iconst (v := 1) dX11_odds_11 (by decide) ?_
  refine g_cI (ci := 11) (As := [.int x1, .int 1]) mv_X11_262 dX11_odds_12 rfl (ok_X11_throwsIf Θ l0 x1 1 _ _) rfl rfl (Nat.le_of_ble_eq_true rfl) (by decide) (by decide) (by decide) h (fun x2 ω n h => ?_)
  refine G.less (B' := (0, 0)) (by decide) (by decide) ?_
  refine g_if_eq (tgt := 22) dX11_odds_15 (by decide) (fun c3 => ?_) (fun c3 => ?_)
  · rw [if_pos c3] at h
    refine g_aload_n dX11_odds_22 rfl 0 rfl ?_
    refine g_iload_n dX11_odds_23 rfl 1 rfl ?_
    refine g_cI (ci := 11) (As := [.int l1]) mv_X11_405 dX11_odds_24 rfl (ok_X11_oddsOf Θ l0 l1 _ _) rfl rfl (Nat.le_of_ble_eq_true rfl) (by decide) (by decide) (by decide) h (fun x4 ω n h => ?_)
    refine G.less (B' := (0, 0)) (by decide) (by decide) ?_
    refine G.lsub [] rfl ?_
    exact ok_J_X11_odds_27 Θ x4 _ _ r h
  · rw [if_neg c3] at h
    refine g_iconst (v := 0) dX11_odds_18 (by decide) ?_
    refine g_goto (tgt := 27) dX11_odds_19 (by decide) ?_
    refine G.lsub [] rfl ?_
    exact ok_J_X11_odds_27 Θ 0 _ _ r h
def J_X11_gapNow_45 (Θ : GP) (k_4 : Nat → Int32 → Int32 → OW → Nat → RO) (l0 : Nat) (l1 : Int32) (l2 : Int32) (ω : OW) (n : Nat) : RO := k_4 l0 l1 (l2 + 1) ω n
def J_X11_gapNow_43 (Θ : GP) (k_4 : Nat → Int32 → Int32 → OW → Nat → RO) (l0 : Nat) (l2 : Int32) (s0 : Int32) (s1 : Int32) (ω : OW) (n : Nat) : RO := J_X11_gapNow_45 Θ k_4 l0 (s1 + s0) l2 ω n
def B_X11_gapNow_4 (Θ : GP) (k_4 : Nat → Int32 → Int32 → OW → Nat → RO) (l0 : Nat) (l1 : Int32) (l2 : Int32) (ω : OW) (n : Nat) : RO := cO ω l0 11 (kI (F_X11_oneCount Θ l0 ω n) (fun x1 ω n => if x1 ≤ l2 then (some (.inl (some (.int l1), ω, n))) else (cO ω l0 11 (kI (F_X11_waits Θ l0 l2 ω n) (fun x3 ω n => if x3 = 0 then (J_X11_gapNow_45 Θ k_4 l0 l1 l2 ω n) else (cO ω l0 11 (kI (F_X11_isInnocent Θ l0 l2 ω n) (fun x5 ω n => if x5 = 0 then (cO ω l0 11 (kI (F_X11_oddsOf Θ l0 l2 ω n) (fun x7 ω n => J_X11_gapNow_43 Θ k_4 l0 l2 (-x7) l1 ω n))) else (cO ω l0 11 (kI (F_X11_oddsOf Θ l0 l2 ω n) (fun x8 ω n => J_X11_gapNow_43 Θ k_4 l0 l2 x8 l1 ω n)))))))))))
def L_X11_gapNow_4 (Θ : GP) : Nat → Nat → Int32 → Int32 → OW → Nat → RO
  | 0, _, _, _, _, _ => none
  | f + 1, l0, l1, l2, ω, n => B_X11_gapNow_4 Θ (L_X11_gapNow_4 Θ f) l0 l1 l2 ω n
def F_X11_gapNow (Θ : GP) (l0 : Nat) (ω : OW) (n : Nat) : RO := L_X11_gapNow_4 Θ 5000 l0 0 0 ω n
theorem ok_J_X11_gapNow_45 (Θ : GP) (k_4 : Nat → Int32 → Int32 → OW → Nat → RO) (hk_4 : ∀ l0 l1 l2 ω n r, k_4 l0 l1 l2 ω n = some r → GR Θ yX11_gapNow cX11_gapNow 3 (some .int) 11 (0, 0) 4 [(0, .ref l0), (1, .int l1), (2, .int l2)] [] ω n r) (l0 : Nat) (l1 : Int32) (l2 : Int32) (ω : OW) (n : Nat) (r : Out) (h : J_X11_gapNow_45 Θ k_4 l0 l1 l2 ω n = some r) : GR Θ yX11_gapNow cX11_gapNow 3 (some .int) 11 (0, 0) 45 [(0, .ref l0), (1, .int l1), (2, .int l2)] [] ω n r := by
  unfold J_X11_gapNow_45 at h
  refine g_iinc (j := 2) (v := l2 + 1) (lv' := [(2, .int (l2 + 1)), (0, .ref l0), (1, .int l1)]) dX11_gapNow_45 rfl rfl (by decide) rfl ?_
  refine g_goto (tgt := 4) dX11_gapNow_48 (by decide) ?_
  refine G.lsub [1, 2, 0] rfl ?_
  exact hk_4 l0 l1 (l2 + 1) _ _ r h
theorem ok_J_X11_gapNow_43 (Θ : GP) (k_4 : Nat → Int32 → Int32 → OW → Nat → RO) (hk_4 : ∀ l0 l1 l2 ω n r, k_4 l0 l1 l2 ω n = some r → GR Θ yX11_gapNow cX11_gapNow 3 (some .int) 11 (0, 0) 4 [(0, .ref l0), (1, .int l1), (2, .int l2)] [] ω n r) (l0 : Nat) (l2 : Int32) (s0 : Int32) (s1 : Int32) (ω : OW) (n : Nat) (r : Out) (h : J_X11_gapNow_43 Θ k_4 l0 l2 s0 s1 ω n = some r) : GR Θ yX11_gapNow cX11_gapNow 3 (some .int) 11 (0, 0) 43 [(0, .ref l0), (2, .int l2)] [.int s0, .int s1] ω n r := by
  unfold J_X11_gapNow_43 at h
  refine g_iadd dX11_gapNow_43 ?_
  refine g_istore_n (lv' := [(1, .int (s1 + s0)), (0, .ref l0), (2, .int l2)]) dX11_gapNow_44 rfl (by decide) rfl ?_
  refine G.lsub [1, 0, 2] rfl ?_
  exact ok_J_X11_gapNow_45 Θ k_4 hk_4 l0 (s1 + s0) l2 _ _ r h
theorem ok_B_X11_gapNow_4 (Θ : GP) (k_4 : Nat → Int32 → Int32 → OW → Nat → RO) (hk_4 : ∀ l0 l1 l2 ω n r, k_4 l0 l1 l2 ω n = some r → GR Θ yX11_gapNow cX11_gapNow 3 (some .int) 11 (0, 0) 4 [(0, .ref l0), (1, .int l1), (2, .int l2)] [] ω n r) (l0 : Nat) (l1 : Int32) (l2 : Int32) (ω : OW) (n : Nat) (r : Out) (h : B_X11_gapNow_4 Θ k_4 l0 l1 l2 ω n = some r) : GR Θ yX11_gapNow cX11_gapNow 3 (some .int) 11 (0, 0) 4 [(0, .ref l0), (1, .int l1), (2, .int l2)] [] ω n r := by
  unfold B_X11_gapNow_4 at h
  refine g_iload_n dX11_gapNow_4 rfl 2 rfl ?_
  refine g_aload_n dX11_gapNow_5 rfl 0 rfl ?_
  refine g_cI (ci := 11) (As := []) mv_X11_91 dX11_gapNow_6 rfl (ok_X11_oneCount Θ l0 _ _) rfl rfl (Nat.le_of_ble_eq_true rfl) (by decide) (by decide) (by decide) h (fun x1 ω n h => ?_)
  refine G.less (B' := (0, 0)) (by decide) (by decide) ?_
  refine g_icmp_ge (tgt := 51) dX11_gapNow_9 (by decide) (fun c2 => ?_) (fun c2 => ?_)
  · rw [if_pos c2] at h
    refine g_iload_n dX11_gapNow_51 rfl 1 rfl ?_
    cases h
    exact g_iret rfl dX11_gapNow_52 rfl
  · rw [if_neg c2] at h
    refine g_aload_n dX11_gapNow_12 rfl 0 rfl ?_
    refine g_iload_n dX11_gapNow_13 rfl 2 rfl ?_
    refine g_cI (ci := 11) (As := [.int l2]) mv_X11_355 dX11_gapNow_14 rfl (ok_X11_waits Θ l0 l2 _ _) rfl rfl (Nat.le_of_ble_eq_true rfl) (by decide) (by decide) (by decide) h (fun x3 ω n h => ?_)
    refine G.less (B' := (0, 0)) (by decide) (by decide) ?_
    refine g_if_eq (tgt := 45) dX11_gapNow_17 (by decide) (fun c4 => ?_) (fun c4 => ?_)
    · rw [if_pos c4] at h
      exact ok_J_X11_gapNow_45 Θ k_4 hk_4 l0 l1 l2 _ _ r h
    · rw [if_neg c4] at h
      refine g_iload_n dX11_gapNow_20 rfl 1 rfl ?_
      refine g_aload_n dX11_gapNow_21 rfl 0 rfl ?_
      refine g_iload_n dX11_gapNow_22 rfl 2 rfl ?_
      refine g_cI (ci := 11) (As := [.int l2]) mv_X11_408 dX11_gapNow_23 rfl (ok_X11_isInnocent Θ l0 l2 _ _) rfl rfl (Nat.le_of_ble_eq_true rfl) (by decide) (by decide) (by decide) h (fun x5 ω n h => ?_)
      refine G.less (B' := (0, 0)) (by decide) (by decide) ?_
      refine g_if_eq (tgt := 37) dX11_gapNow_26 (by decide) (fun c6 => ?_) (fun c6 => ?_)
      · rw [if_pos c6] at h
        refine g_aload_n dX11_gapNow_37 rfl 0 rfl ?_
        refine g_iload_n dX11_gapNow_38 rfl 2 rfl ?_
        refine g_cI (ci := 11) (As := [.int l2]) mv_X11_405 dX11_gapNow_39 rfl (ok_X11_oddsOf Θ l0 l2 _ _) rfl rfl (Nat.le_of_ble_eq_true rfl) (by decide) (by decide) (by decide) h (fun x7 ω n h => ?_)
        refine G.less (B' := (0, 0)) (by decide) (by decide) ?_
        refine g_ineg dX11_gapNow_42 ?_
        refine G.lsub [0, 2] rfl ?_
        exact ok_J_X11_gapNow_43 Θ k_4 hk_4 l0 l2 (-x7) l1 _ _ r h
      · rw [if_neg c6] at h
        refine g_aload_n dX11_gapNow_29 rfl 0 rfl ?_
        refine g_iload_n dX11_gapNow_30 rfl 2 rfl ?_
        refine g_cI (ci := 11) (As := [.int l2]) mv_X11_405 dX11_gapNow_31 rfl (ok_X11_oddsOf Θ l0 l2 _ _) rfl rfl (Nat.le_of_ble_eq_true rfl) (by decide) (by decide) (by decide) h (fun x8 ω n h => ?_)
        refine G.less (B' := (0, 0)) (by decide) (by decide) ?_
        refine g_goto (tgt := 43) dX11_gapNow_34 (by decide) ?_
        refine G.lsub [0, 2] rfl ?_
        exact ok_J_X11_gapNow_43 Θ k_4 hk_4 l0 l2 x8 l1 _ _ r h
theorem ok_L_X11_gapNow_4 (Θ : GP) : ∀ (f : Nat) (l0 : Nat) (l1 : Int32) (l2 : Int32) (ω : OW) (n : Nat) (r : Out), L_X11_gapNow_4 Θ f l0 l1 l2 ω n = some r → GR Θ yX11_gapNow cX11_gapNow 3 (some .int) 11 (0, 0) 4 [(0, .ref l0), (1, .int l1), (2, .int l2)] [] ω n r := by
  intro f
  induction f with
  | zero =>
    intro l0 l1 l2 ω n r h
    unfold L_X11_gapNow_4 at h
    cases h
  | succ f ih =>
    intro l0 l1 l2 ω n r h
    unfold L_X11_gapNow_4 at h
    exact ok_B_X11_gapNow_4 Θ (L_X11_gapNow_4 Θ f) ih l0 l1 l2 ω n r h
theorem ok_X11_gapNow (Θ : GP) (l0 : Nat) (ω : OW) (n : Nat) : Ok Θ 11 0 0 yX11_gapNow cX11_gapNow 3 (some .int) [.ref l0] ω n (F_X11_gapNow Θ l0 ω n) := by
  refine Ok.of (by decide +kernel) (Nat.le_of_ble_eq_true rfl) (fun r h => ?_)
  unfold F_X11_gapNow at h
  show GR Θ yX11_gapNow cX11_gapNow 3 (some .int) 11 (0, 0) 0 [(0, .ref l0)] [] ω n r
  refine g_iconst (v := 0) dX11_gapNow_0 (by decide) ?_
  refine g_istore_n (lv' := [(1, .int 0), (0, .ref l0)]) dX11_gapNow_1 rfl (by decide) rfl ?_
  refine g_iconst (v := 0) dX11_gapNow_2 (by decide) ?_
  refine g_istore_n (lv' := [(2, .int 0), (1, .int 0), (0, .ref l0)]) dX11_gapNow_3 rfl (by decide) rfl ?_
  refine G.lsub [2, 1, 0] rfl ?_
  exact ok_L_X11_gapNow_4 Θ 5000 l0 0 0 _ _ r h
def F_X11_gap (Θ : GP) (l0 : Nat) (ω : OW) (n : Nat) : RO := wF ω l0 11 0 (.int 0) (fun ω => cO ω l0 11 (kI (F_X11_gapNow Θ l0 ω n) (fun x1 ω n => some (.inl (some (.int x1), ω, n)))))
theorem ok_X11_gap (Θ : GP) (l0 : Nat) (ω : OW) (n : Nat) : Ok Θ 12 0 0 yX11_gap cX11_gap 1 (some .int) [.ref l0] ω n (F_X11_gap Θ l0 ω n) := by
  refine Ok.of (by decide +kernel) (Nat.le_of_ble_eq_true rfl) (fun r h => ?_)
  unfold F_X11_gap at h
  show GR Θ yX11_gap cX11_gap 1 (some .int) 12 (0, 0) 0 [(0, .ref l0)] [] ω n r
  refine g_aload_n dX11_gap_0 rfl 0 rfl ?_
  refine g_iconst (v := 0) dX11_gap_1 (by decide) ?_
  refine g_wF fl_X11_3 dX11_gap_2 (rfl) rfl h (fun ω h => ?_)
  refine g_aload_n dX11_gap_5 rfl 0 rfl ?_
  refine g_cI (ci := 11) (As := []) mv_X11_411 dX11_gap_6 rfl (ok_X11_gapNow Θ l0 _ _) rfl rfl (Nat.le_of_ble_eq_true rfl) (by decide) (by decide) (by decide) h (fun x1 ω n h => ?_)
  refine G.less (B' := (0, 0)) (by decide) (by decide) ?_
  cases h
  exact g_iret rfl dX11_gap_9 rfl
def J_X11_errors_62 (Θ : GP) (k_9 : Nat → Int32 → Int32 → Int32 → OW → Nat → RO) (l0 : Nat) (l1 : Int32) (l2 : Int32) (l3 : Int32) (ω : OW) (n : Nat) : RO := k_9 l0 l1 l2 (l3 + 1) ω n
def J_X11_errors_60 (Θ : GP) (k_9 : Nat → Int32 → Int32 → Int32 → OW → Nat → RO) (l0 : Nat) (l1 : Int32) (l3 : Int32) (s0 : Int32) (s1 : Int32) (ω : OW) (n : Nat) : RO := J_X11_errors_62 Θ k_9 l0 l1 (s1 + s0) l3 ω n
def J_X11_errors_51 (Θ : GP) (k_9 : Nat → Int32 → Int32 → Int32 → OW → Nat → RO) (l0 : Nat) (l1 : Int32) (l3 : Int32) (s0 : Int32) (s1 : Int32) (ω : OW) (n : Nat) : RO := if s0 = l1 then (J_X11_errors_60 Θ k_9 l0 l1 l3 1 s1 ω n) else (J_X11_errors_60 Θ k_9 l0 l1 l3 0 s1 ω n)
def B_X11_errors_9 (Θ : GP) (k_9 : Nat → Int32 → Int32 → Int32 → OW → Nat → RO) (l0 : Nat) (l1 : Int32) (l2 : Int32) (l3 : Int32) (ω : OW) (n : Nat) : RO := cO ω l0 11 (kI (F_X11_oneCount Θ l0 ω n) (fun x2 ω n => if x2 ≤ l3 then (some (.inl (some (.int l2), ω, n))) else (cO ω l0 11 (kI (F_X11_waits Θ l0 l3 ω n) (fun x4 ω n => if x4 = 0 then (J_X11_errors_62 Θ k_9 l0 l1 l2 l3 ω n) else (cO ω l0 11 (kI (F_X11_isInnocent Θ l0 l3 ω n) (fun x6 ω n => if x6 = l1 then (cO ω l0 11 (kI (F_X11_oddsOf Θ l0 l3 ω n) (fun x8 ω n => if 5000 ≤ x8 then (J_X11_errors_51 Θ k_9 l0 l1 l3 0 l2 ω n) else (J_X11_errors_51 Θ k_9 l0 l1 l3 1 l2 ω n)))) else (J_X11_errors_62 Θ k_9 l0 l1 l2 l3 ω n)))))))))
def L_X11_errors_9 (Θ : GP) : Nat → Nat → Int32 → Int32 → Int32 → OW → Nat → RO
  | 0, _, _, _, _, _, _ => none
  | f + 1, l0, l1, l2, l3, ω, n => B_X11_errors_9 Θ (L_X11_errors_9 Θ f) l0 l1 l2 l3 ω n
def F_X11_errors (Θ : GP) (l0 : Nat) (l1 : Int32) (ω : OW) (n : Nat) : RO := wF ω l0 11 0 (.int 0) (fun ω => L_X11_errors_9 Θ 5000 l0 l1 0 0 ω n)
theorem ok_J_X11_errors_62 (Θ : GP) (k_9 : Nat → Int32 → Int32 → Int32 → OW → Nat → RO) (hk_9 : ∀ l0 l1 l2 l3 ω n r, k_9 l0 l1 l2 l3 ω n = some r → GR Θ yX11_errors cX11_errors 4 (some .int) 11 (0, 0) 9 [(0, .ref l0), (1, .int l1), (2, .int l2), (3, .int l3)] [] ω n r) (l0 : Nat) (l1 : Int32) (l2 : Int32) (l3 : Int32) (ω : OW) (n : Nat) (r : Out) (h : J_X11_errors_62 Θ k_9 l0 l1 l2 l3 ω n = some r) : GR Θ yX11_errors cX11_errors 4 (some .int) 11 (0, 0) 62 [(0, .ref l0), (1, .int l1), (2, .int l2), (3, .int l3)] [] ω n r := by
  unfold J_X11_errors_62 at h
  refine g_iinc (j := 3) (v := l3 + 1) (lv' := [(3, .int (l3 + 1)), (0, .ref l0), (1, .int l1), (2, .int l2)]) dX11_errors_62 rfl rfl (by decide) rfl ?_
  refine g_goto (tgt := 9) dX11_errors_65 (by decide) ?_
  refine G.lsub [1, 2, 3, 0] rfl ?_
  exact hk_9 l0 l1 l2 (l3 + 1) _ _ r h
theorem ok_J_X11_errors_60 (Θ : GP) (k_9 : Nat → Int32 → Int32 → Int32 → OW → Nat → RO) (hk_9 : ∀ l0 l1 l2 l3 ω n r, k_9 l0 l1 l2 l3 ω n = some r → GR Θ yX11_errors cX11_errors 4 (some .int) 11 (0, 0) 9 [(0, .ref l0), (1, .int l1), (2, .int l2), (3, .int l3)] [] ω n r) (l0 : Nat) (l1 : Int32) (l3 : Int32) (s0 : Int32) (s1 : Int32) (ω : OW) (n : Nat) (r : Out) (h : J_X11_errors_60 Θ k_9 l0 l1 l3 s0 s1 ω n = some r) : GR Θ yX11_errors cX11_errors 4 (some .int) 11 (0, 0) 60 [(0, .ref l0), (1, .int l1), (3, .int l3)] [.int s0, .int s1] ω n r := by
  unfold J_X11_errors_60 at h
  refine g_iadd dX11_errors_60 ?_
  refine g_istore_n (lv' := [(2, .int (s1 + s0)), (0, .ref l0), (1, .int l1), (3, .int l3)]) dX11_errors_61 rfl (by decide) rfl ?_
  refine G.lsub [1, 2, 0, 3] rfl ?_
  exact ok_J_X11_errors_62 Θ k_9 hk_9 l0 l1 (s1 + s0) l3 _ _ r h
theorem ok_J_X11_errors_51 (Θ : GP) (k_9 : Nat → Int32 → Int32 → Int32 → OW → Nat → RO) (hk_9 : ∀ l0 l1 l2 l3 ω n r, k_9 l0 l1 l2 l3 ω n = some r → GR Θ yX11_errors cX11_errors 4 (some .int) 11 (0, 0) 9 [(0, .ref l0), (1, .int l1), (2, .int l2), (3, .int l3)] [] ω n r) (l0 : Nat) (l1 : Int32) (l3 : Int32) (s0 : Int32) (s1 : Int32) (ω : OW) (n : Nat) (r : Out) (h : J_X11_errors_51 Θ k_9 l0 l1 l3 s0 s1 ω n = some r) : GR Θ yX11_errors cX11_errors 4 (some .int) 11 (0, 0) 51 [(0, .ref l0), (1, .int l1), (3, .int l3)] [.int s0, .int s1] ω n r := by
  unfold J_X11_errors_51 at h
  refine g_iload_n dX11_errors_51 rfl 1 rfl ?_
  refine g_icmp_ne (tgt := 59) dX11_errors_52 (by decide) (fun c1 => ?_) (fun c1 => ?_)
  · rw [if_neg c1] at h
    refine g_iconst (v := 0) dX11_errors_59 (by decide) ?_
    exact ok_J_X11_errors_60 Θ k_9 hk_9 l0 l1 l3 0 s1 _ _ r h
  · rw [if_pos c1] at h
    refine g_iconst (v := 1) dX11_errors_55 (by decide) ?_
    refine g_goto (tgt := 60) dX11_errors_56 (by decide) ?_
    exact ok_J_X11_errors_60 Θ k_9 hk_9 l0 l1 l3 1 s1 _ _ r h
theorem ok_B_X11_errors_9 (Θ : GP) (k_9 : Nat → Int32 → Int32 → Int32 → OW → Nat → RO) (hk_9 : ∀ l0 l1 l2 l3 ω n r, k_9 l0 l1 l2 l3 ω n = some r → GR Θ yX11_errors cX11_errors 4 (some .int) 11 (0, 0) 9 [(0, .ref l0), (1, .int l1), (2, .int l2), (3, .int l3)] [] ω n r) (l0 : Nat) (l1 : Int32) (l2 : Int32) (l3 : Int32) (ω : OW) (n : Nat) (r : Out) (h : B_X11_errors_9 Θ k_9 l0 l1 l2 l3 ω n = some r) : GR Θ yX11_errors cX11_errors 4 (some .int) 11 (0, 0) 9 [(0, .ref l0), (1, .int l1), (2, .int l2), (3, .int l3)] [] ω n r := by
  unfold B_X11_errors_9 at h
  refine g_iload_n dX11_errors_9 rfl 3 rfl ?_
  refine g_aload_n dX11_errors_10 rfl 0 rfl ?_
  refine g_cI (ci := 11) (As := []) mv_X11_91 dX11_errors_11 rfl (ok_X11_oneCount Θ l0 _ _) rfl rfl (Nat.le_of_ble_eq_true rfl) (by decide) (by decide) (by decide) h (fun x2 ω n h => ?_)
  refine G.less (B' := (0, 0)) (by decide) (by decide) ?_
  refine g_icmp_ge (tgt := 68) dX11_errors_14 (by decide) (fun c3 => ?_) (fun c3 => ?_)
  · rw [if_pos c3] at h
    refine g_iload_n dX11_errors_68 rfl 2 rfl ?_
    cases h
    exact g_iret rfl dX11_errors_69 rfl
  · rw [if_neg c3] at h
    refine g_aload_n dX11_errors_17 rfl 0 rfl ?_
    refine g_iload_n dX11_errors_18 rfl 3 rfl ?_
    refine g_cI (ci := 11) (As := [.int l3]) mv_X11_355 dX11_errors_19 rfl (ok_X11_waits Θ l0 l3 _ _) rfl rfl (Nat.le_of_ble_eq_true rfl) (by decide) (by decide) (by decide) h (fun x4 ω n h => ?_)
    refine G.less (B' := (0, 0)) (by decide) (by decide) ?_
    refine g_if_eq (tgt := 62) dX11_errors_22 (by decide) (fun c5 => ?_) (fun c5 => ?_)
    · rw [if_pos c5] at h
      exact ok_J_X11_errors_62 Θ k_9 hk_9 l0 l1 l2 l3 _ _ r h
    · rw [if_neg c5] at h
      refine g_aload_n dX11_errors_25 rfl 0 rfl ?_
      refine g_iload_n dX11_errors_26 rfl 3 rfl ?_
      refine g_cI (ci := 11) (As := [.int l3]) mv_X11_408 dX11_errors_27 rfl (ok_X11_isInnocent Θ l0 l3 _ _) rfl rfl (Nat.le_of_ble_eq_true rfl) (by decide) (by decide) (by decide) h (fun x6 ω n h => ?_)
      refine G.less (B' := (0, 0)) (by decide) (by decide) ?_
      refine g_iload_n dX11_errors_30 rfl 1 rfl ?_
      refine g_icmp_ne (tgt := 62) dX11_errors_31 (by decide) (fun c7 => ?_) (fun c7 => ?_)
      · rw [if_neg c7] at h
        exact ok_J_X11_errors_62 Θ k_9 hk_9 l0 l1 l2 l3 _ _ r h
      · rw [if_pos c7] at h
        refine g_iload_n dX11_errors_34 rfl 2 rfl ?_
        refine g_aload_n dX11_errors_35 rfl 0 rfl ?_
        refine g_iload_n dX11_errors_36 rfl 3 rfl ?_
        refine g_cI (ci := 11) (As := [.int l3]) mv_X11_405 dX11_errors_37 rfl (ok_X11_oddsOf Θ l0 l3 _ _) rfl rfl (Nat.le_of_ble_eq_true rfl) (by decide) (by decide) (by decide) h (fun x8 ω n h => ?_)
        refine G.less (B' := (0, 0)) (by decide) (by decide) ?_
        refine g_sipush (v := 5000) dX11_errors_40 (by decide) ?_
        refine g_icmp_ge (tgt := 50) dX11_errors_43 (by decide) (fun c9 => ?_) (fun c9 => ?_)
        · rw [if_pos c9] at h
          refine g_iconst (v := 0) dX11_errors_50 (by decide) ?_
          refine G.lsub [0, 1, 3] rfl ?_
          exact ok_J_X11_errors_51 Θ k_9 hk_9 l0 l1 l3 0 l2 _ _ r h
        · rw [if_neg c9] at h
          refine g_iconst (v := 1) dX11_errors_46 (by decide) ?_
          refine g_goto (tgt := 51) dX11_errors_47 (by decide) ?_
          refine G.lsub [0, 1, 3] rfl ?_
          exact ok_J_X11_errors_51 Θ k_9 hk_9 l0 l1 l3 1 l2 _ _ r h
theorem ok_L_X11_errors_9 (Θ : GP) : ∀ (f : Nat) (l0 : Nat) (l1 : Int32) (l2 : Int32) (l3 : Int32) (ω : OW) (n : Nat) (r : Out), L_X11_errors_9 Θ f l0 l1 l2 l3 ω n = some r → GR Θ yX11_errors cX11_errors 4 (some .int) 11 (0, 0) 9 [(0, .ref l0), (1, .int l1), (2, .int l2), (3, .int l3)] [] ω n r := by
  intro f
  induction f with
  | zero =>
    intro l0 l1 l2 l3 ω n r h
    unfold L_X11_errors_9 at h
    cases h
  | succ f ih =>
    intro l0 l1 l2 l3 ω n r h
    unfold L_X11_errors_9 at h
    exact ok_B_X11_errors_9 Θ (L_X11_errors_9 Θ f) ih l0 l1 l2 l3 ω n r h
theorem ok_X11_errors (Θ : GP) (l0 : Nat) (l1 : Int32) (ω : OW) (n : Nat) : Ok Θ 11 0 0 yX11_errors cX11_errors 4 (some .int) [.ref l0, .int l1] ω n (F_X11_errors Θ l0 l1 ω n) := by
  refine Ok.of (by decide +kernel) (Nat.le_of_ble_eq_true rfl) (fun r h => ?_)
  unfold F_X11_errors at h
  show GR Θ yX11_errors cX11_errors 4 (some .int) 11 (0, 0) 0 [(0, .ref l0), (1, .int l1)] [] ω n r
  refine g_aload_n dX11_errors_0 rfl 0 rfl ?_
  refine g_iconst (v := 0) dX11_errors_1 (by decide) ?_
  refine g_wF fl_X11_3 dX11_errors_2 (rfl) rfl h (fun ω h => ?_)
  refine g_iconst (v := 0) dX11_errors_5 (by decide) ?_
  refine g_istore_n (lv' := [(2, .int 0), (0, .ref l0), (1, .int l1)]) dX11_errors_6 rfl (by decide) rfl ?_
  refine g_iconst (v := 0) dX11_errors_7 (by decide) ?_
  refine g_istore_n (lv' := [(3, .int 0), (2, .int 0), (0, .ref l0), (1, .int l1)]) dX11_errors_8 rfl (by decide) rfl ?_
  refine G.lsub [2, 3, 1, 0] rfl ?_
  exact ok_L_X11_errors_9 Θ 5000 l0 l1 0 0 _ _ r h
def J_X11_bravest_53 (Θ : GP) (k_13 : Nat → Int32 → Int32 → Int32 → OW → Nat → RO) (l0 : Nat) (l2 : Int32) (l3 : Int32) (l4 : Int32) (s0 : Int32) (ω : OW) (n : Nat) : RO := k_13 l0 s0 (if l4 < l2 then l4 else l2) (l3 + 1) ω n
def J_X11_bravest_40 (Θ : GP) (k_13 : Nat → Int32 → Int32 → Int32 → OW → Nat → RO) (l0 : Nat) (l1 : Int32) (l2 : Int32) (l3 : Int32) (s0 : Int32) (ω : OW) (n : Nat) : RO := if l2 ≤ s0 then (J_X11_bravest_53 Θ k_13 l0 l2 l3 s0 l1 ω n) else (J_X11_bravest_53 Θ k_13 l0 l2 l3 s0 l3 ω n)
def B_X11_bravest_13 (Θ : GP) (k_13 : Nat → Int32 → Int32 → Int32 → OW → Nat → RO) (l0 : Nat) (l1 : Int32) (l2 : Int32) (l3 : Int32) (ω : OW) (n : Nat) : RO := cO ω l0 11 (kI (F_X11_oneCount Θ l0 ω n) (fun x2 ω n => if x2 ≤ l3 then (some (.inl (some (.int l1), ω, n))) else (cO ω l0 11 (kI (F_X11_waits Θ l0 l3 ω n) (fun x4 ω n => if x4 = 0 then (J_X11_bravest_40 Θ k_13 l0 l1 l2 l3 100000000 ω n) else (cO ω l0 11 (kI (F_X11_oddsOf Θ l0 l3 ω n) (fun x6 ω n => J_X11_bravest_40 Θ k_13 l0 l1 l2 l3 x6 ω n))))))))
def L_X11_bravest_13 (Θ : GP) : Nat → Nat → Int32 → Int32 → Int32 → OW → Nat → RO
  | 0, _, _, _, _, _, _ => none
  | f + 1, l0, l1, l2, l3, ω, n => B_X11_bravest_13 Θ (L_X11_bravest_13 Θ f) l0 l1 l2 l3 ω n
def F_X11_bravest (Θ : GP) (l0 : Nat) (ω : OW) (n : Nat) : RO := wF ω l0 11 0 (.int 0) (fun ω => L_X11_bravest_13 Θ 5000 l0 (-1) 100000000 0 ω n)
theorem ok_J_X11_bravest_53 (Θ : GP) (k_13 : Nat → Int32 → Int32 → Int32 → OW → Nat → RO) (hk_13 : ∀ l0 l1 l2 l3 ω n r, k_13 l0 l1 l2 l3 ω n = some r → GR Θ yX11_bravest cX11_bravest 5 (some .int) 11 (0, 0) 13 [(0, .ref l0), (1, .int l1), (2, .int l2), (3, .int l3)] [] ω n r) (l0 : Nat) (l2 : Int32) (l3 : Int32) (l4 : Int32) (s0 : Int32) (ω : OW) (n : Nat) (r : Out) (h : J_X11_bravest_53 Θ k_13 l0 l2 l3 l4 s0 ω n = some r) : GR Θ yX11_bravest cX11_bravest 5 (some .int) 11 (0, 0) 53 [(0, .ref l0), (2, .int l2), (3, .int l3), (4, .int l4)] [.int s0] ω n r := by
  unfold J_X11_bravest_53 at h
  refine g_istore_n (lv' := [(1, .int s0), (0, .ref l0), (2, .int l2), (3, .int l3), (4, .int l4)]) dX11_bravest_53 rfl (by decide) rfl ?_
  refine g_iload_n dX11_bravest_54 rfl 2 rfl ?_
  refine g_iload dX11_bravest_55 4 rfl ?_
  refine g_min wd_1863 wd_617 wd_135 wd_618 dX11_bravest_57 (by decide) (Nat.le_of_ble_eq_true rfl) ?_
  refine g_istore_n (lv' := [(2, .int (if l4 < l2 then l4 else l2)), (1, .int s0), (0, .ref l0), (3, .int l3), (4, .int l4)]) dX11_bravest_60 rfl (by decide) rfl ?_
  refine g_iinc (j := 3) (v := l3 + 1) (lv' := [(3, .int (l3 + 1)), (2, .int (if l4 < l2 then l4 else l2)), (1, .int s0), (0, .ref l0), (4, .int l4)]) dX11_bravest_61 rfl rfl (by decide) rfl ?_
  refine g_goto (tgt := 13) dX11_bravest_64 (by decide) ?_
  refine G.lsub [3, 2, 1, 0] rfl ?_
  exact hk_13 l0 s0 (if l4 < l2 then l4 else l2) (l3 + 1) _ _ r h
theorem ok_J_X11_bravest_40 (Θ : GP) (k_13 : Nat → Int32 → Int32 → Int32 → OW → Nat → RO) (hk_13 : ∀ l0 l1 l2 l3 ω n r, k_13 l0 l1 l2 l3 ω n = some r → GR Θ yX11_bravest cX11_bravest 5 (some .int) 11 (0, 0) 13 [(0, .ref l0), (1, .int l1), (2, .int l2), (3, .int l3)] [] ω n r) (l0 : Nat) (l1 : Int32) (l2 : Int32) (l3 : Int32) (s0 : Int32) (ω : OW) (n : Nat) (r : Out) (h : J_X11_bravest_40 Θ k_13 l0 l1 l2 l3 s0 ω n = some r) : GR Θ yX11_bravest cX11_bravest 5 (some .int) 11 (0, 0) 40 [(0, .ref l0), (1, .int l1), (2, .int l2), (3, .int l3)] [.int s0] ω n r := by
  unfold J_X11_bravest_40 at h
  refine g_istore (lv' := [(4, .int s0), (0, .ref l0), (1, .int l1), (2, .int l2), (3, .int l3)]) dX11_bravest_40 (by decide) rfl ?_
  refine g_iload dX11_bravest_42 0 rfl ?_
  refine g_iload_n dX11_bravest_44 rfl 3 rfl ?_
  refine g_icmp_ge (tgt := 52) dX11_bravest_45 (by decide) (fun c1 => ?_) (fun c1 => ?_)
  · rw [if_pos c1] at h
    refine g_iload_n dX11_bravest_52 rfl 2 rfl ?_
    refine G.lsub [1, 3, 4, 0] rfl ?_
    exact ok_J_X11_bravest_53 Θ k_13 hk_13 l0 l2 l3 s0 l1 _ _ r h
  · rw [if_neg c1] at h
    refine g_iload_n dX11_bravest_48 rfl 4 rfl ?_
    refine g_goto (tgt := 53) dX11_bravest_49 (by decide) ?_
    refine G.lsub [1, 3, 4, 0] rfl ?_
    exact ok_J_X11_bravest_53 Θ k_13 hk_13 l0 l2 l3 s0 l3 _ _ r h
theorem ok_B_X11_bravest_13 (Θ : GP) (k_13 : Nat → Int32 → Int32 → Int32 → OW → Nat → RO) (hk_13 : ∀ l0 l1 l2 l3 ω n r, k_13 l0 l1 l2 l3 ω n = some r → GR Θ yX11_bravest cX11_bravest 5 (some .int) 11 (0, 0) 13 [(0, .ref l0), (1, .int l1), (2, .int l2), (3, .int l3)] [] ω n r) (l0 : Nat) (l1 : Int32) (l2 : Int32) (l3 : Int32) (ω : OW) (n : Nat) (r : Out) (h : B_X11_bravest_13 Θ k_13 l0 l1 l2 l3 ω n = some r) : GR Θ yX11_bravest cX11_bravest 5 (some .int) 11 (0, 0) 13 [(0, .ref l0), (1, .int l1), (2, .int l2), (3, .int l3)] [] ω n r := by
  unfold B_X11_bravest_13 at h
  refine g_iload_n dX11_bravest_13 rfl 3 rfl ?_
  refine g_aload_n dX11_bravest_14 rfl 0 rfl ?_
  refine g_cI (ci := 11) (As := []) mv_X11_91 dX11_bravest_15 rfl (ok_X11_oneCount Θ l0 _ _) rfl rfl (Nat.le_of_ble_eq_true rfl) (by decide) (by decide) (by decide) h (fun x2 ω n h => ?_)
  refine G.less (B' := (0, 0)) (by decide) (by decide) ?_
  refine g_icmp_ge (tgt := 67) dX11_bravest_18 (by decide) (fun c3 => ?_) (fun c3 => ?_)
  · rw [if_pos c3] at h
    refine g_iload_n dX11_bravest_67 rfl 1 rfl ?_
    cases h
    exact g_iret rfl dX11_bravest_68 rfl
  · rw [if_neg c3] at h
    refine g_aload_n dX11_bravest_21 rfl 0 rfl ?_
    refine g_iload_n dX11_bravest_22 rfl 3 rfl ?_
    refine g_cI (ci := 11) (As := [.int l3]) mv_X11_355 dX11_bravest_23 rfl (ok_X11_waits Θ l0 l3 _ _) rfl rfl (Nat.le_of_ble_eq_true rfl) (by decide) (by decide) (by decide) h (fun x4 ω n h => ?_)
    refine G.less (B' := (0, 0)) (by decide) (by decide) ?_
    refine g_if_eq (tgt := 37) dX11_bravest_26 (by decide) (fun c5 => ?_) (fun c5 => ?_)
    · rw [if_pos c5] at h
      refine g_ldc_w (v := 100000000) wd_2001 dX11_bravest_37 ?_
      exact ok_J_X11_bravest_40 Θ k_13 hk_13 l0 l1 l2 l3 100000000 _ _ r h
    · rw [if_neg c5] at h
      refine g_aload_n dX11_bravest_29 rfl 0 rfl ?_
      refine g_iload_n dX11_bravest_30 rfl 3 rfl ?_
      refine g_cI (ci := 11) (As := [.int l3]) mv_X11_405 dX11_bravest_31 rfl (ok_X11_oddsOf Θ l0 l3 _ _) rfl rfl (Nat.le_of_ble_eq_true rfl) (by decide) (by decide) (by decide) h (fun x6 ω n h => ?_)
      refine G.less (B' := (0, 0)) (by decide) (by decide) ?_
      refine g_goto (tgt := 40) dX11_bravest_34 (by decide) ?_
      exact ok_J_X11_bravest_40 Θ k_13 hk_13 l0 l1 l2 l3 x6 _ _ r h
theorem ok_L_X11_bravest_13 (Θ : GP) : ∀ (f : Nat) (l0 : Nat) (l1 : Int32) (l2 : Int32) (l3 : Int32) (ω : OW) (n : Nat) (r : Out), L_X11_bravest_13 Θ f l0 l1 l2 l3 ω n = some r → GR Θ yX11_bravest cX11_bravest 5 (some .int) 11 (0, 0) 13 [(0, .ref l0), (1, .int l1), (2, .int l2), (3, .int l3)] [] ω n r := by
  intro f
  induction f with
  | zero =>
    intro l0 l1 l2 l3 ω n r h
    unfold L_X11_bravest_13 at h
    cases h
  | succ f ih =>
    intro l0 l1 l2 l3 ω n r h
    unfold L_X11_bravest_13 at h
    exact ok_B_X11_bravest_13 Θ (L_X11_bravest_13 Θ f) ih l0 l1 l2 l3 ω n r h
theorem ok_X11_bravest (Θ : GP) (l0 : Nat) (ω : OW) (n : Nat) : Ok Θ 11 0 0 yX11_bravest cX11_bravest 5 (some .int) [.ref l0] ω n (F_X11_bravest Θ l0 ω n) := by
  refine Ok.of (by decide +kernel) (Nat.le_of_ble_eq_true rfl) (fun r h => ?_)
  unfold F_X11_bravest at h
  show GR Θ yX11_bravest cX11_bravest 5 (some .int) 11 (0, 0) 0 [(0, .ref l0)] [] ω n r
  refine g_aload_n dX11_bravest_0 rfl 0 rfl ?_
  refine g_iconst (v := 0) dX11_bravest_1 (by decide) ?_
  refine g_wF fl_X11_3 dX11_bravest_2 (rfl) rfl h (fun ω h => ?_)
  refine g_iconst (v := (-1)) dX11_bravest_5 (by decide) ?_
  refine g_istore_n (lv' := [(1, .int (-1)), (0, .ref l0)]) dX11_bravest_6 rfl (by decide) rfl ?_
  refine g_ldc_w (v := 100000000) wd_2001 dX11_bravest_7 ?_
  refine g_istore_n (lv' := [(2, .int 100000000), (1, .int (-1)), (0, .ref l0)]) dX11_bravest_10 rfl (by decide) rfl ?_
  refine g_iconst (v := 0) dX11_bravest_11 (by decide) ?_
  refine g_istore_n (lv' := [(3, .int 0), (2, .int 100000000), (1, .int (-1)), (0, .ref l0)]) dX11_bravest_12 rfl (by decide) rfl ?_
  refine G.lsub [3, 2, 1, 0] rfl ?_
  exact ok_L_X11_bravest_13 Θ 5000 l0 (-1) 100000000 0 _ _ r h
def J_X11_loudest_93 (Θ : GP) (k_11 : Nat → Int32 → Int32 → Int32 → OW → Nat → RO) (l0 : Nat) (l2 : Int32) (l3 : Int32) (l4 : Int32) (s0 : Int32) (ω : OW) (n : Nat) : RO := k_11 l0 s0 (if l2 < l4 then l4 else l2) (l3 + 1) ω n
def J_X11_loudest_82 (Θ : GP) (k_11 : Nat → Int32 → Int32 → Int32 → OW → Nat → RO) (l0 : Nat) (l1 : Int32) (l2 : Int32) (l3 : Int32) (l4 : Int32) (ω : OW) (n : Nat) : RO := if l4 ≤ l2 then (J_X11_loudest_93 Θ k_11 l0 l2 l3 l4 l1 ω n) else (J_X11_loudest_93 Θ k_11 l0 l2 l3 l4 l3 ω n)
def J_X11_loudest_76 (Θ : GP) (k_11 : Nat → Int32 → Int32 → Int32 → OW → Nat → RO) (k_25 : Nat → Int32 → Int32 → Int32 → Int32 → Int32 → OW → Nat → RO) (l0 : Nat) (l1 : Int32) (l2 : Int32) (l3 : Int32) (l4 : Int32) (l5 : Int32) (ω : OW) (n : Nat) : RO := k_25 l0 l1 l2 l3 l4 (l5 + 1) ω n
def B_X11_loudest_25 (Θ : GP) (k_11 : Nat → Int32 → Int32 → Int32 → OW → Nat → RO) (k_25 : Nat → Int32 → Int32 → Int32 → Int32 → Int32 → OW → Nat → RO) (l0 : Nat) (l1 : Int32) (l2 : Int32) (l3 : Int32) (l4 : Int32) (l5 : Int32) (ω : OW) (n : Nat) : RO := cO ω l0 11 (kI (F_X11_oneCount Θ l0 ω n) (fun x2 ω n => if x2 ≤ l5 then (J_X11_loudest_82 Θ k_11 l0 l1 l2 l3 l4 ω n) else (cO ω l0 11 (kI (F_X11_isNailed Θ l0 l3 ω n) (fun x4 ω n => if x4 = 0 then (J_X11_loudest_82 Θ k_11 l0 l1 l2 l3 l4 ω n) else (cO ω l0 11 (kI (F_X11_waits Θ l0 l5 ω n) (fun x6 ω n => if x6 = 0 then (J_X11_loudest_76 Θ k_11 k_25 l0 l1 l2 l3 l4 l5 ω n) else (cO ω l0 11 (kV (F_X11_laysRows Θ l0 l5 ω n) (fun ω n => rA ω l0 11 35 (fun a9 => cO ω l0 11 (kI (F_X11_ofProp Θ l0 l3 3 ω n) (fun x10 ω n => lI ω (gI Θ) a9 x10 (fun x11 => J_X11_loudest_76 Θ k_11 k_25 l0 l1 l2 l3 (l4 + x11) l5 ω n)))))))))))))))
def L_X11_loudest_25 (Θ : GP) (k_11 : Nat → Int32 → Int32 → Int32 → OW → Nat → RO) : Nat → Nat → Int32 → Int32 → Int32 → Int32 → Int32 → OW → Nat → RO
  | 0, _, _, _, _, _, _, _, _ => none
  | f + 1, l0, l1, l2, l3, l4, l5, ω, n => B_X11_loudest_25 Θ k_11 (L_X11_loudest_25 Θ k_11 f) l0 l1 l2 l3 l4 l5 ω n
def B_X11_loudest_11 (Θ : GP) (k_11 : Nat → Int32 → Int32 → Int32 → OW → Nat → RO) (l0 : Nat) (l1 : Int32) (l2 : Int32) (l3 : Int32) (ω : OW) (n : Nat) : RO := cO ω l0 11 (kI (F_X11_props Θ l0 ω n) (fun x12 ω n => if x12 ≤ l3 then (some (.inl (some (.int l1), ω, n))) else (L_X11_loudest_25 Θ k_11 5000 l0 l1 l2 l3 0 0 ω n)))
def L_X11_loudest_11 (Θ : GP) : Nat → Nat → Int32 → Int32 → Int32 → OW → Nat → RO
  | 0, _, _, _, _, _, _ => none
  | f + 1, l0, l1, l2, l3, ω, n => B_X11_loudest_11 Θ (L_X11_loudest_11 Θ f) l0 l1 l2 l3 ω n
def F_X11_loudest (Θ : GP) (l0 : Nat) (ω : OW) (n : Nat) : RO := wF ω l0 11 0 (.int 0) (fun ω => L_X11_loudest_11 Θ 5000 l0 (-1) 0 0 ω n)
theorem ok_J_X11_loudest_93 (Θ : GP) (k_11 : Nat → Int32 → Int32 → Int32 → OW → Nat → RO) (hk_11 : ∀ l0 l1 l2 l3 ω n r, k_11 l0 l1 l2 l3 ω n = some r → GR Θ yX11_loudest cX11_loudest 6 (some .int) 9 (0, 0) 11 [(0, .ref l0), (1, .int l1), (2, .int l2), (3, .int l3)] [] ω n r) (l0 : Nat) (l2 : Int32) (l3 : Int32) (l4 : Int32) (s0 : Int32) (ω : OW) (n : Nat) (r : Out) (h : J_X11_loudest_93 Θ k_11 l0 l2 l3 l4 s0 ω n = some r) : GR Θ yX11_loudest cX11_loudest 6 (some .int) 9 (0, 0) 93 [(0, .ref l0), (2, .int l2), (3, .int l3), (4, .int l4)] [.int s0] ω n r := by
  unfold J_X11_loudest_93 at h
  refine g_istore_n (lv' := [(1, .int s0), (0, .ref l0), (2, .int l2), (3, .int l3), (4, .int l4)]) dX11_loudest_93 rfl (by decide) rfl ?_
  refine g_iload_n dX11_loudest_94 rfl 2 rfl ?_
  refine g_iload dX11_loudest_95 4 rfl ?_
  refine g_max wd_1817 wd_610 wd_135 wd_611 dX11_loudest_97 (by decide) (Nat.le_of_ble_eq_true rfl) ?_
  refine g_istore_n (lv' := [(2, .int (if l2 < l4 then l4 else l2)), (1, .int s0), (0, .ref l0), (3, .int l3), (4, .int l4)]) dX11_loudest_100 rfl (by decide) rfl ?_
  refine g_iinc (j := 3) (v := l3 + 1) (lv' := [(3, .int (l3 + 1)), (2, .int (if l2 < l4 then l4 else l2)), (1, .int s0), (0, .ref l0), (4, .int l4)]) dX11_loudest_101 rfl rfl (by decide) rfl ?_
  refine g_goto (tgt := 11) dX11_loudest_104 (by decide) ?_
  refine G.lsub [3, 2, 1, 0] rfl ?_
  exact hk_11 l0 s0 (if l2 < l4 then l4 else l2) (l3 + 1) _ _ r h
theorem ok_J_X11_loudest_82 (Θ : GP) (k_11 : Nat → Int32 → Int32 → Int32 → OW → Nat → RO) (hk_11 : ∀ l0 l1 l2 l3 ω n r, k_11 l0 l1 l2 l3 ω n = some r → GR Θ yX11_loudest cX11_loudest 6 (some .int) 9 (0, 0) 11 [(0, .ref l0), (1, .int l1), (2, .int l2), (3, .int l3)] [] ω n r) (l0 : Nat) (l1 : Int32) (l2 : Int32) (l3 : Int32) (l4 : Int32) (ω : OW) (n : Nat) (r : Out) (h : J_X11_loudest_82 Θ k_11 l0 l1 l2 l3 l4 ω n = some r) : GR Θ yX11_loudest cX11_loudest 6 (some .int) 9 (0, 0) 82 [(0, .ref l0), (1, .int l1), (2, .int l2), (3, .int l3), (4, .int l4)] [] ω n r := by
  unfold J_X11_loudest_82 at h
  refine g_iload dX11_loudest_82 4 rfl ?_
  refine g_iload_n dX11_loudest_84 rfl 2 rfl ?_
  refine g_icmp_le (tgt := 92) dX11_loudest_85 (by decide) (fun c1 => ?_) (fun c1 => ?_)
  · rw [if_pos c1] at h
    refine g_iload_n dX11_loudest_92 rfl 1 rfl ?_
    refine G.lsub [0, 2, 3, 4] rfl ?_
    exact ok_J_X11_loudest_93 Θ k_11 hk_11 l0 l2 l3 l4 l1 _ _ r h
  · rw [if_neg c1] at h
    refine g_iload_n dX11_loudest_88 rfl 3 rfl ?_
    refine g_goto (tgt := 93) dX11_loudest_89 (by decide) ?_
    refine G.lsub [0, 2, 3, 4] rfl ?_
    exact ok_J_X11_loudest_93 Θ k_11 hk_11 l0 l2 l3 l4 l3 _ _ r h
theorem ok_J_X11_loudest_76 (Θ : GP) (k_11 : Nat → Int32 → Int32 → Int32 → OW → Nat → RO) (k_25 : Nat → Int32 → Int32 → Int32 → Int32 → Int32 → OW → Nat → RO) (hk_11 : ∀ l0 l1 l2 l3 ω n r, k_11 l0 l1 l2 l3 ω n = some r → GR Θ yX11_loudest cX11_loudest 6 (some .int) 9 (0, 0) 11 [(0, .ref l0), (1, .int l1), (2, .int l2), (3, .int l3)] [] ω n r) (hk_25 : ∀ l0 l1 l2 l3 l4 l5 ω n r, k_25 l0 l1 l2 l3 l4 l5 ω n = some r → GR Θ yX11_loudest cX11_loudest 6 (some .int) 9 (0, 0) 25 [(0, .ref l0), (1, .int l1), (2, .int l2), (3, .int l3), (4, .int l4), (5, .int l5)] [] ω n r) (l0 : Nat) (l1 : Int32) (l2 : Int32) (l3 : Int32) (l4 : Int32) (l5 : Int32) (ω : OW) (n : Nat) (r : Out) (h : J_X11_loudest_76 Θ k_11 k_25 l0 l1 l2 l3 l4 l5 ω n = some r) : GR Θ yX11_loudest cX11_loudest 6 (some .int) 9 (0, 0) 76 [(0, .ref l0), (1, .int l1), (2, .int l2), (3, .int l3), (4, .int l4), (5, .int l5)] [] ω n r := by
  unfold J_X11_loudest_76 at h
  refine g_iinc (j := 5) (v := l5 + 1) (lv' := [(5, .int (l5 + 1)), (0, .ref l0), (1, .int l1), (2, .int l2), (3, .int l3), (4, .int l4)]) dX11_loudest_76 rfl rfl (by decide) rfl ?_
  refine g_goto (tgt := 25) dX11_loudest_79 (by decide) ?_
  refine G.lsub [1, 2, 3, 4, 5, 0] rfl ?_
  exact hk_25 l0 l1 l2 l3 l4 (l5 + 1) _ _ r h
theorem ok_B_X11_loudest_25 (Θ : GP) (k_11 : Nat → Int32 → Int32 → Int32 → OW → Nat → RO) (k_25 : Nat → Int32 → Int32 → Int32 → Int32 → Int32 → OW → Nat → RO) (hk_11 : ∀ l0 l1 l2 l3 ω n r, k_11 l0 l1 l2 l3 ω n = some r → GR Θ yX11_loudest cX11_loudest 6 (some .int) 9 (0, 0) 11 [(0, .ref l0), (1, .int l1), (2, .int l2), (3, .int l3)] [] ω n r) (hk_25 : ∀ l0 l1 l2 l3 l4 l5 ω n r, k_25 l0 l1 l2 l3 l4 l5 ω n = some r → GR Θ yX11_loudest cX11_loudest 6 (some .int) 9 (0, 0) 25 [(0, .ref l0), (1, .int l1), (2, .int l2), (3, .int l3), (4, .int l4), (5, .int l5)] [] ω n r) (l0 : Nat) (l1 : Int32) (l2 : Int32) (l3 : Int32) (l4 : Int32) (l5 : Int32) (ω : OW) (n : Nat) (r : Out) (h : B_X11_loudest_25 Θ k_11 k_25 l0 l1 l2 l3 l4 l5 ω n = some r) : GR Θ yX11_loudest cX11_loudest 6 (some .int) 9 (0, 0) 25 [(0, .ref l0), (1, .int l1), (2, .int l2), (3, .int l3), (4, .int l4), (5, .int l5)] [] ω n r := by
  unfold B_X11_loudest_25 at h
  refine g_iload dX11_loudest_25 5 rfl ?_
  refine g_aload_n dX11_loudest_27 rfl 0 rfl ?_
  refine g_cI (ci := 11) (As := []) mv_X11_91 dX11_loudest_28 rfl (ok_X11_oneCount Θ l0 _ _) rfl rfl (Nat.le_of_ble_eq_true rfl) (by decide) (by decide) (by decide) h (fun x2 ω n h => ?_)
  refine G.less (B' := (0, 0)) (by decide) (by decide) ?_
  refine g_icmp_ge (tgt := 82) dX11_loudest_31 (by decide) (fun c3 => ?_) (fun c3 => ?_)
  · rw [if_pos c3] at h
    refine G.lsub [0, 1, 2, 3, 4] rfl ?_
    exact ok_J_X11_loudest_82 Θ k_11 hk_11 l0 l1 l2 l3 l4 _ _ r h
  · rw [if_neg c3] at h
    refine g_aload_n dX11_loudest_34 rfl 0 rfl ?_
    refine g_iload_n dX11_loudest_35 rfl 3 rfl ?_
    refine g_cI (ci := 11) (As := [.int l3]) mv_X11_94 dX11_loudest_36 rfl (ok_X11_isNailed Θ l0 l3 _ _) rfl rfl (Nat.le_of_ble_eq_true rfl) (by decide) (by decide) (by decide) h (fun x4 ω n h => ?_)
    refine G.less (B' := (0, 0)) (by decide) (by decide) ?_
    refine g_if_eq (tgt := 82) dX11_loudest_39 (by decide) (fun c5 => ?_) (fun c5 => ?_)
    · rw [if_pos c5] at h
      refine G.lsub [0, 1, 2, 3, 4] rfl ?_
      exact ok_J_X11_loudest_82 Θ k_11 hk_11 l0 l1 l2 l3 l4 _ _ r h
    · rw [if_neg c5] at h
      refine g_aload_n dX11_loudest_42 rfl 0 rfl ?_
      refine g_iload dX11_loudest_43 5 rfl ?_
      refine g_cI (ci := 11) (As := [.int l5]) mv_X11_355 dX11_loudest_45 rfl (ok_X11_waits Θ l0 l5 _ _) rfl rfl (Nat.le_of_ble_eq_true rfl) (by decide) (by decide) (by decide) h (fun x6 ω n h => ?_)
      refine G.less (B' := (0, 0)) (by decide) (by decide) ?_
      refine g_if_ne (tgt := 54) dX11_loudest_48 (by decide) (fun c7 => ?_) (fun c7 => ?_)
      · rw [if_neg c7] at h
        refine g_aload_n dX11_loudest_54 rfl 0 rfl ?_
        refine g_iload dX11_loudest_55 5 rfl ?_
        refine g_cV (ci := 11) (As := [.int l5]) mv_X11_397 dX11_loudest_57 rfl (ok_X11_laysRows Θ l0 l5 _ _) rfl rfl (Nat.le_of_ble_eq_true rfl) (by decide) (by decide) (by decide) h (fun ω n h => ?_)
        refine G.less (B' := (0, 0)) (by decide) (by decide) ?_
        refine g_iload dX11_loudest_60 4 rfl ?_
        refine g_aload_n dX11_loudest_62 rfl 0 rfl ?_
        refine g_rA fl_X11_57 dX11_loudest_63 h (fun a9 h => ?_)
        refine g_aload_n dX11_loudest_66 rfl 0 rfl ?_
        refine g_iload_n dX11_loudest_67 rfl 3 rfl ?_
        refine g_iconst (v := 3) dX11_loudest_68 (by decide) ?_
        refine g_cI (ci := 11) (As := [.int l3, .int 3]) mv_X11_74 dX11_loudest_69 rfl (ok_X11_ofProp Θ l0 l3 3 _ _) rfl rfl (Nat.le_of_ble_eq_true rfl) (by decide) (by decide) (by decide) h (fun x10 ω n h => ?_)
        refine G.less (B' := (0, 0)) (by decide) (by decide) ?_
        refine g_lIi dX11_loudest_72 h (fun x11 h => ?_)
        refine g_iadd dX11_loudest_73 ?_
        refine g_istore (lv' := [(4, .int (l4 + x11)), (0, .ref l0), (1, .int l1), (2, .int l2), (3, .int l3), (5, .int l5)]) dX11_loudest_74 (by decide) rfl ?_
        refine G.lsub [1, 2, 3, 4, 0, 5] rfl ?_
        exact ok_J_X11_loudest_76 Θ k_11 k_25 hk_11 hk_25 l0 l1 l2 l3 (l4 + x11) l5 _ _ r h
      · rw [if_pos c7] at h
        refine g_goto (tgt := 76) dX11_loudest_51 (by decide) ?_
        exact ok_J_X11_loudest_76 Θ k_11 k_25 hk_11 hk_25 l0 l1 l2 l3 l4 l5 _ _ r h
theorem ok_L_X11_loudest_25 (Θ : GP) (k_11 : Nat → Int32 → Int32 → Int32 → OW → Nat → RO) (hk_11 : ∀ l0 l1 l2 l3 ω n r, k_11 l0 l1 l2 l3 ω n = some r → GR Θ yX11_loudest cX11_loudest 6 (some .int) 9 (0, 0) 11 [(0, .ref l0), (1, .int l1), (2, .int l2), (3, .int l3)] [] ω n r) : ∀ (f : Nat) (l0 : Nat) (l1 : Int32) (l2 : Int32) (l3 : Int32) (l4 : Int32) (l5 : Int32) (ω : OW) (n : Nat) (r : Out), L_X11_loudest_25 Θ k_11 f l0 l1 l2 l3 l4 l5 ω n = some r → GR Θ yX11_loudest cX11_loudest 6 (some .int) 9 (0, 0) 25 [(0, .ref l0), (1, .int l1), (2, .int l2), (3, .int l3), (4, .int l4), (5, .int l5)] [] ω n r := by
  intro f
  induction f with
  | zero =>
    intro l0 l1 l2 l3 l4 l5 ω n r h
    unfold L_X11_loudest_25 at h
    cases h
  | succ f ih =>
    intro l0 l1 l2 l3 l4 l5 ω n r h
    unfold L_X11_loudest_25 at h
    exact ok_B_X11_loudest_25 Θ k_11 (L_X11_loudest_25 Θ k_11 f) hk_11 ih l0 l1 l2 l3 l4 l5 ω n r h
theorem ok_B_X11_loudest_11 (Θ : GP) (k_11 : Nat → Int32 → Int32 → Int32 → OW → Nat → RO) (hk_11 : ∀ l0 l1 l2 l3 ω n r, k_11 l0 l1 l2 l3 ω n = some r → GR Θ yX11_loudest cX11_loudest 6 (some .int) 9 (0, 0) 11 [(0, .ref l0), (1, .int l1), (2, .int l2), (3, .int l3)] [] ω n r) (l0 : Nat) (l1 : Int32) (l2 : Int32) (l3 : Int32) (ω : OW) (n : Nat) (r : Out) (h : B_X11_loudest_11 Θ k_11 l0 l1 l2 l3 ω n = some r) : GR Θ yX11_loudest cX11_loudest 6 (some .int) 9 (0, 0) 11 [(0, .ref l0), (1, .int l1), (2, .int l2), (3, .int l3)] [] ω n r := by
  unfold B_X11_loudest_11 at h
  refine g_iload_n dX11_loudest_11 rfl 3 rfl ?_
  refine g_aload_n dX11_loudest_12 rfl 0 rfl ?_
  refine g_cI (ci := 11) (As := []) mv_X11_83 dX11_loudest_13 rfl (ok_X11_props Θ l0 _ _) rfl rfl (Nat.le_of_ble_eq_true rfl) (by decide) (by decide) (by decide) h (fun x12 ω n h => ?_)
  refine G.less (B' := (0, 0)) (by decide) (by decide) ?_
  refine g_icmp_ge (tgt := 107) dX11_loudest_16 (by decide) (fun c13 => ?_) (fun c13 => ?_)
  · rw [if_pos c13] at h
    refine g_iload_n dX11_loudest_107 rfl 1 rfl ?_
    cases h
    exact g_iret rfl dX11_loudest_108 rfl
  · rw [if_neg c13] at h
    refine g_iconst (v := 0) dX11_loudest_19 (by decide) ?_
    refine g_istore (lv' := [(4, .int 0), (0, .ref l0), (1, .int l1), (2, .int l2), (3, .int l3)]) dX11_loudest_20 (by decide) rfl ?_
    refine g_iconst (v := 0) dX11_loudest_22 (by decide) ?_
    refine g_istore (lv' := [(5, .int 0), (4, .int 0), (0, .ref l0), (1, .int l1), (2, .int l2), (3, .int l3)]) dX11_loudest_23 (by decide) rfl ?_
    refine G.lsub [2, 3, 4, 5, 1, 0] rfl ?_
    exact ok_L_X11_loudest_25 Θ k_11 hk_11 5000 l0 l1 l2 l3 0 0 _ _ r h
theorem ok_L_X11_loudest_11 (Θ : GP) : ∀ (f : Nat) (l0 : Nat) (l1 : Int32) (l2 : Int32) (l3 : Int32) (ω : OW) (n : Nat) (r : Out), L_X11_loudest_11 Θ f l0 l1 l2 l3 ω n = some r → GR Θ yX11_loudest cX11_loudest 6 (some .int) 9 (0, 0) 11 [(0, .ref l0), (1, .int l1), (2, .int l2), (3, .int l3)] [] ω n r := by
  intro f
  induction f with
  | zero =>
    intro l0 l1 l2 l3 ω n r h
    unfold L_X11_loudest_11 at h
    cases h
  | succ f ih =>
    intro l0 l1 l2 l3 ω n r h
    unfold L_X11_loudest_11 at h
    exact ok_B_X11_loudest_11 Θ (L_X11_loudest_11 Θ f) ih l0 l1 l2 l3 ω n r h
theorem ok_X11_loudest (Θ : GP) (l0 : Nat) (ω : OW) (n : Nat) : Ok Θ 9 0 0 yX11_loudest cX11_loudest 6 (some .int) [.ref l0] ω n (F_X11_loudest Θ l0 ω n) := by
  refine Ok.of (by decide +kernel) (Nat.le_of_ble_eq_true rfl) (fun r h => ?_)
  unfold F_X11_loudest at h
  show GR Θ yX11_loudest cX11_loudest 6 (some .int) 9 (0, 0) 0 [(0, .ref l0)] [] ω n r
  refine g_aload_n dX11_loudest_0 rfl 0 rfl ?_
  refine g_iconst (v := 0) dX11_loudest_1 (by decide) ?_
  refine g_wF fl_X11_3 dX11_loudest_2 (rfl) rfl h (fun ω h => ?_)
  refine g_iconst (v := (-1)) dX11_loudest_5 (by decide) ?_
  refine g_istore_n (lv' := [(1, .int (-1)), (0, .ref l0)]) dX11_loudest_6 rfl (by decide) rfl ?_
  refine g_iconst (v := 0) dX11_loudest_7 (by decide) ?_
  refine g_istore_n (lv' := [(2, .int 0), (1, .int (-1)), (0, .ref l0)]) dX11_loudest_8 rfl (by decide) rfl ?_
  refine g_iconst (v := 0) dX11_loudest_9 (by decide) ?_
  refine g_istore_n (lv' := [(3, .int 0), (2, .int 0), (1, .int (-1)), (0, .ref l0)]) dX11_loudest_10 rfl (by decide) rfl ?_
  refine G.lsub [3, 2, 1, 0] rfl ?_
  exact ok_L_X11_loudest_11 Θ 5000 l0 (-1) 0 0 _ _ r h
def J_X11_changes_47 (Θ : GP) (ω : OW) (n : Nat) : RO := some (.inl (none, ω, n))
def J_X11_changes_29 (Θ : GP) (l0 : Nat) (l1 : Int32) (l4 : Int32) (ω : OW) (n : Nat) : RO := if l4 = (-1) then (J_X11_changes_47 Θ ω n) else (rA ω l0 11 1 (fun a2 => kI (F_X11_propAt Θ l4 3 ω n) (fun x3 ω n => sI ω (gI Θ) a2 x3 l1 (fun ω => J_X11_changes_47 Θ ω n))))
def F_X11_changes (Θ : GP) (l0 : Nat) (l1 : Int32) (l2 : Int32) (ω : OW) (n : Nat) : RO := cO ω l0 11 (kI (F_X11_propIn Θ l0 l1 ω n) (fun x4 ω n => cO ω l0 11 (kI (F_X11_propIn Θ l0 l2 ω n) (fun x5 ω n => if x4 = (-1) then (J_X11_changes_29 Θ l0 l1 x5 ω n) else (rA ω l0 11 1 (fun a7 => kI (F_X11_propAt Θ x4 3 ω n) (fun x8 ω n => sI ω (gI Θ) a7 x8 l2 (fun ω => J_X11_changes_29 Θ l0 l1 x5 ω n))))))))
theorem ok_J_X11_changes_47 (Θ : GP) (ω : OW) (n : Nat) (r : Out) (h : J_X11_changes_47 Θ ω n = some r) : GR Θ yX11_changes cX11_changes 5 (none : Option Jvm.ClassFile.FieldType) 4 (0, 0) 47 [] [] ω n r := by
  unfold J_X11_changes_47 at h
  cases h
  exact g_vret rfl dX11_changes_47 rfl
theorem ok_J_X11_changes_29 (Θ : GP) (l0 : Nat) (l1 : Int32) (l4 : Int32) (ω : OW) (n : Nat) (r : Out) (h : J_X11_changes_29 Θ l0 l1 l4 ω n = some r) : GR Θ yX11_changes cX11_changes 5 (none : Option Jvm.ClassFile.FieldType) 4 (0, 0) 29 [(0, .ref l0), (1, .int l1), (4, .int l4)] [] ω n r := by
  unfold J_X11_changes_29 at h
  refine g_iload dX11_changes_29 2 rfl ?_
  refine g_iconst (v := (-1)) dX11_changes_31 (by decide) ?_
  refine g_icmp_eq (tgt := 47) dX11_changes_32 (by decide) (fun c1 => ?_) (fun c1 => ?_)
  · rw [if_pos c1] at h
    refine G.lsub [] rfl ?_
    exact ok_J_X11_changes_47 Θ _ _ r h
  · rw [if_neg c1] at h
    refine g_aload_n dX11_changes_35 rfl 0 rfl ?_
    refine g_rA fl_X11_13 dX11_changes_36 h (fun a2 h => ?_)
    refine g_iload dX11_changes_39 2 rfl ?_
    refine g_iconst (v := 3) dX11_changes_41 (by decide) ?_
    refine g_sI (As := [.int l4, .int 3]) ms_X11_70 dX11_changes_42 (ok_X11_propAt Θ l4 3 _ _) rfl rfl (Nat.le_of_ble_eq_true rfl) (by decide) (by decide) (by decide) h (fun x3 ω n h => ?_)
    refine G.less (B' := (0, 0)) (by decide) (by decide) ?_
    refine g_iload_n dX11_changes_45 rfl 1 rfl ?_
    refine g_sIi dX11_changes_46 h (fun ω h => ?_)
    refine G.lsub [] rfl ?_
    exact ok_J_X11_changes_47 Θ _ _ r h
theorem ok_X11_changes (Θ : GP) (l0 : Nat) (l1 : Int32) (l2 : Int32) (ω : OW) (n : Nat) : Ok Θ 4 0 0 yX11_changes cX11_changes 5 (none : Option Jvm.ClassFile.FieldType) [.ref l0, .int l1, .int l2] ω n (F_X11_changes Θ l0 l1 l2 ω n) := by
  refine Ok.of (by decide +kernel) (Nat.le_of_ble_eq_true rfl) (fun r h => ?_)
  unfold F_X11_changes at h
  show GR Θ yX11_changes cX11_changes 5 (none : Option Jvm.ClassFile.FieldType) 4 (0, 0) 0 [(0, .ref l0), (1, .int l1), (2, .int l2)] [] ω n r
  refine g_aload_n dX11_changes_0 rfl 0 rfl ?_
  refine g_iload_n dX11_changes_1 rfl 1 rfl ?_
  refine g_cI (ci := 11) (As := [.int l1]) mv_X11_160 dX11_changes_2 rfl (ok_X11_propIn Θ l0 l1 _ _) rfl rfl (Nat.le_of_ble_eq_true rfl) (by decide) (by decide) (by decide) h (fun x4 ω n h => ?_)
  refine G.less (B' := (0, 0)) (by decide) (by decide) ?_
  refine g_istore_n (lv' := [(3, .int x4), (0, .ref l0), (1, .int l1), (2, .int l2)]) dX11_changes_5 rfl (by decide) rfl ?_
  refine g_aload_n dX11_changes_6 rfl 1 rfl ?_
  refine g_iload_n dX11_changes_7 rfl 3 rfl ?_
  refine g_cI (ci := 11) (As := [.int l2]) mv_X11_160 dX11_changes_8 rfl (ok_X11_propIn Θ l0 l2 _ _) rfl rfl (Nat.le_of_ble_eq_true rfl) (by decide) (by decide) (by decide) h (fun x5 ω n h => ?_)
  refine G.less (B' := (0, 0)) (by decide) (by decide) ?_
  refine g_istore (lv' := [(4, .int x5), (3, .int x4), (0, .ref l0), (1, .int l1), (2, .int l2)]) dX11_changes_11 (by decide) rfl ?_
  refine g_iload_n dX11_changes_13 rfl 1 rfl ?_
  refine g_iconst (v := (-1)) dX11_changes_14 (by decide) ?_
  refine g_icmp_eq (tgt := 29) dX11_changes_15 (by decide) (fun c6 => ?_) (fun c6 => ?_)
  · rw [if_pos c6] at h
    refine G.lsub [2, 3, 0] rfl ?_
    exact ok_J_X11_changes_29 Θ l0 l1 x5 _ _ r h
  · rw [if_neg c6] at h
    refine g_aload_n dX11_changes_18 rfl 2 rfl ?_
    refine g_rA fl_X11_13 dX11_changes_19 h (fun a7 h => ?_)
    refine g_iload_n dX11_changes_22 rfl 1 rfl ?_
    refine g_iconst (v := 3) dX11_changes_23 (by decide) ?_
    refine g_sI (As := [.int x4, .int 3]) ms_X11_70 dX11_changes_24 (ok_X11_propAt Θ x4 3 _ _) rfl rfl (Nat.le_of_ble_eq_true rfl) (by decide) (by decide) (by decide) h (fun x8 ω n h => ?_)
    refine G.less (B' := (0, 0)) (by decide) (by decide) ?_
    refine g_iload_n dX11_changes_27 rfl 4 rfl ?_
    refine g_sIi dX11_changes_28 h (fun ω h => ?_)
    refine G.lsub [2, 3, 0] rfl ?_
    exact ok_J_X11_changes_29 Θ l0 l1 x5 _ _ r h
def J_X11_swap_69 (Θ : GP) (k_14 : Nat → Int32 → Int32 → Int32 → OW → Nat → RO) (k_25 : Nat → Int32 → Int32 → Int32 → Int32 → OW → Nat → RO) (l0 : Nat) (l2 : Int32) (l3 : Int32) (l4 : Int32) (l5 : Int32) (s0 : Int32) (ω : OW) (n : Nat) : RO := k_25 l0 s0 (if l2 < l5 then l5 else l2) l3 (l4 + 1) ω n
def B_X11_swap_25 (Θ : GP) (k_14 : Nat → Int32 → Int32 → Int32 → OW → Nat → RO) (k_25 : Nat → Int32 → Int32 → Int32 → Int32 → OW → Nat → RO) (l0 : Nat) (l1 : Int32) (l2 : Int32) (l3 : Int32) (l4 : Int32) (ω : OW) (n : Nat) : RO := if 10 ≤ l4 then (k_14 l0 l1 l2 (l3 + 1) ω n) else (cO ω l0 11 (kV (F_X11_changes Θ l0 l3 l4 ω n) (fun ω n => cO ω l0 11 (kI (F_X11_gapNow Θ l0 ω n) (fun x3 ω n => cO ω l0 11 (kV (F_X11_changes Θ l0 l3 l4 ω n) (fun ω n => if x3 ≤ l2 then (J_X11_swap_69 Θ k_14 k_25 l0 l2 l3 l4 x3 l1 ω n) else (J_X11_swap_69 Θ k_14 k_25 l0 l2 l3 l4 x3 ((10 * l3) + l4) ω n))))))))
def L_X11_swap_25 (Θ : GP) (k_14 : Nat → Int32 → Int32 → Int32 → OW → Nat → RO) : Nat → Nat → Int32 → Int32 → Int32 → Int32 → OW → Nat → RO
  | 0, _, _, _, _, _, _, _ => none
  | f + 1, l0, l1, l2, l3, l4, ω, n => B_X11_swap_25 Θ k_14 (L_X11_swap_25 Θ k_14 f) l0 l1 l2 l3 l4 ω n
def B_X11_swap_14 (Θ : GP) (k_14 : Nat → Int32 → Int32 → Int32 → OW → Nat → RO) (l0 : Nat) (l1 : Int32) (l2 : Int32) (l3 : Int32) (ω : OW) (n : Nat) : RO := if 10 ≤ l3 then (some (.inl (some (.int l1), ω, n))) else (L_X11_swap_25 Θ k_14 5000 l0 l1 l2 l3 (l3 + 1) ω n)
def L_X11_swap_14 (Θ : GP) : Nat → Nat → Int32 → Int32 → Int32 → OW → Nat → RO
  | 0, _, _, _, _, _, _ => none
  | f + 1, l0, l1, l2, l3, ω, n => B_X11_swap_14 Θ (L_X11_swap_14 Θ f) l0 l1 l2 l3 ω n
def F_X11_swap (Θ : GP) (l0 : Nat) (ω : OW) (n : Nat) : RO := wF ω l0 11 0 (.int 0) (fun ω => cO ω l0 11 (kI (F_X11_gapNow Θ l0 ω n) (fun x7 ω n => L_X11_swap_14 Θ 5000 l0 (-1) x7 0 ω n)))
theorem ok_J_X11_swap_69 (Θ : GP) (k_14 : Nat → Int32 → Int32 → Int32 → OW → Nat → RO) (k_25 : Nat → Int32 → Int32 → Int32 → Int32 → OW → Nat → RO) (hk_14 : ∀ l0 l1 l2 l3 ω n r, k_14 l0 l1 l2 l3 ω n = some r → GR Θ yX11_swap cX11_swap 6 (some .int) 12 (0, 0) 14 [(0, .ref l0), (1, .int l1), (2, .int l2), (3, .int l3)] [] ω n r) (hk_25 : ∀ l0 l1 l2 l3 l4 ω n r, k_25 l0 l1 l2 l3 l4 ω n = some r → GR Θ yX11_swap cX11_swap 6 (some .int) 12 (0, 0) 25 [(0, .ref l0), (1, .int l1), (2, .int l2), (3, .int l3), (4, .int l4)] [] ω n r) (l0 : Nat) (l2 : Int32) (l3 : Int32) (l4 : Int32) (l5 : Int32) (s0 : Int32) (ω : OW) (n : Nat) (r : Out) (h : J_X11_swap_69 Θ k_14 k_25 l0 l2 l3 l4 l5 s0 ω n = some r) : GR Θ yX11_swap cX11_swap 6 (some .int) 12 (0, 0) 69 [(0, .ref l0), (2, .int l2), (3, .int l3), (4, .int l4), (5, .int l5)] [.int s0] ω n r := by
  unfold J_X11_swap_69 at h
  refine g_istore_n (lv' := [(1, .int s0), (0, .ref l0), (2, .int l2), (3, .int l3), (4, .int l4), (5, .int l5)]) dX11_swap_69 rfl (by decide) rfl ?_
  refine g_iload_n dX11_swap_70 rfl 2 rfl ?_
  refine g_iload dX11_swap_71 5 rfl ?_
  refine g_max wd_1817 wd_610 wd_135 wd_611 dX11_swap_73 (by decide) (Nat.le_of_ble_eq_true rfl) ?_
  refine g_istore_n (lv' := [(2, .int (if l2 < l5 then l5 else l2)), (1, .int s0), (0, .ref l0), (3, .int l3), (4, .int l4), (5, .int l5)]) dX11_swap_76 rfl (by decide) rfl ?_
  refine g_iinc (j := 4) (v := l4 + 1) (lv' := [(4, .int (l4 + 1)), (2, .int (if l2 < l5 then l5 else l2)), (1, .int s0), (0, .ref l0), (3, .int l3), (5, .int l5)]) dX11_swap_77 rfl rfl (by decide) rfl ?_
  refine g_goto (tgt := 25) dX11_swap_80 (by decide) ?_
  refine G.lsub [3, 2, 1, 4, 0] rfl ?_
  exact hk_25 l0 s0 (if l2 < l5 then l5 else l2) l3 (l4 + 1) _ _ r h
theorem ok_B_X11_swap_25 (Θ : GP) (k_14 : Nat → Int32 → Int32 → Int32 → OW → Nat → RO) (k_25 : Nat → Int32 → Int32 → Int32 → Int32 → OW → Nat → RO) (hk_14 : ∀ l0 l1 l2 l3 ω n r, k_14 l0 l1 l2 l3 ω n = some r → GR Θ yX11_swap cX11_swap 6 (some .int) 12 (0, 0) 14 [(0, .ref l0), (1, .int l1), (2, .int l2), (3, .int l3)] [] ω n r) (hk_25 : ∀ l0 l1 l2 l3 l4 ω n r, k_25 l0 l1 l2 l3 l4 ω n = some r → GR Θ yX11_swap cX11_swap 6 (some .int) 12 (0, 0) 25 [(0, .ref l0), (1, .int l1), (2, .int l2), (3, .int l3), (4, .int l4)] [] ω n r) (l0 : Nat) (l1 : Int32) (l2 : Int32) (l3 : Int32) (l4 : Int32) (ω : OW) (n : Nat) (r : Out) (h : B_X11_swap_25 Θ k_14 k_25 l0 l1 l2 l3 l4 ω n = some r) : GR Θ yX11_swap cX11_swap 6 (some .int) 12 (0, 0) 25 [(0, .ref l0), (1, .int l1), (2, .int l2), (3, .int l3), (4, .int l4)] [] ω n r := by
  unfold B_X11_swap_25 at h
  refine g_iload dX11_swap_25 4 rfl ?_
  refine g_bipush (v := 10) dX11_swap_27 (by decide) ?_
  refine g_icmp_ge (tgt := 83) dX11_swap_29 (by decide) (fun c1 => ?_) (fun c1 => ?_)
  · rw [if_pos c1] at h
    refine g_iinc (j := 3) (v := l3 + 1) (lv' := [(3, .int (l3 + 1)), (0, .ref l0), (1, .int l1), (2, .int l2), (4, .int l4)]) dX11_swap_83 rfl rfl (by decide) rfl ?_
    refine g_goto (tgt := 14) dX11_swap_86 (by decide) ?_
    refine G.lsub [1, 2, 3, 0] rfl ?_
    exact hk_14 l0 l1 l2 (l3 + 1) _ _ r h
  · rw [if_neg c1] at h
    refine g_aload_n dX11_swap_32 rfl 0 rfl ?_
    refine g_iload_n dX11_swap_33 rfl 3 rfl ?_
    refine g_iload dX11_swap_34 4 rfl ?_
    refine g_cV (ci := 11) (As := [.int l3, .int l4]) mv_X11_415 dX11_swap_36 rfl (ok_X11_changes Θ l0 l3 l4 _ _) rfl rfl (Nat.le_of_ble_eq_true rfl) (by decide) (by decide) (by decide) h (fun ω n h => ?_)
    refine G.less (B' := (0, 0)) (by decide) (by decide) ?_
    refine g_aload_n dX11_swap_39 rfl 0 rfl ?_
    refine g_cI (ci := 11) (As := []) mv_X11_411 dX11_swap_40 rfl (ok_X11_gapNow Θ l0 _ _) rfl rfl (Nat.le_of_ble_eq_true rfl) (by decide) (by decide) (by decide) h (fun x3 ω n h => ?_)
    refine G.less (B' := (0, 0)) (by decide) (by decide) ?_
    refine g_istore (lv' := [(5, .int x3), (0, .ref l0), (1, .int l1), (2, .int l2), (3, .int l3), (4, .int l4)]) dX11_swap_43 (by decide) rfl ?_
    refine g_aload_n dX11_swap_45 rfl 1 rfl ?_
    refine g_iload_n dX11_swap_46 rfl 4 rfl ?_
    refine g_iload dX11_swap_47 5 rfl ?_
    refine g_cV (ci := 11) (As := [.int l3, .int l4]) mv_X11_415 dX11_swap_49 rfl (ok_X11_changes Θ l0 l3 l4 _ _) rfl rfl (Nat.le_of_ble_eq_true rfl) (by decide) (by decide) (by decide) h (fun ω n h => ?_)
    refine G.less (B' := (0, 0)) (by decide) (by decide) ?_
    refine g_iload dX11_swap_52 0 rfl ?_
    refine g_iload_n dX11_swap_54 rfl 3 rfl ?_
    refine g_icmp_le (tgt := 68) dX11_swap_55 (by decide) (fun c5 => ?_) (fun c5 => ?_)
    · rw [if_pos c5] at h
      refine g_iload_n dX11_swap_68 rfl 2 rfl ?_
      refine G.lsub [1, 3, 4, 5, 0] rfl ?_
      exact ok_J_X11_swap_69 Θ k_14 k_25 hk_14 hk_25 l0 l2 l3 l4 x3 l1 _ _ r h
    · rw [if_neg c5] at h
      refine g_bipush (v := 10) dX11_swap_58 (by decide) ?_
      refine g_iload_n dX11_swap_60 rfl 4 rfl ?_
      refine g_imul dX11_swap_61 ?_
      refine g_iload dX11_swap_62 5 rfl ?_
      refine g_iadd dX11_swap_64 ?_
      refine g_goto (tgt := 69) dX11_swap_65 (by decide) ?_
      refine G.lsub [1, 3, 4, 5, 0] rfl ?_
      exact ok_J_X11_swap_69 Θ k_14 k_25 hk_14 hk_25 l0 l2 l3 l4 x3 ((10 * l3) + l4) _ _ r h
theorem ok_L_X11_swap_25 (Θ : GP) (k_14 : Nat → Int32 → Int32 → Int32 → OW → Nat → RO) (hk_14 : ∀ l0 l1 l2 l3 ω n r, k_14 l0 l1 l2 l3 ω n = some r → GR Θ yX11_swap cX11_swap 6 (some .int) 12 (0, 0) 14 [(0, .ref l0), (1, .int l1), (2, .int l2), (3, .int l3)] [] ω n r) : ∀ (f : Nat) (l0 : Nat) (l1 : Int32) (l2 : Int32) (l3 : Int32) (l4 : Int32) (ω : OW) (n : Nat) (r : Out), L_X11_swap_25 Θ k_14 f l0 l1 l2 l3 l4 ω n = some r → GR Θ yX11_swap cX11_swap 6 (some .int) 12 (0, 0) 25 [(0, .ref l0), (1, .int l1), (2, .int l2), (3, .int l3), (4, .int l4)] [] ω n r := by
  intro f
  induction f with
  | zero =>
    intro l0 l1 l2 l3 l4 ω n r h
    unfold L_X11_swap_25 at h
    cases h
  | succ f ih =>
    intro l0 l1 l2 l3 l4 ω n r h
    unfold L_X11_swap_25 at h
    exact ok_B_X11_swap_25 Θ k_14 (L_X11_swap_25 Θ k_14 f) hk_14 ih l0 l1 l2 l3 l4 ω n r h
theorem ok_B_X11_swap_14 (Θ : GP) (k_14 : Nat → Int32 → Int32 → Int32 → OW → Nat → RO) (hk_14 : ∀ l0 l1 l2 l3 ω n r, k_14 l0 l1 l2 l3 ω n = some r → GR Θ yX11_swap cX11_swap 6 (some .int) 12 (0, 0) 14 [(0, .ref l0), (1, .int l1), (2, .int l2), (3, .int l3)] [] ω n r) (l0 : Nat) (l1 : Int32) (l2 : Int32) (l3 : Int32) (ω : OW) (n : Nat) (r : Out) (h : B_X11_swap_14 Θ k_14 l0 l1 l2 l3 ω n = some r) : GR Θ yX11_swap cX11_swap 6 (some .int) 12 (0, 0) 14 [(0, .ref l0), (1, .int l1), (2, .int l2), (3, .int l3)] [] ω n r := by
  unfold B_X11_swap_14 at h
  refine g_iload_n dX11_swap_14 rfl 3 rfl ?_
  refine g_bipush (v := 10) dX11_swap_15 (by decide) ?_
  refine g_icmp_ge (tgt := 89) dX11_swap_17 (by decide) (fun c6 => ?_) (fun c6 => ?_)
  · rw [if_pos c6] at h
    refine g_iload_n dX11_swap_89 rfl 1 rfl ?_
    cases h
    exact g_iret rfl dX11_swap_90 rfl
  · rw [if_neg c6] at h
    refine g_iload_n dX11_swap_20 rfl 3 rfl ?_
    refine g_iconst (v := 1) dX11_swap_21 (by decide) ?_
    refine g_iadd dX11_swap_22 ?_
    refine g_istore (lv' := [(4, .int (l3 + 1)), (0, .ref l0), (1, .int l1), (2, .int l2), (3, .int l3)]) dX11_swap_23 (by decide) rfl ?_
    refine G.lsub [1, 2, 3, 4, 0] rfl ?_
    exact ok_L_X11_swap_25 Θ k_14 hk_14 5000 l0 l1 l2 l3 (l3 + 1) _ _ r h
theorem ok_L_X11_swap_14 (Θ : GP) : ∀ (f : Nat) (l0 : Nat) (l1 : Int32) (l2 : Int32) (l3 : Int32) (ω : OW) (n : Nat) (r : Out), L_X11_swap_14 Θ f l0 l1 l2 l3 ω n = some r → GR Θ yX11_swap cX11_swap 6 (some .int) 12 (0, 0) 14 [(0, .ref l0), (1, .int l1), (2, .int l2), (3, .int l3)] [] ω n r := by
  intro f
  induction f with
  | zero =>
    intro l0 l1 l2 l3 ω n r h
    unfold L_X11_swap_14 at h
    cases h
  | succ f ih =>
    intro l0 l1 l2 l3 ω n r h
    unfold L_X11_swap_14 at h
    exact ok_B_X11_swap_14 Θ (L_X11_swap_14 Θ f) ih l0 l1 l2 l3 ω n r h
theorem ok_X11_swap (Θ : GP) (l0 : Nat) (ω : OW) (n : Nat) : Ok Θ 12 0 0 yX11_swap cX11_swap 6 (some .int) [.ref l0] ω n (F_X11_swap Θ l0 ω n) := by
  refine Ok.of (by decide +kernel) (Nat.le_of_ble_eq_true rfl) (fun r h => ?_)
  unfold F_X11_swap at h
  show GR Θ yX11_swap cX11_swap 6 (some .int) 12 (0, 0) 0 [(0, .ref l0)] [] ω n r
  refine g_aload_n dX11_swap_0 rfl 0 rfl ?_
  refine g_iconst (v := 0) dX11_swap_1 (by decide) ?_
  refine g_wF fl_X11_3 dX11_swap_2 (rfl) rfl h (fun ω h => ?_)
  refine g_iconst (v := (-1)) dX11_swap_5 (by decide) ?_
  refine g_istore_n (lv' := [(1, .int (-1)), (0, .ref l0)]) dX11_swap_6 rfl (by decide) rfl ?_
  refine g_aload_n dX11_swap_7 rfl 1 rfl ?_
  refine g_cI (ci := 11) (As := []) mv_X11_411 dX11_swap_8 rfl (ok_X11_gapNow Θ l0 _ _) rfl rfl (Nat.le_of_ble_eq_true rfl) (by decide) (by decide) (by decide) h (fun x7 ω n h => ?_)
  refine G.less (B' := (0, 0)) (by decide) (by decide) ?_
  refine g_istore_n (lv' := [(2, .int x7), (1, .int (-1)), (0, .ref l0)]) dX11_swap_11 rfl (by decide) rfl ?_
  refine g_iconst (v := 0) dX11_swap_12 (by decide) ?_
  refine g_istore_n (lv' := [(3, .int 0), (2, .int x7), (1, .int (-1)), (0, .ref l0)]) dX11_swap_13 rfl (by decide) rfl ?_
  refine G.lsub [3, 2, 1, 0] rfl ?_
  exact ok_L_X11_swap_14 Θ 5000 l0 (-1) x7 0 _ _ r h
def J_X11_next_106 (Θ : GP) (k_13 : Nat → Int32 → Int32 → Int32 → OW → Nat → RO) (k_24 : Nat → Int32 → Int32 → Int32 → Int32 → OW → Nat → RO) (l0 : Nat) (l1 : Int32) (l2 : Int32) (l3 : Int32) (l4 : Int32) (ω : OW) (n : Nat) : RO := k_24 l0 l1 l2 l3 (l4 + 1) ω n
def J_X11_next_98 (Θ : GP) (k_13 : Nat → Int32 → Int32 → Int32 → OW → Nat → RO) (k_24 : Nat → Int32 → Int32 → Int32 → Int32 → OW → Nat → RO) (l0 : Nat) (l2 : Int32) (l3 : Int32) (l4 : Int32) (l5 : Int32) (s0 : Int32) (ω : OW) (n : Nat) : RO := J_X11_next_106 Θ k_13 k_24 l0 s0 (if l2 < l5 then l5 else l2) l3 l4 ω n
def B_X11_next_24 (Θ : GP) (k_13 : Nat → Int32 → Int32 → Int32 → OW → Nat → RO) (k_24 : Nat → Int32 → Int32 → Int32 → Int32 → OW → Nat → RO) (l0 : Nat) (l1 : Int32) (l2 : Int32) (l3 : Int32) (l4 : Int32) (ω : OW) (n : Nat) : RO := if 10 ≤ l4 then (k_13 l0 l1 l2 (l3 + 1) ω n) else (cO ω l0 11 (kI (F_X11_isNailed Θ l0 l3 ω n) (fun x2 ω n => if x2 = 0 then (cO ω l0 11 (kI (F_X11_propIn Θ l0 l4 ω n) (fun x4 ω n => if x4 = (-1) then (rA ω l0 11 1 (fun a6 => kI (F_X11_propAt Θ l3 3 ω n) (fun x7 ω n => sI ω (gI Θ) a6 x7 l4 (fun ω => cO ω l0 11 (kI (F_X11_gapNow Θ l0 ω n) (fun x8 ω n => rA ω l0 11 1 (fun a9 => kI (F_X11_propAt Θ l3 3 ω n) (fun x10 ω n => sI ω (gI Θ) a9 x10 (-1) (fun ω => if x8 ≤ l2 then (J_X11_next_98 Θ k_13 k_24 l0 l2 l3 l4 x8 l1 ω n) else (J_X11_next_98 Θ k_13 k_24 l0 l2 l3 l4 x8 ((10 * l3) + l4) ω n)))))))))) else (J_X11_next_106 Θ k_13 k_24 l0 l1 l2 l3 l4 ω n)))) else (J_X11_next_106 Θ k_13 k_24 l0 l1 l2 l3 l4 ω n))))
def L_X11_next_24 (Θ : GP) (k_13 : Nat → Int32 → Int32 → Int32 → OW → Nat → RO) : Nat → Nat → Int32 → Int32 → Int32 → Int32 → OW → Nat → RO
  | 0, _, _, _, _, _, _, _ => none
  | f + 1, l0, l1, l2, l3, l4, ω, n => B_X11_next_24 Θ k_13 (L_X11_next_24 Θ k_13 f) l0 l1 l2 l3 l4 ω n
def B_X11_next_13 (Θ : GP) (k_13 : Nat → Int32 → Int32 → Int32 → OW → Nat → RO) (l0 : Nat) (l1 : Int32) (l2 : Int32) (l3 : Int32) (ω : OW) (n : Nat) : RO := cO ω l0 11 (kI (F_X11_props Θ l0 ω n) (fun x12 ω n => if x12 ≤ l3 then (some (.inl (some (.int l1), ω, n))) else (L_X11_next_24 Θ k_13 5000 l0 l1 l2 l3 0 ω n)))
def L_X11_next_13 (Θ : GP) : Nat → Nat → Int32 → Int32 → Int32 → OW → Nat → RO
  | 0, _, _, _, _, _, _ => none
  | f + 1, l0, l1, l2, l3, ω, n => B_X11_next_13 Θ (L_X11_next_13 Θ f) l0 l1 l2 l3 ω n
def F_X11_next (Θ : GP) (l0 : Nat) (ω : OW) (n : Nat) : RO := wF ω l0 11 0 (.int 0) (fun ω => L_X11_next_13 Θ 5000 l0 (-1) (-100000000) 0 ω n)
theorem ok_J_X11_next_106 (Θ : GP) (k_13 : Nat → Int32 → Int32 → Int32 → OW → Nat → RO) (k_24 : Nat → Int32 → Int32 → Int32 → Int32 → OW → Nat → RO) (hk_13 : ∀ l0 l1 l2 l3 ω n r, k_13 l0 l1 l2 l3 ω n = some r → GR Θ yX11_next cX11_next 6 (some .int) 12 (0, 0) 13 [(0, .ref l0), (1, .int l1), (2, .int l2), (3, .int l3)] [] ω n r) (hk_24 : ∀ l0 l1 l2 l3 l4 ω n r, k_24 l0 l1 l2 l3 l4 ω n = some r → GR Θ yX11_next cX11_next 6 (some .int) 12 (0, 0) 24 [(0, .ref l0), (1, .int l1), (2, .int l2), (3, .int l3), (4, .int l4)] [] ω n r) (l0 : Nat) (l1 : Int32) (l2 : Int32) (l3 : Int32) (l4 : Int32) (ω : OW) (n : Nat) (r : Out) (h : J_X11_next_106 Θ k_13 k_24 l0 l1 l2 l3 l4 ω n = some r) : GR Θ yX11_next cX11_next 6 (some .int) 12 (0, 0) 106 [(0, .ref l0), (1, .int l1), (2, .int l2), (3, .int l3), (4, .int l4)] [] ω n r := by
  unfold J_X11_next_106 at h
  refine g_iinc (j := 4) (v := l4 + 1) (lv' := [(4, .int (l4 + 1)), (0, .ref l0), (1, .int l1), (2, .int l2), (3, .int l3)]) dX11_next_106 rfl rfl (by decide) rfl ?_
  refine g_goto (tgt := 24) dX11_next_109 (by decide) ?_
  refine G.lsub [1, 2, 3, 4, 0] rfl ?_
  exact hk_24 l0 l1 l2 l3 (l4 + 1) _ _ r h
theorem ok_J_X11_next_98 (Θ : GP) (k_13 : Nat → Int32 → Int32 → Int32 → OW → Nat → RO) (k_24 : Nat → Int32 → Int32 → Int32 → Int32 → OW → Nat → RO) (hk_13 : ∀ l0 l1 l2 l3 ω n r, k_13 l0 l1 l2 l3 ω n = some r → GR Θ yX11_next cX11_next 6 (some .int) 12 (0, 0) 13 [(0, .ref l0), (1, .int l1), (2, .int l2), (3, .int l3)] [] ω n r) (hk_24 : ∀ l0 l1 l2 l3 l4 ω n r, k_24 l0 l1 l2 l3 l4 ω n = some r → GR Θ yX11_next cX11_next 6 (some .int) 12 (0, 0) 24 [(0, .ref l0), (1, .int l1), (2, .int l2), (3, .int l3), (4, .int l4)] [] ω n r) (l0 : Nat) (l2 : Int32) (l3 : Int32) (l4 : Int32) (l5 : Int32) (s0 : Int32) (ω : OW) (n : Nat) (r : Out) (h : J_X11_next_98 Θ k_13 k_24 l0 l2 l3 l4 l5 s0 ω n = some r) : GR Θ yX11_next cX11_next 6 (some .int) 12 (0, 0) 98 [(0, .ref l0), (2, .int l2), (3, .int l3), (4, .int l4), (5, .int l5)] [.int s0] ω n r := by
  unfold J_X11_next_98 at h
  refine g_istore_n (lv' := [(1, .int s0), (0, .ref l0), (2, .int l2), (3, .int l3), (4, .int l4), (5, .int l5)]) dX11_next_98 rfl (by decide) rfl ?_
  refine g_iload_n dX11_next_99 rfl 2 rfl ?_
  refine g_iload dX11_next_100 5 rfl ?_
  refine g_max wd_1817 wd_610 wd_135 wd_611 dX11_next_102 (by decide) (Nat.le_of_ble_eq_true rfl) ?_
  refine g_istore_n (lv' := [(2, .int (if l2 < l5 then l5 else l2)), (1, .int s0), (0, .ref l0), (3, .int l3), (4, .int l4), (5, .int l5)]) dX11_next_105 rfl (by decide) rfl ?_
  refine G.lsub [2, 1, 0, 3, 4] rfl ?_
  exact ok_J_X11_next_106 Θ k_13 k_24 hk_13 hk_24 l0 s0 (if l2 < l5 then l5 else l2) l3 l4 _ _ r h
theorem ok_B_X11_next_24 (Θ : GP) (k_13 : Nat → Int32 → Int32 → Int32 → OW → Nat → RO) (k_24 : Nat → Int32 → Int32 → Int32 → Int32 → OW → Nat → RO) (hk_13 : ∀ l0 l1 l2 l3 ω n r, k_13 l0 l1 l2 l3 ω n = some r → GR Θ yX11_next cX11_next 6 (some .int) 12 (0, 0) 13 [(0, .ref l0), (1, .int l1), (2, .int l2), (3, .int l3)] [] ω n r) (hk_24 : ∀ l0 l1 l2 l3 l4 ω n r, k_24 l0 l1 l2 l3 l4 ω n = some r → GR Θ yX11_next cX11_next 6 (some .int) 12 (0, 0) 24 [(0, .ref l0), (1, .int l1), (2, .int l2), (3, .int l3), (4, .int l4)] [] ω n r) (l0 : Nat) (l1 : Int32) (l2 : Int32) (l3 : Int32) (l4 : Int32) (ω : OW) (n : Nat) (r : Out) (h : B_X11_next_24 Θ k_13 k_24 l0 l1 l2 l3 l4 ω n = some r) : GR Θ yX11_next cX11_next 6 (some .int) 12 (0, 0) 24 [(0, .ref l0), (1, .int l1), (2, .int l2), (3, .int l3), (4, .int l4)] [] ω n r := by
  unfold B_X11_next_24 at h
  refine g_iload dX11_next_24 4 rfl ?_
  refine g_bipush (v := 10) dX11_next_26 (by decide) ?_
  refine g_icmp_ge (tgt := 112) dX11_next_28 (by decide) (fun c1 => ?_) (fun c1 => ?_)
  · rw [if_pos c1] at h
    refine g_iinc (j := 3) (v := l3 + 1) (lv' := [(3, .int (l3 + 1)), (0, .ref l0), (1, .int l1), (2, .int l2), (4, .int l4)]) dX11_next_112 rfl rfl (by decide) rfl ?_
    refine g_goto (tgt := 13) dX11_next_115 (by decide) ?_
    refine G.lsub [1, 2, 3, 0] rfl ?_
    exact hk_13 l0 l1 l2 (l3 + 1) _ _ r h
  · rw [if_neg c1] at h
    refine g_aload_n dX11_next_31 rfl 0 rfl ?_
    refine g_iload_n dX11_next_32 rfl 3 rfl ?_
    refine g_cI (ci := 11) (As := [.int l3]) mv_X11_94 dX11_next_33 rfl (ok_X11_isNailed Θ l0 l3 _ _) rfl rfl (Nat.le_of_ble_eq_true rfl) (by decide) (by decide) (by decide) h (fun x2 ω n h => ?_)
    refine G.less (B' := (0, 0)) (by decide) (by decide) ?_
    refine g_if_ne (tgt := 106) dX11_next_36 (by decide) (fun c3 => ?_) (fun c3 => ?_)
    · rw [if_neg c3] at h
      exact ok_J_X11_next_106 Θ k_13 k_24 hk_13 hk_24 l0 l1 l2 l3 l4 _ _ r h
    · rw [if_pos c3] at h
      refine g_aload_n dX11_next_39 rfl 0 rfl ?_
      refine g_iload dX11_next_40 4 rfl ?_
      refine g_cI (ci := 11) (As := [.int l4]) mv_X11_160 dX11_next_42 rfl (ok_X11_propIn Θ l0 l4 _ _) rfl rfl (Nat.le_of_ble_eq_true rfl) (by decide) (by decide) (by decide) h (fun x4 ω n h => ?_)
      refine G.less (B' := (0, 0)) (by decide) (by decide) ?_
      refine g_iconst (v := (-1)) dX11_next_45 (by decide) ?_
      refine g_icmp_eq (tgt := 52) dX11_next_46 (by decide) (fun c5 => ?_) (fun c5 => ?_)
      · rw [if_pos c5] at h
        refine g_aload_n dX11_next_52 rfl 0 rfl ?_
        refine g_rA fl_X11_13 dX11_next_53 h (fun a6 h => ?_)
        refine g_iload_n dX11_next_56 rfl 3 rfl ?_
        refine g_iconst (v := 3) dX11_next_57 (by decide) ?_
        refine g_sI (As := [.int l3, .int 3]) ms_X11_70 dX11_next_58 (ok_X11_propAt Θ l3 3 _ _) rfl rfl (Nat.le_of_ble_eq_true rfl) (by decide) (by decide) (by decide) h (fun x7 ω n h => ?_)
        refine G.less (B' := (0, 0)) (by decide) (by decide) ?_
        refine g_iload dX11_next_61 4 rfl ?_
        refine g_sIi dX11_next_63 h (fun ω h => ?_)
        refine g_aload_n dX11_next_64 rfl 0 rfl ?_
        refine g_cI (ci := 11) (As := []) mv_X11_411 dX11_next_65 rfl (ok_X11_gapNow Θ l0 _ _) rfl rfl (Nat.le_of_ble_eq_true rfl) (by decide) (by decide) (by decide) h (fun x8 ω n h => ?_)
        refine G.less (B' := (0, 0)) (by decide) (by decide) ?_
        refine g_istore (lv' := [(5, .int x8), (0, .ref l0), (1, .int l1), (2, .int l2), (3, .int l3), (4, .int l4)]) dX11_next_68 (by decide) rfl ?_
        refine g_aload_n dX11_next_70 rfl 1 rfl ?_
        refine g_rA fl_X11_13 dX11_next_71 h (fun a9 h => ?_)
        refine g_iload_n dX11_next_74 rfl 4 rfl ?_
        refine g_iconst (v := 3) dX11_next_75 (by decide) ?_
        refine g_sI (As := [.int l3, .int 3]) ms_X11_70 dX11_next_76 (ok_X11_propAt Θ l3 3 _ _) rfl rfl (Nat.le_of_ble_eq_true rfl) (by decide) (by decide) (by decide) h (fun x10 ω n h => ?_)
        refine G.less (B' := (0, 0)) (by decide) (by decide) ?_
        refine g_iconst (v := (-1)) dX11_next_79 (by decide) ?_
        refine g_sIi dX11_next_80 h (fun ω h => ?_)
        refine g_iload dX11_next_81 0 rfl ?_
        refine g_iload_n dX11_next_83 rfl 3 rfl ?_
        refine g_icmp_le (tgt := 97) dX11_next_84 (by decide) (fun c11 => ?_) (fun c11 => ?_)
        · rw [if_pos c11] at h
          refine g_iload_n dX11_next_97 rfl 2 rfl ?_
          refine G.lsub [1, 3, 4, 5, 0] rfl ?_
          exact ok_J_X11_next_98 Θ k_13 k_24 hk_13 hk_24 l0 l2 l3 l4 x8 l1 _ _ r h
        · rw [if_neg c11] at h
          refine g_bipush (v := 10) dX11_next_87 (by decide) ?_
          refine g_iload_n dX11_next_89 rfl 4 rfl ?_
          refine g_imul dX11_next_90 ?_
          refine g_iload dX11_next_91 5 rfl ?_
          refine g_iadd dX11_next_93 ?_
          refine g_goto (tgt := 98) dX11_next_94 (by decide) ?_
          refine G.lsub [1, 3, 4, 5, 0] rfl ?_
          exact ok_J_X11_next_98 Θ k_13 k_24 hk_13 hk_24 l0 l2 l3 l4 x8 ((10 * l3) + l4) _ _ r h
      · rw [if_neg c5] at h
        refine g_goto (tgt := 106) dX11_next_49 (by decide) ?_
        exact ok_J_X11_next_106 Θ k_13 k_24 hk_13 hk_24 l0 l1 l2 l3 l4 _ _ r h
theorem ok_L_X11_next_24 (Θ : GP) (k_13 : Nat → Int32 → Int32 → Int32 → OW → Nat → RO) (hk_13 : ∀ l0 l1 l2 l3 ω n r, k_13 l0 l1 l2 l3 ω n = some r → GR Θ yX11_next cX11_next 6 (some .int) 12 (0, 0) 13 [(0, .ref l0), (1, .int l1), (2, .int l2), (3, .int l3)] [] ω n r) : ∀ (f : Nat) (l0 : Nat) (l1 : Int32) (l2 : Int32) (l3 : Int32) (l4 : Int32) (ω : OW) (n : Nat) (r : Out), L_X11_next_24 Θ k_13 f l0 l1 l2 l3 l4 ω n = some r → GR Θ yX11_next cX11_next 6 (some .int) 12 (0, 0) 24 [(0, .ref l0), (1, .int l1), (2, .int l2), (3, .int l3), (4, .int l4)] [] ω n r := by
  intro f
  induction f with
  | zero =>
    intro l0 l1 l2 l3 l4 ω n r h
    unfold L_X11_next_24 at h
    cases h
  | succ f ih =>
    intro l0 l1 l2 l3 l4 ω n r h
    unfold L_X11_next_24 at h
    exact ok_B_X11_next_24 Θ k_13 (L_X11_next_24 Θ k_13 f) hk_13 ih l0 l1 l2 l3 l4 ω n r h
theorem ok_B_X11_next_13 (Θ : GP) (k_13 : Nat → Int32 → Int32 → Int32 → OW → Nat → RO) (hk_13 : ∀ l0 l1 l2 l3 ω n r, k_13 l0 l1 l2 l3 ω n = some r → GR Θ yX11_next cX11_next 6 (some .int) 12 (0, 0) 13 [(0, .ref l0), (1, .int l1), (2, .int l2), (3, .int l3)] [] ω n r) (l0 : Nat) (l1 : Int32) (l2 : Int32) (l3 : Int32) (ω : OW) (n : Nat) (r : Out) (h : B_X11_next_13 Θ k_13 l0 l1 l2 l3 ω n = some r) : GR Θ yX11_next cX11_next 6 (some .int) 12 (0, 0) 13 [(0, .ref l0), (1, .int l1), (2, .int l2), (3, .int l3)] [] ω n r := by
  unfold B_X11_next_13 at h
  refine g_iload_n dX11_next_13 rfl 3 rfl ?_
  refine g_aload_n dX11_next_14 rfl 0 rfl ?_
  refine g_cI (ci := 11) (As := []) mv_X11_83 dX11_next_15 rfl (ok_X11_props Θ l0 _ _) rfl rfl (Nat.le_of_ble_eq_true rfl) (by decide) (by decide) (by decide) h (fun x12 ω n h => ?_)
  refine G.less (B' := (0, 0)) (by decide) (by decide) ?_
  refine g_icmp_ge (tgt := 118) dX11_next_18 (by decide) (fun c13 => ?_) (fun c13 => ?_)
  · rw [if_pos c13] at h
    refine g_iload_n dX11_next_118 rfl 1 rfl ?_
    cases h
    exact g_iret rfl dX11_next_119 rfl
  · rw [if_neg c13] at h
    refine g_iconst (v := 0) dX11_next_21 (by decide) ?_
    refine g_istore (lv' := [(4, .int 0), (0, .ref l0), (1, .int l1), (2, .int l2), (3, .int l3)]) dX11_next_22 (by decide) rfl ?_
    refine G.lsub [1, 2, 3, 4, 0] rfl ?_
    exact ok_L_X11_next_24 Θ k_13 hk_13 5000 l0 l1 l2 l3 0 _ _ r h
theorem ok_L_X11_next_13 (Θ : GP) : ∀ (f : Nat) (l0 : Nat) (l1 : Int32) (l2 : Int32) (l3 : Int32) (ω : OW) (n : Nat) (r : Out), L_X11_next_13 Θ f l0 l1 l2 l3 ω n = some r → GR Θ yX11_next cX11_next 6 (some .int) 12 (0, 0) 13 [(0, .ref l0), (1, .int l1), (2, .int l2), (3, .int l3)] [] ω n r := by
  intro f
  induction f with
  | zero =>
    intro l0 l1 l2 l3 ω n r h
    unfold L_X11_next_13 at h
    cases h
  | succ f ih =>
    intro l0 l1 l2 l3 ω n r h
    unfold L_X11_next_13 at h
    exact ok_B_X11_next_13 Θ (L_X11_next_13 Θ f) ih l0 l1 l2 l3 ω n r h
theorem ok_X11_next (Θ : GP) (l0 : Nat) (ω : OW) (n : Nat) : Ok Θ 12 0 0 yX11_next cX11_next 6 (some .int) [.ref l0] ω n (F_X11_next Θ l0 ω n) := by
  refine Ok.of (by decide +kernel) (Nat.le_of_ble_eq_true rfl) (fun r h => ?_)
  unfold F_X11_next at h
  show GR Θ yX11_next cX11_next 6 (some .int) 12 (0, 0) 0 [(0, .ref l0)] [] ω n r
  refine g_aload_n dX11_next_0 rfl 0 rfl ?_
  refine g_iconst (v := 0) dX11_next_1 (by decide) ?_
  refine g_wF fl_X11_3 dX11_next_2 (rfl) rfl h (fun ω h => ?_)
  refine g_iconst (v := (-1)) dX11_next_5 (by decide) ?_
  refine g_istore_n (lv' := [(1, .int (-1)), (0, .ref l0)]) dX11_next_6 rfl (by decide) rfl ?_
  refine g_ldc_w (v := (-100000000)) wd_2018 dX11_next_7 ?_
  refine g_istore_n (lv' := [(2, .int (-100000000)), (1, .int (-1)), (0, .ref l0)]) dX11_next_10 rfl (by decide) rfl ?_
  refine g_iconst (v := 0) dX11_next_11 (by decide) ?_
  refine g_istore_n (lv' := [(3, .int 0), (2, .int (-100000000)), (1, .int (-1)), (0, .ref l0)]) dX11_next_12 rfl (by decide) rfl ?_
  refine G.lsub [3, 2, 1, 0] rfl ?_
  exact ok_L_X11_next_13 Θ 5000 l0 (-1) (-100000000) 0 _ _ r h
def J_X11_isQuiet_46 (Θ : GP) (k_4 : Nat → Int32 → Int32 → OW → Nat → RO) (l0 : Nat) (l2 : Int32) (s0 : Int32) (ω : OW) (n : Nat) : RO := k_4 l0 s0 (l2 + 1) ω n
def J_X11_isQuiet_45 (Θ : GP) (k_4 : Nat → Int32 → Int32 → OW → Nat → RO) (l0 : Nat) (l2 : Int32) (ω : OW) (n : Nat) : RO := J_X11_isQuiet_46 Θ k_4 l0 l2 0 ω n
def J_X11_isQuiet_41 (Θ : GP) (k_4 : Nat → Int32 → Int32 → OW → Nat → RO) (l0 : Nat) (l2 : Int32) (ω : OW) (n : Nat) : RO := J_X11_isQuiet_46 Θ k_4 l0 l2 1 ω n
def B_X11_isQuiet_4 (Θ : GP) (k_4 : Nat → Int32 → Int32 → OW → Nat → RO) (l0 : Nat) (l1 : Int32) (l2 : Int32) (ω : OW) (n : Nat) : RO := cO ω l0 11 (kI (F_X11_oneCount Θ l0 ω n) (fun x1 ω n => if x1 ≤ l2 then (bz l1 (some (.inl (some (.int l1), ω, n)))) else (if l1 = 0 then (J_X11_isQuiet_45 Θ k_4 l0 l2 ω n) else (cO ω l0 11 (kI (F_X11_waits Θ l0 l2 ω n) (fun x5 ω n => if x5 = 0 then (J_X11_isQuiet_41 Θ k_4 l0 l2 ω n) else (cO ω l0 11 (kI (F_X11_isInnocent Θ l0 l2 ω n) (fun x7 ω n => if x7 = 0 then (cO ω l0 11 (kI (F_X11_ridesStraight Θ l0 l2 ω n) (fun x9 ω n => if x9 = (-1) then (J_X11_isQuiet_41 Θ k_4 l0 l2 ω n) else (J_X11_isQuiet_45 Θ k_4 l0 l2 ω n)))) else (J_X11_isQuiet_41 Θ k_4 l0 l2 ω n))))))))))
def L_X11_isQuiet_4 (Θ : GP) : Nat → Nat → Int32 → Int32 → OW → Nat → RO
  | 0, _, _, _, _, _ => none
  | f + 1, l0, l1, l2, ω, n => B_X11_isQuiet_4 Θ (L_X11_isQuiet_4 Θ f) l0 l1 l2 ω n
def F_X11_isQuiet (Θ : GP) (l0 : Nat) (ω : OW) (n : Nat) : RO := L_X11_isQuiet_4 Θ 5000 l0 1 0 ω n
theorem ok_J_X11_isQuiet_46 (Θ : GP) (k_4 : Nat → Int32 → Int32 → OW → Nat → RO) (hk_4 : ∀ l0 l1 l2 ω n r, k_4 l0 l1 l2 ω n = some r → GR Θ yX11_isQuiet cX11_isQuiet 3 (some .boolean) 11 (0, 0) 4 [(0, .ref l0), (1, .int l1), (2, .int l2)] [] ω n r) (l0 : Nat) (l2 : Int32) (s0 : Int32) (ω : OW) (n : Nat) (r : Out) (h : J_X11_isQuiet_46 Θ k_4 l0 l2 s0 ω n = some r) : GR Θ yX11_isQuiet cX11_isQuiet 3 (some .boolean) 11 (0, 0) 46 [(0, .ref l0), (2, .int l2)] [.int s0] ω n r := by
  unfold J_X11_isQuiet_46 at h
  refine g_istore_n (lv' := [(1, .int s0), (0, .ref l0), (2, .int l2)]) dX11_isQuiet_46 rfl (by decide) rfl ?_
  refine g_iinc (j := 2) (v := l2 + 1) (lv' := [(2, .int (l2 + 1)), (1, .int s0), (0, .ref l0)]) dX11_isQuiet_47 rfl rfl (by decide) rfl ?_
  refine g_goto (tgt := 4) dX11_isQuiet_50 (by decide) ?_
  refine G.lsub [2, 1, 0] rfl ?_
  exact hk_4 l0 s0 (l2 + 1) _ _ r h
theorem ok_J_X11_isQuiet_45 (Θ : GP) (k_4 : Nat → Int32 → Int32 → OW → Nat → RO) (hk_4 : ∀ l0 l1 l2 ω n r, k_4 l0 l1 l2 ω n = some r → GR Θ yX11_isQuiet cX11_isQuiet 3 (some .boolean) 11 (0, 0) 4 [(0, .ref l0), (1, .int l1), (2, .int l2)] [] ω n r) (l0 : Nat) (l2 : Int32) (ω : OW) (n : Nat) (r : Out) (h : J_X11_isQuiet_45 Θ k_4 l0 l2 ω n = some r) : GR Θ yX11_isQuiet cX11_isQuiet 3 (some .boolean) 11 (0, 0) 45 [(0, .ref l0), (2, .int l2)] [] ω n r := by
  unfold J_X11_isQuiet_45 at h
  refine g_iconst (v := 0) dX11_isQuiet_45 (by decide) ?_
  exact ok_J_X11_isQuiet_46 Θ k_4 hk_4 l0 l2 0 _ _ r h
theorem ok_J_X11_isQuiet_41 (Θ : GP) (k_4 : Nat → Int32 → Int32 → OW → Nat → RO) (hk_4 : ∀ l0 l1 l2 ω n r, k_4 l0 l1 l2 ω n = some r → GR Θ yX11_isQuiet cX11_isQuiet 3 (some .boolean) 11 (0, 0) 4 [(0, .ref l0), (1, .int l1), (2, .int l2)] [] ω n r) (l0 : Nat) (l2 : Int32) (ω : OW) (n : Nat) (r : Out) (h : J_X11_isQuiet_41 Θ k_4 l0 l2 ω n = some r) : GR Θ yX11_isQuiet cX11_isQuiet 3 (some .boolean) 11 (0, 0) 41 [(0, .ref l0), (2, .int l2)] [] ω n r := by
  unfold J_X11_isQuiet_41 at h
  refine g_iconst (v := 1) dX11_isQuiet_41 (by decide) ?_
  refine g_goto (tgt := 46) dX11_isQuiet_42 (by decide) ?_
  exact ok_J_X11_isQuiet_46 Θ k_4 hk_4 l0 l2 1 _ _ r h
theorem ok_B_X11_isQuiet_4 (Θ : GP) (k_4 : Nat → Int32 → Int32 → OW → Nat → RO) (hk_4 : ∀ l0 l1 l2 ω n r, k_4 l0 l1 l2 ω n = some r → GR Θ yX11_isQuiet cX11_isQuiet 3 (some .boolean) 11 (0, 0) 4 [(0, .ref l0), (1, .int l1), (2, .int l2)] [] ω n r) (l0 : Nat) (l1 : Int32) (l2 : Int32) (ω : OW) (n : Nat) (r : Out) (h : B_X11_isQuiet_4 Θ k_4 l0 l1 l2 ω n = some r) : GR Θ yX11_isQuiet cX11_isQuiet 3 (some .boolean) 11 (0, 0) 4 [(0, .ref l0), (1, .int l1), (2, .int l2)] [] ω n r := by
  unfold B_X11_isQuiet_4 at h
  refine g_iload_n dX11_isQuiet_4 rfl 2 rfl ?_
  refine g_aload_n dX11_isQuiet_5 rfl 0 rfl ?_
  refine g_cI (ci := 11) (As := []) mv_X11_91 dX11_isQuiet_6 rfl (ok_X11_oneCount Θ l0 _ _) rfl rfl (Nat.le_of_ble_eq_true rfl) (by decide) (by decide) (by decide) h (fun x1 ω n h => ?_)
  refine G.less (B' := (0, 0)) (by decide) (by decide) ?_
  refine g_icmp_ge (tgt := 53) dX11_isQuiet_9 (by decide) (fun c2 => ?_) (fun c2 => ?_)
  · rw [if_pos c2] at h
    refine g_iload_n dX11_isQuiet_53 rfl 1 rfl ?_
    obtain ⟨z3, h⟩ := bz_inv h
    cases h
    exact g_zret rfl z3 dX11_isQuiet_54 rfl
  · rw [if_neg c2] at h
    refine g_iload_n dX11_isQuiet_12 rfl 1 rfl ?_
    refine g_if_eq (tgt := 45) dX11_isQuiet_13 (by decide) (fun c4 => ?_) (fun c4 => ?_)
    · rw [if_pos c4] at h
      refine G.lsub [0, 2] rfl ?_
      exact ok_J_X11_isQuiet_45 Θ k_4 hk_4 l0 l2 _ _ r h
    · rw [if_neg c4] at h
      refine g_aload_n dX11_isQuiet_16 rfl 0 rfl ?_
      refine g_iload_n dX11_isQuiet_17 rfl 2 rfl ?_
      refine g_cI (ci := 11) (As := [.int l2]) mv_X11_355 dX11_isQuiet_18 rfl (ok_X11_waits Θ l0 l2 _ _) rfl rfl (Nat.le_of_ble_eq_true rfl) (by decide) (by decide) (by decide) h (fun x5 ω n h => ?_)
      refine G.less (B' := (0, 0)) (by decide) (by decide) ?_
      refine g_if_eq (tgt := 41) dX11_isQuiet_21 (by decide) (fun c6 => ?_) (fun c6 => ?_)
      · rw [if_pos c6] at h
        refine G.lsub [0, 2] rfl ?_
        exact ok_J_X11_isQuiet_41 Θ k_4 hk_4 l0 l2 _ _ r h
      · rw [if_neg c6] at h
        refine g_aload_n dX11_isQuiet_24 rfl 0 rfl ?_
        refine g_iload_n dX11_isQuiet_25 rfl 2 rfl ?_
        refine g_cI (ci := 11) (As := [.int l2]) mv_X11_408 dX11_isQuiet_26 rfl (ok_X11_isInnocent Θ l0 l2 _ _) rfl rfl (Nat.le_of_ble_eq_true rfl) (by decide) (by decide) (by decide) h (fun x7 ω n h => ?_)
        refine G.less (B' := (0, 0)) (by decide) (by decide) ?_
        refine g_if_ne (tgt := 41) dX11_isQuiet_29 (by decide) (fun c8 => ?_) (fun c8 => ?_)
        · rw [if_neg c8] at h
          refine G.lsub [0, 2] rfl ?_
          exact ok_J_X11_isQuiet_41 Θ k_4 hk_4 l0 l2 _ _ r h
        · rw [if_pos c8] at h
          refine g_aload_n dX11_isQuiet_32 rfl 0 rfl ?_
          refine g_iload_n dX11_isQuiet_33 rfl 2 rfl ?_
          refine g_cI (ci := 11) (As := [.int l2]) mv_X11_367 dX11_isQuiet_34 rfl (ok_X11_ridesStraight Θ l0 l2 _ _) rfl rfl (Nat.le_of_ble_eq_true rfl) (by decide) (by decide) (by decide) h (fun x9 ω n h => ?_)
          refine G.less (B' := (0, 0)) (by decide) (by decide) ?_
          refine g_iconst (v := (-1)) dX11_isQuiet_37 (by decide) ?_
          refine g_icmp_ne (tgt := 45) dX11_isQuiet_38 (by decide) (fun c10 => ?_) (fun c10 => ?_)
          · rw [if_neg c10] at h
            refine G.lsub [0, 2] rfl ?_
            exact ok_J_X11_isQuiet_45 Θ k_4 hk_4 l0 l2 _ _ r h
          · rw [if_pos c10] at h
            refine G.lsub [0, 2] rfl ?_
            exact ok_J_X11_isQuiet_41 Θ k_4 hk_4 l0 l2 _ _ r h
theorem ok_L_X11_isQuiet_4 (Θ : GP) : ∀ (f : Nat) (l0 : Nat) (l1 : Int32) (l2 : Int32) (ω : OW) (n : Nat) (r : Out), L_X11_isQuiet_4 Θ f l0 l1 l2 ω n = some r → GR Θ yX11_isQuiet cX11_isQuiet 3 (some .boolean) 11 (0, 0) 4 [(0, .ref l0), (1, .int l1), (2, .int l2)] [] ω n r := by
  intro f
  induction f with
  | zero =>
    intro l0 l1 l2 ω n r h
    unfold L_X11_isQuiet_4 at h
    cases h
  | succ f ih =>
    intro l0 l1 l2 ω n r h
    unfold L_X11_isQuiet_4 at h
    exact ok_B_X11_isQuiet_4 Θ (L_X11_isQuiet_4 Θ f) ih l0 l1 l2 ω n r h
theorem ok_X11_isQuiet (Θ : GP) (l0 : Nat) (ω : OW) (n : Nat) : Ok Θ 11 0 0 yX11_isQuiet cX11_isQuiet 3 (some .boolean) [.ref l0] ω n (F_X11_isQuiet Θ l0 ω n) := by
  refine Ok.of (by decide +kernel) (Nat.le_of_ble_eq_true rfl) (fun r h => ?_)
  unfold F_X11_isQuiet at h
  show GR Θ yX11_isQuiet cX11_isQuiet 3 (some .boolean) 11 (0, 0) 0 [(0, .ref l0)] [] ω n r
  refine g_iconst (v := 1) dX11_isQuiet_0 (by decide) ?_
  refine g_istore_n (lv' := [(1, .int 1), (0, .ref l0)]) dX11_isQuiet_1 rfl (by decide) rfl ?_
  refine g_iconst (v := 0) dX11_isQuiet_2 (by decide) ?_
  refine g_istore_n (lv' := [(2, .int 0), (1, .int 1), (0, .ref l0)]) dX11_isQuiet_3 rfl (by decide) rfl ?_
  refine G.lsub [2, 1, 0] rfl ?_
  exact ok_L_X11_isQuiet_4 Θ 5000 l0 1 0 _ _ r h
def J_X11_leave_54 (Θ : GP) (k_14 : Nat → Int32 → Int32 → Int32 → OW → Nat → RO) (l0 : Nat) (l1 : Int32) (l3 : Int32) (s0 : Int32) (ω : OW) (n : Nat) : RO := k_14 l0 l1 s0 (l3 + (-1)) ω n
def J_X11_leave_53 (Θ : GP) (k_14 : Nat → Int32 → Int32 → Int32 → OW → Nat → RO) (l0 : Nat) (l1 : Int32) (l2 : Int32) (l3 : Int32) (ω : OW) (n : Nat) : RO := J_X11_leave_54 Θ k_14 l0 l1 l3 l2 ω n
def B_X11_leave_14 (Θ : GP) (k_14 : Nat → Int32 → Int32 → Int32 → OW → Nat → RO) (l0 : Nat) (l1 : Int32) (l2 : Int32) (l3 : Int32) (ω : OW) (n : Nat) : RO := if l3 < 0 then (wF ω l0 11 23 (.int 0) (fun ω => some (.inl (some (.int l2), ω, n)))) else (wF ω l0 11 23 (.int l3) (fun ω => if (l3 &&& (l1 ^^^ (-1))) = 0 then (kI (F_J6_bitCount_0f7a4 Θ l3 ω n) (fun x3 ω n => kI (F_J6_bitCount_0f7a4 Θ l2 ω n) (fun x4 ω n => if x4 < x3 then (J_X11_leave_53 Θ k_14 l0 l1 l2 l3 ω n) else (cO ω l0 11 (kI (F_X11_isQuiet Θ l0 ω n) (fun x6 ω n => if x6 = 0 then (J_X11_leave_53 Θ k_14 l0 l1 l2 l3 ω n) else (J_X11_leave_54 Θ k_14 l0 l1 l3 l3 ω n))))))) else (J_X11_leave_53 Θ k_14 l0 l1 l2 l3 ω n)))
def L_X11_leave_14 (Θ : GP) : Nat → Nat → Int32 → Int32 → Int32 → OW → Nat → RO
  | 0, _, _, _, _, _, _ => none
  | f + 1, l0, l1, l2, l3, ω, n => B_X11_leave_14 Θ (L_X11_leave_14 Θ f) l0 l1 l2 l3 ω n
def F_X11_leave (Θ : GP) (l0 : Nat) (ω : OW) (n : Nat) : RO := wF ω l0 11 0 (.int 0) (fun ω => cO ω l0 11 (kI (F_X11_nailedOnes Θ l0 ω n) (fun x8 ω n => L_X11_leave_14 Θ 5000 l0 x8 x8 x8 ω n)))
theorem ok_J_X11_leave_54 (Θ : GP) (k_14 : Nat → Int32 → Int32 → Int32 → OW → Nat → RO) (hk_14 : ∀ l0 l1 l2 l3 ω n r, k_14 l0 l1 l2 l3 ω n = some r → GR Θ yX11_leave cX11_leave 4 (some .int) 12 (0, 0) 14 [(0, .ref l0), (1, .int l1), (2, .int l2), (3, .int l3)] [] ω n r) (l0 : Nat) (l1 : Int32) (l3 : Int32) (s0 : Int32) (ω : OW) (n : Nat) (r : Out) (h : J_X11_leave_54 Θ k_14 l0 l1 l3 s0 ω n = some r) : GR Θ yX11_leave cX11_leave 4 (some .int) 12 (0, 0) 54 [(0, .ref l0), (1, .int l1), (3, .int l3)] [.int s0] ω n r := by
  unfold J_X11_leave_54 at h
  refine g_istore_n (lv' := [(2, .int s0), (0, .ref l0), (1, .int l1), (3, .int l3)]) dX11_leave_54 rfl (by decide) rfl ?_
  refine g_iinc (j := 3) (v := l3 + (-1)) (lv' := [(3, .int (l3 + (-1))), (2, .int s0), (0, .ref l0), (1, .int l1)]) dX11_leave_55 rfl rfl (by decide) rfl ?_
  refine g_goto (tgt := 14) dX11_leave_58 (by decide) ?_
  refine G.lsub [2, 3, 1, 0] rfl ?_
  exact hk_14 l0 l1 s0 (l3 + (-1)) _ _ r h
theorem ok_J_X11_leave_53 (Θ : GP) (k_14 : Nat → Int32 → Int32 → Int32 → OW → Nat → RO) (hk_14 : ∀ l0 l1 l2 l3 ω n r, k_14 l0 l1 l2 l3 ω n = some r → GR Θ yX11_leave cX11_leave 4 (some .int) 12 (0, 0) 14 [(0, .ref l0), (1, .int l1), (2, .int l2), (3, .int l3)] [] ω n r) (l0 : Nat) (l1 : Int32) (l2 : Int32) (l3 : Int32) (ω : OW) (n : Nat) (r : Out) (h : J_X11_leave_53 Θ k_14 l0 l1 l2 l3 ω n = some r) : GR Θ yX11_leave cX11_leave 4 (some .int) 12 (0, 0) 53 [(0, .ref l0), (1, .int l1), (2, .int l2), (3, .int l3)] [] ω n r := by
  unfold J_X11_leave_53 at h
  refine g_iload_n dX11_leave_53 rfl 2 rfl ?_
  refine G.lsub [0, 1, 3] rfl ?_
  exact ok_J_X11_leave_54 Θ k_14 hk_14 l0 l1 l3 l2 _ _ r h
theorem ok_B_X11_leave_14 (Θ : GP) (k_14 : Nat → Int32 → Int32 → Int32 → OW → Nat → RO) (hk_14 : ∀ l0 l1 l2 l3 ω n r, k_14 l0 l1 l2 l3 ω n = some r → GR Θ yX11_leave cX11_leave 4 (some .int) 12 (0, 0) 14 [(0, .ref l0), (1, .int l1), (2, .int l2), (3, .int l3)] [] ω n r) (l0 : Nat) (l1 : Int32) (l2 : Int32) (l3 : Int32) (ω : OW) (n : Nat) (r : Out) (h : B_X11_leave_14 Θ k_14 l0 l1 l2 l3 ω n = some r) : GR Θ yX11_leave cX11_leave 4 (some .int) 12 (0, 0) 14 [(0, .ref l0), (1, .int l1), (2, .int l2), (3, .int l3)] [] ω n r := by
  unfold B_X11_leave_14 at h
  refine g_iload_n dX11_leave_14 rfl 3 rfl ?_
  refine g_if_lt (tgt := 61) dX11_leave_15 (by decide) (fun c1 => ?_) (fun c1 => ?_)
  · rw [if_pos c1] at h
    refine g_aload_n dX11_leave_61 rfl 0 rfl ?_
    refine g_iconst (v := 0) dX11_leave_62 (by decide) ?_
    refine g_wF fl_X11_313 dX11_leave_63 (rfl) rfl h (fun ω h => ?_)
    refine g_iload_n dX11_leave_66 rfl 2 rfl ?_
    cases h
    exact g_iret rfl dX11_leave_67 rfl
  · rw [if_neg c1] at h
    refine g_aload_n dX11_leave_18 rfl 0 rfl ?_
    refine g_iload_n dX11_leave_19 rfl 3 rfl ?_
    refine g_wF fl_X11_313 dX11_leave_20 (rfl) rfl h (fun ω h => ?_)
    refine g_iload_n dX11_leave_23 rfl 3 rfl ?_
    refine g_iload_n dX11_leave_24 rfl 1 rfl ?_
    refine g_iconst (v := (-1)) dX11_leave_25 (by decide) ?_
    refine g_ixor dX11_leave_26 ?_
    refine g_iand dX11_leave_27 ?_
    refine g_if_ne (tgt := 53) dX11_leave_28 (by decide) (fun c2 => ?_) (fun c2 => ?_)
    · rw [if_neg c2] at h
      exact ok_J_X11_leave_53 Θ k_14 hk_14 l0 l1 l2 l3 _ _ r h
    · rw [if_pos c2] at h
      refine g_iload_n dX11_leave_31 rfl 3 rfl ?_
      refine g_sI (As := [.int l3]) ms_X11_143 dX11_leave_32 (ok_J6_bitCount_0f7a4 Θ l3 _ _) rfl rfl (Nat.le_of_ble_eq_true rfl) (by decide) (by decide) (by decide) h (fun x3 ω n h => ?_)
      refine G.less (B' := (0, 0)) (by decide) (by decide) ?_
      refine g_iload_n dX11_leave_35 rfl 2 rfl ?_
      refine g_sI (As := [.int l2]) ms_X11_143 dX11_leave_36 (ok_J6_bitCount_0f7a4 Θ l2 _ _) rfl rfl (Nat.le_of_ble_eq_true rfl) (by decide) (by decide) (by decide) h (fun x4 ω n h => ?_)
      refine G.less (B' := (0, 0)) (by decide) (by decide) ?_
      refine g_icmp_gt (tgt := 53) dX11_leave_39 (by decide) (fun c5 => ?_) (fun c5 => ?_)
      · rw [if_pos c5] at h
        exact ok_J_X11_leave_53 Θ k_14 hk_14 l0 l1 l2 l3 _ _ r h
      · rw [if_neg c5] at h
        refine g_aload_n dX11_leave_42 rfl 0 rfl ?_
        refine g_cI (ci := 11) (As := []) mv_X11_422 dX11_leave_43 rfl (ok_X11_isQuiet Θ l0 _ _) rfl rfl (Nat.le_of_ble_eq_true rfl) (by decide) (by decide) (by decide) h (fun x6 ω n h => ?_)
        refine G.less (B' := (0, 0)) (by decide) (by decide) ?_
        refine g_if_eq (tgt := 53) dX11_leave_46 (by decide) (fun c7 => ?_) (fun c7 => ?_)
        · rw [if_pos c7] at h
          exact ok_J_X11_leave_53 Θ k_14 hk_14 l0 l1 l2 l3 _ _ r h
        · rw [if_neg c7] at h
          refine g_iload_n dX11_leave_49 rfl 3 rfl ?_
          refine g_goto (tgt := 54) dX11_leave_50 (by decide) ?_
          refine G.lsub [0, 1, 3] rfl ?_
          exact ok_J_X11_leave_54 Θ k_14 hk_14 l0 l1 l3 l3 _ _ r h
theorem ok_L_X11_leave_14 (Θ : GP) : ∀ (f : Nat) (l0 : Nat) (l1 : Int32) (l2 : Int32) (l3 : Int32) (ω : OW) (n : Nat) (r : Out), L_X11_leave_14 Θ f l0 l1 l2 l3 ω n = some r → GR Θ yX11_leave cX11_leave 4 (some .int) 12 (0, 0) 14 [(0, .ref l0), (1, .int l1), (2, .int l2), (3, .int l3)] [] ω n r := by
  intro f
  induction f with
  | zero =>
    intro l0 l1 l2 l3 ω n r h
    unfold L_X11_leave_14 at h
    cases h
  | succ f ih =>
    intro l0 l1 l2 l3 ω n r h
    unfold L_X11_leave_14 at h
    exact ok_B_X11_leave_14 Θ (L_X11_leave_14 Θ f) ih l0 l1 l2 l3 ω n r h
theorem ok_X11_leave (Θ : GP) (l0 : Nat) (ω : OW) (n : Nat) : Ok Θ 12 0 0 yX11_leave cX11_leave 4 (some .int) [.ref l0] ω n (F_X11_leave Θ l0 ω n) := by
  refine Ok.of (by decide +kernel) (Nat.le_of_ble_eq_true rfl) (fun r h => ?_)
  unfold F_X11_leave at h
  show GR Θ yX11_leave cX11_leave 4 (some .int) 12 (0, 0) 0 [(0, .ref l0)] [] ω n r
  refine g_aload_n dX11_leave_0 rfl 0 rfl ?_
  refine g_iconst (v := 0) dX11_leave_1 (by decide) ?_
  refine g_wF fl_X11_3 dX11_leave_2 (rfl) rfl h (fun ω h => ?_)
  refine g_aload_n dX11_leave_5 rfl 0 rfl ?_
  refine g_cI (ci := 11) (As := []) mv_X11_419 dX11_leave_6 rfl (ok_X11_nailedOnes Θ l0 _ _) rfl rfl (Nat.le_of_ble_eq_true rfl) (by decide) (by decide) (by decide) h (fun x8 ω n h => ?_)
  refine G.less (B' := (0, 0)) (by decide) (by decide) ?_
  refine g_istore_n (lv' := [(1, .int x8), (0, .ref l0)]) dX11_leave_9 rfl (by decide) rfl ?_
  refine g_iload_n dX11_leave_10 rfl 0 rfl ?_
  refine g_istore_n (lv' := [(2, .int x8), (1, .int x8), (0, .ref l0)]) dX11_leave_11 rfl (by decide) rfl ?_
  refine g_iload_n dX11_leave_12 rfl 1 rfl ?_
  refine g_istore_n (lv' := [(3, .int x8), (2, .int x8), (1, .int x8), (0, .ref l0)]) dX11_leave_13 rfl (by decide) rfl ?_
  refine G.lsub [3, 2, 1, 0] rfl ?_
  exact ok_L_X11_leave_14 Θ 5000 l0 x8 x8 x8 _ _ r h
def J_X11_shownBy_33 (Θ : GP) (k_4 : Nat → Int32 → Int32 → Int32 → OW → Nat → RO) (l0 : Nat) (l1 : Int32) (l3 : Int32) (s0 : Int32) (s1 : Int32) (ω : OW) (n : Nat) : RO := k_4 l0 l1 (s1 ||| s0) (l3 + 1) ω n
def B_X11_shownBy_4 (Θ : GP) (k_4 : Nat → Int32 → Int32 → Int32 → OW → Nat → RO) (l0 : Nat) (l1 : Int32) (l2 : Int32) (l3 : Int32) (ω : OW) (n : Nat) : RO := cO ω l0 11 (kI (F_X11_props Θ l0 ω n) (fun x1 ω n => if x1 ≤ l3 then (some (.inl (some (.int l2), ω, n))) else (kI (F_X11_has Θ l1 l3 ω n) (fun x3 ω n => if x3 = 0 then (J_X11_shownBy_33 Θ k_4 l0 l1 l3 0 l2 ω n) else (cO ω l0 11 (kI (F_X11_ofProp Θ l0 l3 0 ω n) (fun x5 ω n => J_X11_shownBy_33 Θ k_4 l0 l1 l3 (1 <<< ((x5 : Int32) &&& 31)) l2 ω n)))))))
def L_X11_shownBy_4 (Θ : GP) : Nat → Nat → Int32 → Int32 → Int32 → OW → Nat → RO
  | 0, _, _, _, _, _, _ => none
  | f + 1, l0, l1, l2, l3, ω, n => B_X11_shownBy_4 Θ (L_X11_shownBy_4 Θ f) l0 l1 l2 l3 ω n
def F_X11_shownBy (Θ : GP) (l0 : Nat) (l1 : Int32) (ω : OW) (n : Nat) : RO := L_X11_shownBy_4 Θ 5000 l0 l1 0 0 ω n
theorem ok_J_X11_shownBy_33 (Θ : GP) (k_4 : Nat → Int32 → Int32 → Int32 → OW → Nat → RO) (hk_4 : ∀ l0 l1 l2 l3 ω n r, k_4 l0 l1 l2 l3 ω n = some r → GR Θ yX11_shownBy cX11_shownBy 4 (some .int) 3 (0, 0) 4 [(0, .ref l0), (1, .int l1), (2, .int l2), (3, .int l3)] [] ω n r) (l0 : Nat) (l1 : Int32) (l3 : Int32) (s0 : Int32) (s1 : Int32) (ω : OW) (n : Nat) (r : Out) (h : J_X11_shownBy_33 Θ k_4 l0 l1 l3 s0 s1 ω n = some r) : GR Θ yX11_shownBy cX11_shownBy 4 (some .int) 3 (0, 0) 33 [(0, .ref l0), (1, .int l1), (3, .int l3)] [.int s0, .int s1] ω n r := by
  unfold J_X11_shownBy_33 at h
  refine g_ior dX11_shownBy_33 ?_
  refine g_istore_n (lv' := [(2, .int (s1 ||| s0)), (0, .ref l0), (1, .int l1), (3, .int l3)]) dX11_shownBy_34 rfl (by decide) rfl ?_
  refine g_iinc (j := 3) (v := l3 + 1) (lv' := [(3, .int (l3 + 1)), (2, .int (s1 ||| s0)), (0, .ref l0), (1, .int l1)]) dX11_shownBy_35 rfl rfl (by decide) rfl ?_
  refine g_goto (tgt := 4) dX11_shownBy_38 (by decide) ?_
  refine G.lsub [2, 3, 1, 0] rfl ?_
  exact hk_4 l0 l1 (s1 ||| s0) (l3 + 1) _ _ r h
theorem ok_B_X11_shownBy_4 (Θ : GP) (k_4 : Nat → Int32 → Int32 → Int32 → OW → Nat → RO) (hk_4 : ∀ l0 l1 l2 l3 ω n r, k_4 l0 l1 l2 l3 ω n = some r → GR Θ yX11_shownBy cX11_shownBy 4 (some .int) 3 (0, 0) 4 [(0, .ref l0), (1, .int l1), (2, .int l2), (3, .int l3)] [] ω n r) (l0 : Nat) (l1 : Int32) (l2 : Int32) (l3 : Int32) (ω : OW) (n : Nat) (r : Out) (h : B_X11_shownBy_4 Θ k_4 l0 l1 l2 l3 ω n = some r) : GR Θ yX11_shownBy cX11_shownBy 4 (some .int) 3 (0, 0) 4 [(0, .ref l0), (1, .int l1), (2, .int l2), (3, .int l3)] [] ω n r := by
  unfold B_X11_shownBy_4 at h
  refine g_iload_n dX11_shownBy_4 rfl 3 rfl ?_
  refine g_aload_n dX11_shownBy_5 rfl 0 rfl ?_
  refine g_cI (ci := 11) (As := []) mv_X11_83 dX11_shownBy_6 rfl (ok_X11_props Θ l0 _ _) rfl rfl (Nat.le_of_ble_eq_true rfl) (by decide) (by decide) (by decide) h (fun x1 ω n h => ?_)
  refine G.less (B' := (0, 0)) (by decide) (by decide) ?_
  refine g_icmp_ge (tgt := 41) dX11_shownBy_9 (by decide) (fun c2 => ?_) (fun c2 => ?_)
  · rw [if_pos c2] at h
    refine g_iload_n dX11_shownBy_41 rfl 2 rfl ?_
    cases h
    exact g_iret rfl dX11_shownBy_42 rfl
  · rw [if_neg c2] at h
    refine g_iload_n dX11_shownBy_12 rfl 2 rfl ?_
    refine g_iload_n dX11_shownBy_13 rfl 1 rfl ?_
    refine g_iload_n dX11_shownBy_14 rfl 3 rfl ?_
    refine g_sI (As := [.int l1, .int l3]) ms_X11_137 dX11_shownBy_15 (ok_X11_has Θ l1 l3 _ _) rfl rfl (Nat.le_of_ble_eq_true rfl) (by decide) (by decide) (by decide) h (fun x3 ω n h => ?_)
    refine G.less (B' := (0, 0)) (by decide) (by decide) ?_
    refine g_if_eq (tgt := 32) dX11_shownBy_18 (by decide) (fun c4 => ?_) (fun c4 => ?_)
    · rw [if_pos c4] at h
      refine g_iconst (v := 0) dX11_shownBy_32 (by decide) ?_
      refine G.lsub [0, 1, 3] rfl ?_
      exact ok_J_X11_shownBy_33 Θ k_4 hk_4 l0 l1 l3 0 l2 _ _ r h
    · rw [if_neg c4] at h
      refine g_iconst (v := 1) dX11_shownBy_21 (by decide) ?_
      refine g_aload_n dX11_shownBy_22 rfl 0 rfl ?_
      refine g_iload_n dX11_shownBy_23 rfl 3 rfl ?_
      refine g_iconst (v := 0) dX11_shownBy_24 (by decide) ?_
      refine g_cI (ci := 11) (As := [.int l3, .int 0]) mv_X11_74 dX11_shownBy_25 rfl (ok_X11_ofProp Θ l0 l3 0 _ _) rfl rfl (Nat.le_of_ble_eq_true rfl) (by decide) (by decide) (by decide) h (fun x5 ω n h => ?_)
      refine G.less (B' := (0, 0)) (by decide) (by decide) ?_
      refine g_ishl dX11_shownBy_28 ?_
      refine g_goto (tgt := 33) dX11_shownBy_29 (by decide) ?_
      refine G.lsub [0, 1, 3] rfl ?_
      exact ok_J_X11_shownBy_33 Θ k_4 hk_4 l0 l1 l3 (1 <<< ((x5 : Int32) &&& 31)) l2 _ _ r h
theorem ok_L_X11_shownBy_4 (Θ : GP) : ∀ (f : Nat) (l0 : Nat) (l1 : Int32) (l2 : Int32) (l3 : Int32) (ω : OW) (n : Nat) (r : Out), L_X11_shownBy_4 Θ f l0 l1 l2 l3 ω n = some r → GR Θ yX11_shownBy cX11_shownBy 4 (some .int) 3 (0, 0) 4 [(0, .ref l0), (1, .int l1), (2, .int l2), (3, .int l3)] [] ω n r := by
  intro f
  induction f with
  | zero =>
    intro l0 l1 l2 l3 ω n r h
    unfold L_X11_shownBy_4 at h
    cases h
  | succ f ih =>
    intro l0 l1 l2 l3 ω n r h
    unfold L_X11_shownBy_4 at h
    exact ok_B_X11_shownBy_4 Θ (L_X11_shownBy_4 Θ f) ih l0 l1 l2 l3 ω n r h
theorem ok_X11_shownBy (Θ : GP) (l0 : Nat) (l1 : Int32) (ω : OW) (n : Nat) : Ok Θ 3 0 0 yX11_shownBy cX11_shownBy 4 (some .int) [.ref l0, .int l1] ω n (F_X11_shownBy Θ l0 l1 ω n) := by
  refine Ok.of (by decide +kernel) (Nat.le_of_ble_eq_true rfl) (fun r h => ?_)
  unfold F_X11_shownBy at h
  show GR Θ yX11_shownBy cX11_shownBy 4 (some .int) 3 (0, 0) 0 [(0, .ref l0), (1, .int l1)] [] ω n r
  refine g_iconst (v := 0) dX11_shownBy_0 (by decide) ?_
  refine g_istore_n (lv' := [(2, .int 0), (0, .ref l0), (1, .int l1)]) dX11_shownBy_1 rfl (by decide) rfl ?_
  refine g_iconst (v := 0) dX11_shownBy_2 (by decide) ?_
  refine g_istore_n (lv' := [(3, .int 0), (2, .int 0), (0, .ref l0), (1, .int l1)]) dX11_shownBy_3 rfl (by decide) rfl ?_
  refine G.lsub [2, 3, 1, 0] rfl ?_
  exact ok_L_X11_shownBy_4 Θ 5000 l0 l1 0 0 _ _ r h
def J_X11_cover_95 (Θ : GP) (k_63 : Nat → Int32 → Int32 → Int32 → OW → Nat → RO) (l0 : Nat) (l2 : Int32) (l3 : Int32) (s0 : Int32) (ω : OW) (n : Nat) : RO := k_63 l0 s0 l2 (l3 + (-1)) ω n
def J_X11_cover_94 (Θ : GP) (k_63 : Nat → Int32 → Int32 → Int32 → OW → Nat → RO) (l0 : Nat) (l1 : Int32) (l2 : Int32) (l3 : Int32) (ω : OW) (n : Nat) : RO := J_X11_cover_95 Θ k_63 l0 l2 l3 l1 ω n
def B_X11_cover_63 (Θ : GP) (k_63 : Nat → Int32 → Int32 → Int32 → OW → Nat → RO) (l0 : Nat) (l1 : Int32) (l2 : Int32) (l3 : Int32) (ω : OW) (n : Nat) : RO := if l3 < 0 then (some (.inl (some (.int l1), ω, n))) else (kI (F_J6_bitCount_0f7a4 Θ l3 ω n) (fun x2 ω n => kI (F_J6_bitCount_0f7a4 Θ l1 ω n) (fun x3 ω n => if x3 < x2 then (J_X11_cover_94 Θ k_63 l0 l1 l2 l3 ω n) else (cO ω l0 11 (kI (F_X11_shownBy Θ l0 l3 ω n) (fun x5 ω n => if (l2 &&& (x5 ^^^ (-1))) = 0 then (J_X11_cover_95 Θ k_63 l0 l2 l3 l3 ω n) else (J_X11_cover_94 Θ k_63 l0 l1 l2 l3 ω n)))))))
def L_X11_cover_63 (Θ : GP) : Nat → Nat → Int32 → Int32 → Int32 → OW → Nat → RO
  | 0, _, _, _, _, _, _ => none
  | f + 1, l0, l1, l2, l3, ω, n => B_X11_cover_63 Θ (L_X11_cover_63 Θ f) l0 l1 l2 l3 ω n
def J_X11_cover_45 (Θ : GP) (k_18 : Nat → Int32 → Int32 → Int32 → OW → Nat → RO) (l0 : Nat) (l1 : Int32) (l3 : Int32) (s0 : Int32) (s1 : Int32) (ω : OW) (n : Nat) : RO := k_18 l0 l1 (s1 ||| s0) (l3 + 1) ω n
def B_X11_cover_18 (Θ : GP) (k_18 : Nat → Int32 → Int32 → Int32 → OW → Nat → RO) (l0 : Nat) (l1 : Int32) (l2 : Int32) (l3 : Int32) (ω : OW) (n : Nat) : RO := cO ω l0 11 (kI (F_X11_oneCount Θ l0 ω n) (fun x7 ω n => if x7 ≤ l3 then (cO ω l0 11 (kI (F_X11_shownBy Θ l0 l1 ω n) (fun x9 ω n => L_X11_cover_63 Θ 5000 l0 l1 (l2 &&& x9) l1 ω n))) else (cO ω l0 11 (kI (F_X11_waits Θ l0 l3 ω n) (fun x10 ω n => if x10 = 0 then (J_X11_cover_45 Θ k_18 l0 l1 l3 0 l2 ω n) else (cO ω l0 11 (kI (F_X11_of Θ l0 l3 0 ω n) (fun x12 ω n => J_X11_cover_45 Θ k_18 l0 l1 l3 x12 l2 ω n))))))))
def L_X11_cover_18 (Θ : GP) : Nat → Nat → Int32 → Int32 → Int32 → OW → Nat → RO
  | 0, _, _, _, _, _, _ => none
  | f + 1, l0, l1, l2, l3, ω, n => B_X11_cover_18 Θ (L_X11_cover_18 Θ f) l0 l1 l2 l3 ω n
def F_X11_cover (Θ : GP) (l0 : Nat) (ω : OW) (n : Nat) : RO := wF ω l0 11 0 (.int 0) (fun ω => cO ω l0 11 (kI (F_X11_props Θ l0 ω n) (fun x13 ω n => L_X11_cover_18 Θ 5000 l0 ((1 <<< ((x13 : Int32) &&& 31)) - 1) 0 0 ω n)))
theorem ok_J_X11_cover_95 (Θ : GP) (k_63 : Nat → Int32 → Int32 → Int32 → OW → Nat → RO) (hk_63 : ∀ l0 l1 l2 l3 ω n r, k_63 l0 l1 l2 l3 ω n = some r → GR Θ yX11_cover cX11_cover 4 (some .int) 4 (0, 0) 63 [(0, .ref l0), (1, .int l1), (2, .int l2), (3, .int l3)] [] ω n r) (l0 : Nat) (l2 : Int32) (l3 : Int32) (s0 : Int32) (ω : OW) (n : Nat) (r : Out) (h : J_X11_cover_95 Θ k_63 l0 l2 l3 s0 ω n = some r) : GR Θ yX11_cover cX11_cover 4 (some .int) 4 (0, 0) 95 [(0, .ref l0), (2, .int l2), (3, .int l3)] [.int s0] ω n r := by
  unfold J_X11_cover_95 at h
  refine g_istore_n (lv' := [(1, .int s0), (0, .ref l0), (2, .int l2), (3, .int l3)]) dX11_cover_95 rfl (by decide) rfl ?_
  refine g_iinc (j := 3) (v := l3 + (-1)) (lv' := [(3, .int (l3 + (-1))), (1, .int s0), (0, .ref l0), (2, .int l2)]) dX11_cover_96 rfl rfl (by decide) rfl ?_
  refine g_goto (tgt := 63) dX11_cover_99 (by decide) ?_
  refine G.lsub [2, 1, 3, 0] rfl ?_
  exact hk_63 l0 s0 l2 (l3 + (-1)) _ _ r h
theorem ok_J_X11_cover_94 (Θ : GP) (k_63 : Nat → Int32 → Int32 → Int32 → OW → Nat → RO) (hk_63 : ∀ l0 l1 l2 l3 ω n r, k_63 l0 l1 l2 l3 ω n = some r → GR Θ yX11_cover cX11_cover 4 (some .int) 4 (0, 0) 63 [(0, .ref l0), (1, .int l1), (2, .int l2), (3, .int l3)] [] ω n r) (l0 : Nat) (l1 : Int32) (l2 : Int32) (l3 : Int32) (ω : OW) (n : Nat) (r : Out) (h : J_X11_cover_94 Θ k_63 l0 l1 l2 l3 ω n = some r) : GR Θ yX11_cover cX11_cover 4 (some .int) 4 (0, 0) 94 [(0, .ref l0), (1, .int l1), (2, .int l2), (3, .int l3)] [] ω n r := by
  unfold J_X11_cover_94 at h
  refine g_iload_n dX11_cover_94 rfl 1 rfl ?_
  refine G.lsub [0, 2, 3] rfl ?_
  exact ok_J_X11_cover_95 Θ k_63 hk_63 l0 l2 l3 l1 _ _ r h
theorem ok_B_X11_cover_63 (Θ : GP) (k_63 : Nat → Int32 → Int32 → Int32 → OW → Nat → RO) (hk_63 : ∀ l0 l1 l2 l3 ω n r, k_63 l0 l1 l2 l3 ω n = some r → GR Θ yX11_cover cX11_cover 4 (some .int) 4 (0, 0) 63 [(0, .ref l0), (1, .int l1), (2, .int l2), (3, .int l3)] [] ω n r) (l0 : Nat) (l1 : Int32) (l2 : Int32) (l3 : Int32) (ω : OW) (n : Nat) (r : Out) (h : B_X11_cover_63 Θ k_63 l0 l1 l2 l3 ω n = some r) : GR Θ yX11_cover cX11_cover 4 (some .int) 4 (0, 0) 63 [(0, .ref l0), (1, .int l1), (2, .int l2), (3, .int l3)] [] ω n r := by
  unfold B_X11_cover_63 at h
  refine g_iload_n dX11_cover_63 rfl 3 rfl ?_
  refine g_if_lt (tgt := 102) dX11_cover_64 (by decide) (fun c1 => ?_) (fun c1 => ?_)
  · rw [if_pos c1] at h
    refine g_iload_n dX11_cover_102 rfl 1 rfl ?_
    cases h
    exact g_iret rfl dX11_cover_103 rfl
  · rw [if_neg c1] at h
    refine g_iload_n dX11_cover_67 rfl 3 rfl ?_
    refine g_sI (As := [.int l3]) ms_X11_143 dX11_cover_68 (ok_J6_bitCount_0f7a4 Θ l3 _ _) rfl rfl (Nat.le_of_ble_eq_true rfl) (by decide) (by decide) (by decide) h (fun x2 ω n h => ?_)
    refine G.less (B' := (0, 0)) (by decide) (by decide) ?_
    refine g_iload_n dX11_cover_71 rfl 1 rfl ?_
    refine g_sI (As := [.int l1]) ms_X11_143 dX11_cover_72 (ok_J6_bitCount_0f7a4 Θ l1 _ _) rfl rfl (Nat.le_of_ble_eq_true rfl) (by decide) (by decide) (by decide) h (fun x3 ω n h => ?_)
    refine G.less (B' := (0, 0)) (by decide) (by decide) ?_
    refine g_icmp_gt (tgt := 94) dX11_cover_75 (by decide) (fun c4 => ?_) (fun c4 => ?_)
    · rw [if_pos c4] at h
      exact ok_J_X11_cover_94 Θ k_63 hk_63 l0 l1 l2 l3 _ _ r h
    · rw [if_neg c4] at h
      refine g_iload_n dX11_cover_78 rfl 2 rfl ?_
      refine g_aload_n dX11_cover_79 rfl 0 rfl ?_
      refine g_iload_n dX11_cover_80 rfl 3 rfl ?_
      refine g_cI (ci := 11) (As := [.int l3]) mv_X11_425 dX11_cover_81 rfl (ok_X11_shownBy Θ l0 l3 _ _) rfl rfl (Nat.le_of_ble_eq_true rfl) (by decide) (by decide) (by decide) h (fun x5 ω n h => ?_)
      refine G.less (B' := (0, 0)) (by decide) (by decide) ?_
      refine g_iconst (v := (-1)) dX11_cover_84 (by decide) ?_
      refine g_ixor dX11_cover_85 ?_
      refine g_iand dX11_cover_86 ?_
      refine g_if_ne (tgt := 94) dX11_cover_87 (by decide) (fun c6 => ?_) (fun c6 => ?_)
      · rw [if_neg c6] at h
        exact ok_J_X11_cover_94 Θ k_63 hk_63 l0 l1 l2 l3 _ _ r h
      · rw [if_pos c6] at h
        refine g_iload_n dX11_cover_90 rfl 3 rfl ?_
        refine g_goto (tgt := 95) dX11_cover_91 (by decide) ?_
        refine G.lsub [0, 2, 3] rfl ?_
        exact ok_J_X11_cover_95 Θ k_63 hk_63 l0 l2 l3 l3 _ _ r h
theorem ok_L_X11_cover_63 (Θ : GP) : ∀ (f : Nat) (l0 : Nat) (l1 : Int32) (l2 : Int32) (l3 : Int32) (ω : OW) (n : Nat) (r : Out), L_X11_cover_63 Θ f l0 l1 l2 l3 ω n = some r → GR Θ yX11_cover cX11_cover 4 (some .int) 4 (0, 0) 63 [(0, .ref l0), (1, .int l1), (2, .int l2), (3, .int l3)] [] ω n r := by
  intro f
  induction f with
  | zero =>
    intro l0 l1 l2 l3 ω n r h
    unfold L_X11_cover_63 at h
    cases h
  | succ f ih =>
    intro l0 l1 l2 l3 ω n r h
    unfold L_X11_cover_63 at h
    exact ok_B_X11_cover_63 Θ (L_X11_cover_63 Θ f) ih l0 l1 l2 l3 ω n r h
theorem ok_J_X11_cover_45 (Θ : GP) (k_18 : Nat → Int32 → Int32 → Int32 → OW → Nat → RO) (hk_18 : ∀ l0 l1 l2 l3 ω n r, k_18 l0 l1 l2 l3 ω n = some r → GR Θ yX11_cover cX11_cover 4 (some .int) 4 (0, 0) 18 [(0, .ref l0), (1, .int l1), (2, .int l2), (3, .int l3)] [] ω n r) (l0 : Nat) (l1 : Int32) (l3 : Int32) (s0 : Int32) (s1 : Int32) (ω : OW) (n : Nat) (r : Out) (h : J_X11_cover_45 Θ k_18 l0 l1 l3 s0 s1 ω n = some r) : GR Θ yX11_cover cX11_cover 4 (some .int) 4 (0, 0) 45 [(0, .ref l0), (1, .int l1), (3, .int l3)] [.int s0, .int s1] ω n r := by
  unfold J_X11_cover_45 at h
  refine g_ior dX11_cover_45 ?_
  refine g_istore_n (lv' := [(2, .int (s1 ||| s0)), (0, .ref l0), (1, .int l1), (3, .int l3)]) dX11_cover_46 rfl (by decide) rfl ?_
  refine g_iinc (j := 3) (v := l3 + 1) (lv' := [(3, .int (l3 + 1)), (2, .int (s1 ||| s0)), (0, .ref l0), (1, .int l1)]) dX11_cover_47 rfl rfl (by decide) rfl ?_
  refine g_goto (tgt := 18) dX11_cover_50 (by decide) ?_
  refine G.lsub [2, 3, 1, 0] rfl ?_
  exact hk_18 l0 l1 (s1 ||| s0) (l3 + 1) _ _ r h
theorem ok_B_X11_cover_18 (Θ : GP) (k_18 : Nat → Int32 → Int32 → Int32 → OW → Nat → RO) (hk_18 : ∀ l0 l1 l2 l3 ω n r, k_18 l0 l1 l2 l3 ω n = some r → GR Θ yX11_cover cX11_cover 4 (some .int) 4 (0, 0) 18 [(0, .ref l0), (1, .int l1), (2, .int l2), (3, .int l3)] [] ω n r) (l0 : Nat) (l1 : Int32) (l2 : Int32) (l3 : Int32) (ω : OW) (n : Nat) (r : Out) (h : B_X11_cover_18 Θ k_18 l0 l1 l2 l3 ω n = some r) : GR Θ yX11_cover cX11_cover 4 (some .int) 4 (0, 0) 18 [(0, .ref l0), (1, .int l1), (2, .int l2), (3, .int l3)] [] ω n r := by
  unfold B_X11_cover_18 at h
  refine g_iload_n dX11_cover_18 rfl 3 rfl ?_
  refine g_aload_n dX11_cover_19 rfl 0 rfl ?_
  refine g_cI (ci := 11) (As := []) mv_X11_91 dX11_cover_20 rfl (ok_X11_oneCount Θ l0 _ _) rfl rfl (Nat.le_of_ble_eq_true rfl) (by decide) (by decide) (by decide) h (fun x7 ω n h => ?_)
  refine G.less (B' := (0, 0)) (by decide) (by decide) ?_
  refine g_icmp_ge (tgt := 53) dX11_cover_23 (by decide) (fun c8 => ?_) (fun c8 => ?_)
  · rw [if_pos c8] at h
    refine g_iload_n dX11_cover_53 rfl 2 rfl ?_
    refine g_aload_n dX11_cover_54 rfl 0 rfl ?_
    refine g_iload_n dX11_cover_55 rfl 1 rfl ?_
    refine g_cI (ci := 11) (As := [.int l1]) mv_X11_425 dX11_cover_56 rfl (ok_X11_shownBy Θ l0 l1 _ _) rfl rfl (Nat.le_of_ble_eq_true rfl) (by decide) (by decide) (by decide) h (fun x9 ω n h => ?_)
    refine G.less (B' := (0, 0)) (by decide) (by decide) ?_
    refine g_iand dX11_cover_59 ?_
    refine g_istore_n (lv' := [(2, .int (l2 &&& x9)), (0, .ref l0), (1, .int l1), (3, .int l3)]) dX11_cover_60 rfl (by decide) rfl ?_
    refine g_iload_n dX11_cover_61 rfl 2 rfl ?_
    refine g_istore_n (lv' := [(3, .int l1), (2, .int (l2 &&& x9)), (0, .ref l0), (1, .int l1)]) dX11_cover_62 rfl (by decide) rfl ?_
    refine G.lsub [2, 3, 1, 0] rfl ?_
    exact ok_L_X11_cover_63 Θ 5000 l0 l1 (l2 &&& x9) l1 _ _ r h
  · rw [if_neg c8] at h
    refine g_iload_n dX11_cover_26 rfl 2 rfl ?_
    refine g_aload_n dX11_cover_27 rfl 0 rfl ?_
    refine g_iload_n dX11_cover_28 rfl 3 rfl ?_
    refine g_cI (ci := 11) (As := [.int l3]) mv_X11_355 dX11_cover_29 rfl (ok_X11_waits Θ l0 l3 _ _) rfl rfl (Nat.le_of_ble_eq_true rfl) (by decide) (by decide) (by decide) h (fun x10 ω n h => ?_)
    refine G.less (B' := (0, 0)) (by decide) (by decide) ?_
    refine g_if_eq (tgt := 44) dX11_cover_32 (by decide) (fun c11 => ?_) (fun c11 => ?_)
    · rw [if_pos c11] at h
      refine g_iconst (v := 0) dX11_cover_44 (by decide) ?_
      refine G.lsub [0, 1, 3] rfl ?_
      exact ok_J_X11_cover_45 Θ k_18 hk_18 l0 l1 l3 0 l2 _ _ r h
    · rw [if_neg c11] at h
      refine g_aload_n dX11_cover_35 rfl 0 rfl ?_
      refine g_iload_n dX11_cover_36 rfl 3 rfl ?_
      refine g_iconst (v := 0) dX11_cover_37 (by decide) ?_
      refine g_cI (ci := 11) (As := [.int l3, .int 0]) mv_X11_80 dX11_cover_38 rfl (ok_X11_of Θ l0 l3 0 _ _) rfl rfl (Nat.le_of_ble_eq_true rfl) (by decide) (by decide) (by decide) h (fun x12 ω n h => ?_)
      refine G.less (B' := (0, 0)) (by decide) (by decide) ?_
      refine g_goto (tgt := 45) dX11_cover_41 (by decide) ?_
      refine G.lsub [0, 1, 3] rfl ?_
      exact ok_J_X11_cover_45 Θ k_18 hk_18 l0 l1 l3 x12 l2 _ _ r h
theorem ok_L_X11_cover_18 (Θ : GP) : ∀ (f : Nat) (l0 : Nat) (l1 : Int32) (l2 : Int32) (l3 : Int32) (ω : OW) (n : Nat) (r : Out), L_X11_cover_18 Θ f l0 l1 l2 l3 ω n = some r → GR Θ yX11_cover cX11_cover 4 (some .int) 4 (0, 0) 18 [(0, .ref l0), (1, .int l1), (2, .int l2), (3, .int l3)] [] ω n r := by
  intro f
  induction f with
  | zero =>
    intro l0 l1 l2 l3 ω n r h
    unfold L_X11_cover_18 at h
    cases h
  | succ f ih =>
    intro l0 l1 l2 l3 ω n r h
    unfold L_X11_cover_18 at h
    exact ok_B_X11_cover_18 Θ (L_X11_cover_18 Θ f) ih l0 l1 l2 l3 ω n r h
theorem ok_X11_cover (Θ : GP) (l0 : Nat) (ω : OW) (n : Nat) : Ok Θ 4 0 0 yX11_cover cX11_cover 4 (some .int) [.ref l0] ω n (F_X11_cover Θ l0 ω n) := by
  refine Ok.of (by decide +kernel) (Nat.le_of_ble_eq_true rfl) (fun r h => ?_)
  unfold F_X11_cover at h
  show GR Θ yX11_cover cX11_cover 4 (some .int) 4 (0, 0) 0 [(0, .ref l0)] [] ω n r
  refine g_aload_n dX11_cover_0 rfl 0 rfl ?_
  refine g_iconst (v := 0) dX11_cover_1 (by decide) ?_
  refine g_wF fl_X11_3 dX11_cover_2 (rfl) rfl h (fun ω h => ?_)
  refine g_iconst (v := 1) dX11_cover_5 (by decide) ?_
  refine g_aload_n dX11_cover_6 rfl 0 rfl ?_
  refine g_cI (ci := 11) (As := []) mv_X11_83 dX11_cover_7 rfl (ok_X11_props Θ l0 _ _) rfl rfl (Nat.le_of_ble_eq_true rfl) (by decide) (by decide) (by decide) h (fun x13 ω n h => ?_)
  refine G.less (B' := (0, 0)) (by decide) (by decide) ?_
  refine g_ishl dX11_cover_10 ?_
  refine g_iconst (v := 1) dX11_cover_11 (by decide) ?_
  refine g_isub dX11_cover_12 ?_
  refine g_istore_n (lv' := [(1, .int ((1 <<< ((x13 : Int32) &&& 31)) - 1)), (0, .ref l0)]) dX11_cover_13 rfl (by decide) rfl ?_
  refine g_iconst (v := 0) dX11_cover_14 (by decide) ?_
  refine g_istore_n (lv' := [(2, .int 0), (1, .int ((1 <<< ((x13 : Int32) &&& 31)) - 1)), (0, .ref l0)]) dX11_cover_15 rfl (by decide) rfl ?_
  refine g_iconst (v := 0) dX11_cover_16 (by decide) ?_
  refine g_istore_n (lv' := [(3, .int 0), (2, .int 0), (1, .int ((1 <<< ((x13 : Int32) &&& 31)) - 1)), (0, .ref l0)]) dX11_cover_17 rfl (by decide) rfl ?_
  refine G.lsub [3, 2, 1, 0] rfl ?_
  exact ok_L_X11_cover_18 Θ 5000 l0 ((1 <<< ((x13 : Int32) &&& 31)) - 1) 0 0 _ _ r h
def J_X11_isHeard_48 (Θ : GP) (l0 : Nat) (s0 : Int32) (ω : OW) (n : Nat) : RO := wF ω l0 11 23 (.int 0) (fun ω => wF ω l0 11 24 (.int 0) (fun ω => bz s0 (some (.inl (some (.int s0), ω, n)))))
def J_X11_isHeard_31 (Θ : GP) (l0 : Nat) (l1 : Int32) (s0 : Int32) (s1 : Nat) (ω : OW) (n : Nat) : RO := wF ω s1 11 24 (.int s0) (fun ω => cO ω l0 11 (kI (F_X11_ridesStraight Θ l0 l1 ω n) (fun x2 ω n => if x2 = (-1) then (J_X11_isHeard_48 Θ l0 0 ω n) else (J_X11_isHeard_48 Θ l0 1 ω n))))
def J_X11_isHeard_14 (Θ : GP) (l0 : Nat) (l1 : Int32) (l3 : Int32) (s0 : Int32) (s1 : Nat) (ω : OW) (n : Nat) : RO := wF ω s1 11 23 (.int s0) (fun ω => if l3 = 8 then (J_X11_isHeard_31 Θ l0 l1 0 l0 ω n) else (J_X11_isHeard_31 Θ l0 l1 (1 <<< ((l3 : Int32) &&& 31)) l0 ω n))
def F_X11_isHeard (Θ : GP) (l0 : Nat) (l1 : Int32) (l2 : Int32) (l3 : Int32) (ω : OW) (n : Nat) : RO := if l2 = 8 then (J_X11_isHeard_14 Θ l0 l1 l3 0 l0 ω n) else (J_X11_isHeard_14 Θ l0 l1 l3 (1 <<< ((l2 : Int32) &&& 31)) l0 ω n)
theorem ok_J_X11_isHeard_48 (Θ : GP) (l0 : Nat) (s0 : Int32) (ω : OW) (n : Nat) (r : Out) (h : J_X11_isHeard_48 Θ l0 s0 ω n = some r) : GR Θ yX11_isHeard cX11_isHeard 5 (some .boolean) 11 (0, 0) 48 [(0, .ref l0)] [.int s0] ω n r := by
  unfold J_X11_isHeard_48 at h
  refine g_istore (lv' := [(4, .int s0), (0, .ref l0)]) dX11_isHeard_48 (by decide) rfl ?_
  refine g_aload_n dX11_isHeard_50 rfl 1 rfl ?_
  refine g_iconst (v := 0) dX11_isHeard_51 (by decide) ?_
  refine g_wF fl_X11_313 dX11_isHeard_52 (rfl) rfl h (fun ω h => ?_)
  refine g_aload_n dX11_isHeard_55 rfl 1 rfl ?_
  refine g_iconst (v := 0) dX11_isHeard_56 (by decide) ?_
  refine g_wF fl_X11_319 dX11_isHeard_57 (rfl) rfl h (fun ω h => ?_)
  refine g_iload dX11_isHeard_60 0 rfl ?_
  obtain ⟨z1, h⟩ := bz_inv h
  cases h
  exact g_zret rfl z1 dX11_isHeard_62 rfl
theorem ok_J_X11_isHeard_31 (Θ : GP) (l0 : Nat) (l1 : Int32) (s0 : Int32) (s1 : Nat) (ω : OW) (n : Nat) (r : Out) (h : J_X11_isHeard_31 Θ l0 l1 s0 s1 ω n = some r) : GR Θ yX11_isHeard cX11_isHeard 5 (some .boolean) 11 (0, 0) 31 [(0, .ref l0), (1, .int l1)] [.int s0, .ref s1] ω n r := by
  unfold J_X11_isHeard_31 at h
  refine g_wF fl_X11_319 dX11_isHeard_31 (rfl) rfl h (fun ω h => ?_)
  refine g_aload_n dX11_isHeard_34 rfl 0 rfl ?_
  refine g_iload_n dX11_isHeard_35 rfl 1 rfl ?_
  refine g_cI (ci := 11) (As := [.int l1]) mv_X11_367 dX11_isHeard_36 rfl (ok_X11_ridesStraight Θ l0 l1 _ _) rfl rfl (Nat.le_of_ble_eq_true rfl) (by decide) (by decide) (by decide) h (fun x2 ω n h => ?_)
  refine G.less (B' := (0, 0)) (by decide) (by decide) ?_
  refine g_iconst (v := (-1)) dX11_isHeard_39 (by decide) ?_
  refine g_icmp_eq (tgt := 47) dX11_isHeard_40 (by decide) (fun c3 => ?_) (fun c3 => ?_)
  · rw [if_pos c3] at h
    refine g_iconst (v := 0) dX11_isHeard_47 (by decide) ?_
    refine G.lsub [0] rfl ?_
    exact ok_J_X11_isHeard_48 Θ l0 0 _ _ r h
  · rw [if_neg c3] at h
    refine g_iconst (v := 1) dX11_isHeard_43 (by decide) ?_
    refine g_goto (tgt := 48) dX11_isHeard_44 (by decide) ?_
    refine G.lsub [0] rfl ?_
    exact ok_J_X11_isHeard_48 Θ l0 1 _ _ r h
theorem ok_J_X11_isHeard_14 (Θ : GP) (l0 : Nat) (l1 : Int32) (l3 : Int32) (s0 : Int32) (s1 : Nat) (ω : OW) (n : Nat) (r : Out) (h : J_X11_isHeard_14 Θ l0 l1 l3 s0 s1 ω n = some r) : GR Θ yX11_isHeard cX11_isHeard 5 (some .boolean) 11 (0, 0) 14 [(0, .ref l0), (1, .int l1), (3, .int l3)] [.int s0, .ref s1] ω n r := by
  unfold J_X11_isHeard_14 at h
  refine g_wF fl_X11_313 dX11_isHeard_14 (rfl) rfl h (fun ω h => ?_)
  refine g_aload_n dX11_isHeard_17 rfl 0 rfl ?_
  refine g_iload_n dX11_isHeard_18 rfl 2 rfl ?_
  refine g_bipush (v := 8) dX11_isHeard_19 (by decide) ?_
  refine g_icmp_ne (tgt := 28) dX11_isHeard_21 (by decide) (fun c4 => ?_) (fun c4 => ?_)
  · rw [if_neg c4] at h
    refine g_iconst (v := 1) dX11_isHeard_28 (by decide) ?_
    refine g_iload_n dX11_isHeard_29 rfl 2 rfl ?_
    refine g_ishl dX11_isHeard_30 ?_
    refine G.lsub [0, 1] rfl ?_
    exact ok_J_X11_isHeard_31 Θ l0 l1 (1 <<< ((l3 : Int32) &&& 31)) l0 _ _ r h
  · rw [if_pos c4] at h
    refine g_iconst (v := 0) dX11_isHeard_24 (by decide) ?_
    refine g_goto (tgt := 31) dX11_isHeard_25 (by decide) ?_
    refine G.lsub [0, 1] rfl ?_
    exact ok_J_X11_isHeard_31 Θ l0 l1 0 l0 _ _ r h
theorem ok_X11_isHeard (Θ : GP) (l0 : Nat) (l1 : Int32) (l2 : Int32) (l3 : Int32) (ω : OW) (n : Nat) : Ok Θ 11 0 0 yX11_isHeard cX11_isHeard 5 (some .boolean) [.ref l0, .int l1, .int l2, .int l3] ω n (F_X11_isHeard Θ l0 l1 l2 l3 ω n) := by
  refine Ok.of (by decide +kernel) (Nat.le_of_ble_eq_true rfl) (fun r h => ?_)
  unfold F_X11_isHeard at h
  show GR Θ yX11_isHeard cX11_isHeard 5 (some .boolean) 11 (0, 0) 0 [(0, .ref l0), (1, .int l1), (2, .int l2), (3, .int l3)] [] ω n r
  refine g_aload_n dX11_isHeard_0 rfl 0 rfl ?_
  refine g_iload_n dX11_isHeard_1 rfl 2 rfl ?_
  refine g_bipush (v := 8) dX11_isHeard_2 (by decide) ?_
  refine g_icmp_ne (tgt := 11) dX11_isHeard_4 (by decide) (fun c5 => ?_) (fun c5 => ?_)
  · rw [if_neg c5] at h
    refine g_iconst (v := 1) dX11_isHeard_11 (by decide) ?_
    refine g_iload_n dX11_isHeard_12 rfl 2 rfl ?_
    refine g_ishl dX11_isHeard_13 ?_
    refine G.lsub [0, 1, 3] rfl ?_
    exact ok_J_X11_isHeard_14 Θ l0 l1 l3 (1 <<< ((l2 : Int32) &&& 31)) l0 _ _ r h
  · rw [if_pos c5] at h
    refine g_iconst (v := 0) dX11_isHeard_7 (by decide) ?_
    refine g_goto (tgt := 14) dX11_isHeard_8 (by decide) ?_
    refine G.lsub [0, 1, 3] rfl ?_
    exact ok_J_X11_isHeard_14 Θ l0 l1 l3 0 l0 _ _ r h
def J_X11_canBe_27 (Θ : GP) (s0 : Int32) (ω : OW) (n : Nat) : RO := bz s0 (some (.inl (some (.int s0), ω, n)))
def J_X11_canBe_26 (Θ : GP) (ω : OW) (n : Nat) : RO := J_X11_canBe_27 Θ 0 ω n
def J_X11_canBe_22 (Θ : GP) (ω : OW) (n : Nat) : RO := J_X11_canBe_27 Θ 1 ω n
def F_X11_canBe (Θ : GP) (l0 : Nat) (l1 : Int32) (ω : OW) (n : Nat) : RO := if l1 = 8 then (J_X11_canBe_22 Θ ω n) else (cO ω l0 11 (kI (F_X11_props Θ l0 ω n) (fun x3 ω n => if x3 ≤ l1 then (J_X11_canBe_26 Θ ω n) else (cO ω l0 11 (kI (F_X11_isNailed Θ l0 l1 ω n) (fun x5 ω n => if x5 = 0 then (J_X11_canBe_26 Θ ω n) else (J_X11_canBe_22 Θ ω n)))))))
theorem ok_J_X11_canBe_27 (Θ : GP) (s0 : Int32) (ω : OW) (n : Nat) (r : Out) (h : J_X11_canBe_27 Θ s0 ω n = some r) : GR Θ yX11_canBe cX11_canBe 2 (some .boolean) 4 (0, 0) 27 [] [.int s0] ω n r := by
  unfold J_X11_canBe_27 at h
  obtain ⟨z1, h⟩ := bz_inv h
  cases h
  exact g_zret rfl z1 dX11_canBe_27 rfl
theorem ok_J_X11_canBe_26 (Θ : GP) (ω : OW) (n : Nat) (r : Out) (h : J_X11_canBe_26 Θ ω n = some r) : GR Θ yX11_canBe cX11_canBe 2 (some .boolean) 4 (0, 0) 26 [] [] ω n r := by
  unfold J_X11_canBe_26 at h
  refine g_iconst (v := 0) dX11_canBe_26 (by decide) ?_
  exact ok_J_X11_canBe_27 Θ 0 _ _ r h
theorem ok_J_X11_canBe_22 (Θ : GP) (ω : OW) (n : Nat) (r : Out) (h : J_X11_canBe_22 Θ ω n = some r) : GR Θ yX11_canBe cX11_canBe 2 (some .boolean) 4 (0, 0) 22 [] [] ω n r := by
  unfold J_X11_canBe_22 at h
  refine g_iconst (v := 1) dX11_canBe_22 (by decide) ?_
  refine g_goto (tgt := 27) dX11_canBe_23 (by decide) ?_
  exact ok_J_X11_canBe_27 Θ 1 _ _ r h
theorem ok_X11_canBe (Θ : GP) (l0 : Nat) (l1 : Int32) (ω : OW) (n : Nat) : Ok Θ 4 0 0 yX11_canBe cX11_canBe 2 (some .boolean) [.ref l0, .int l1] ω n (F_X11_canBe Θ l0 l1 ω n) := by
  refine Ok.of (by decide +kernel) (Nat.le_of_ble_eq_true rfl) (fun r h => ?_)
  unfold F_X11_canBe at h
  show GR Θ yX11_canBe cX11_canBe 2 (some .boolean) 4 (0, 0) 0 [(0, .ref l0), (1, .int l1)] [] ω n r
  refine g_iload_n dX11_canBe_0 rfl 1 rfl ?_
  refine g_bipush (v := 8) dX11_canBe_1 (by decide) ?_
  refine g_icmp_eq (tgt := 22) dX11_canBe_3 (by decide) (fun c2 => ?_) (fun c2 => ?_)
  · rw [if_pos c2] at h
    refine G.lsub [] rfl ?_
    exact ok_J_X11_canBe_22 Θ _ _ r h
  · rw [if_neg c2] at h
    refine g_iload_n dX11_canBe_6 rfl 1 rfl ?_
    refine g_aload_n dX11_canBe_7 rfl 0 rfl ?_
    refine g_cI (ci := 11) (As := []) mv_X11_83 dX11_canBe_8 rfl (ok_X11_props Θ l0 _ _) rfl rfl (Nat.le_of_ble_eq_true rfl) (by decide) (by decide) (by decide) h (fun x3 ω n h => ?_)
    refine G.less (B' := (0, 0)) (by decide) (by decide) ?_
    refine g_icmp_ge (tgt := 26) dX11_canBe_11 (by decide) (fun c4 => ?_) (fun c4 => ?_)
    · rw [if_pos c4] at h
      refine G.lsub [] rfl ?_
      exact ok_J_X11_canBe_26 Θ _ _ r h
    · rw [if_neg c4] at h
      refine g_aload_n dX11_canBe_14 rfl 0 rfl ?_
      refine g_iload_n dX11_canBe_15 rfl 1 rfl ?_
      refine g_cI (ci := 11) (As := [.int l1]) mv_X11_94 dX11_canBe_16 rfl (ok_X11_isNailed Θ l0 l1 _ _) rfl rfl (Nat.le_of_ble_eq_true rfl) (by decide) (by decide) (by decide) h (fun x5 ω n h => ?_)
      refine G.less (B' := (0, 0)) (by decide) (by decide) ?_
      refine g_if_eq (tgt := 26) dX11_canBe_19 (by decide) (fun c6 => ?_) (fun c6 => ?_)
      · rw [if_pos c6] at h
        refine G.lsub [] rfl ?_
        exact ok_J_X11_canBe_26 Θ _ _ r h
      · rw [if_neg c6] at h
        refine G.lsub [] rfl ?_
        exact ok_J_X11_canBe_22 Θ _ _ r h
def J_X11_rests_112 (Θ : GP) (l4 : Int32) (ω : OW) (n : Nat) : RO := bz l4 (some (.inl (some (.int l4), ω, n)))
def J_X11_rests_104 (Θ : GP) (k_48 : Nat → Int32 → Int32 → Int32 → Int32 → Int32 → Int32 → OW → Nat → RO) (l0 : Nat) (l1 : Int32) (l2 : Int32) (l3 : Int32) (l5 : Int32) (l6 : Int32) (s0 : Int32) (ω : OW) (n : Nat) : RO := k_48 l0 l1 l2 l3 s0 l5 (l6 + 1) ω n
def J_X11_rests_103 (Θ : GP) (k_48 : Nat → Int32 → Int32 → Int32 → Int32 → Int32 → Int32 → OW → Nat → RO) (l0 : Nat) (l1 : Int32) (l2 : Int32) (l3 : Int32) (l5 : Int32) (l6 : Int32) (ω : OW) (n : Nat) : RO := J_X11_rests_104 Θ k_48 l0 l1 l2 l3 l5 l6 0 ω n
def J_X11_rests_99 (Θ : GP) (k_48 : Nat → Int32 → Int32 → Int32 → Int32 → Int32 → Int32 → OW → Nat → RO) (l0 : Nat) (l1 : Int32) (l2 : Int32) (l3 : Int32) (l5 : Int32) (l6 : Int32) (ω : OW) (n : Nat) : RO := J_X11_rests_104 Θ k_48 l0 l1 l2 l3 l5 l6 1 ω n
def B_X11_rests_48 (Θ : GP) (k_48 : Nat → Int32 → Int32 → Int32 → Int32 → Int32 → Int32 → OW → Nat → RO) (l0 : Nat) (l1 : Int32) (l2 : Int32) (l3 : Int32) (l4 : Int32) (l5 : Int32) (l6 : Int32) (ω : OW) (n : Nat) : RO := if 8 < l6 then (J_X11_rests_112 Θ l4 ω n) else (if l4 = 0 then (J_X11_rests_112 Θ l4 ω n) else (cO ω l0 11 (kI (F_X11_canBe Θ l0 l6 ω n) (fun x4 ω n => if x4 = 0 then (J_X11_rests_99 Θ k_48 l0 l1 l2 l3 l5 l6 ω n) else (if l5 = 0 then (cO ω l0 11 (kI (F_X11_isHeard Θ l0 l1 l6 l3 ω n) (fun x7 ω n => if x7 = 0 then (J_X11_rests_99 Θ k_48 l0 l1 l2 l3 l5 l6 ω n) else (J_X11_rests_103 Θ k_48 l0 l1 l2 l3 l5 l6 ω n)))) else (cO ω l0 11 (kI (F_X11_isHeard Θ l0 l1 l2 l6 ω n) (fun x9 ω n => if x9 = 0 then (J_X11_rests_103 Θ k_48 l0 l1 l2 l3 l5 l6 ω n) else (J_X11_rests_99 Θ k_48 l0 l1 l2 l3 l5 l6 ω n)))))))))
def L_X11_rests_48 (Θ : GP) : Nat → Nat → Int32 → Int32 → Int32 → Int32 → Int32 → Int32 → OW → Nat → RO
  | 0, _, _, _, _, _, _, _, _, _ => none
  | f + 1, l0, l1, l2, l3, l4, l5, l6, ω, n => B_X11_rests_48 Θ (L_X11_rests_48 Θ f) l0 l1 l2 l3 l4 l5 l6 ω n
def J_X11_rests_43 (Θ : GP) (l0 : Nat) (l1 : Int32) (l2 : Int32) (l3 : Int32) (l4 : Int32) (s0 : Int32) (ω : OW) (n : Nat) : RO := L_X11_rests_48 Θ 5000 l0 l1 l2 l3 l4 s0 0 ω n
def J_X11_rests_42 (Θ : GP) (l0 : Nat) (l1 : Int32) (l2 : Int32) (l3 : Int32) (l4 : Int32) (ω : OW) (n : Nat) : RO := J_X11_rests_43 Θ l0 l1 l2 l3 l4 0 ω n
def J_X11_rests_21 (Θ : GP) (l0 : Nat) (l1 : Int32) (l2 : Int32) (l3 : Int32) (s0 : Int32) (ω : OW) (n : Nat) : RO := if s0 = 0 then (J_X11_rests_42 Θ l0 l1 l2 l3 s0 ω n) else (cO ω l0 11 (kI (F_X11_isHeard Θ l0 l1 l2 l3 ω n) (fun x12 ω n => if x12 = 0 then (J_X11_rests_42 Θ l0 l1 l2 l3 s0 ω n) else (J_X11_rests_43 Θ l0 l1 l2 l3 s0 1 ω n))))
def J_X11_rests_20 (Θ : GP) (l0 : Nat) (l1 : Int32) (l2 : Int32) (l3 : Int32) (ω : OW) (n : Nat) : RO := J_X11_rests_21 Θ l0 l1 l2 l3 0 ω n
def F_X11_rests (Θ : GP) (l0 : Nat) (l1 : Int32) (l2 : Int32) (l3 : Int32) (ω : OW) (n : Nat) : RO := cO ω l0 11 (kI (F_X11_canBe Θ l0 l2 ω n) (fun x14 ω n => if x14 = 0 then (J_X11_rests_20 Θ l0 l1 l2 l3 ω n) else (cO ω l0 11 (kI (F_X11_canBe Θ l0 l3 ω n) (fun x16 ω n => if x16 = 0 then (J_X11_rests_20 Θ l0 l1 l2 l3 ω n) else (J_X11_rests_21 Θ l0 l1 l2 l3 1 ω n))))))
theorem ok_J_X11_rests_112 (Θ : GP) (l4 : Int32) (ω : OW) (n : Nat) (r : Out) (h : J_X11_rests_112 Θ l4 ω n = some r) : GR Θ yX11_rests cX11_rests 7 (some .boolean) 12 (0, 0) 112 [(4, .int l4)] [] ω n r := by
  unfold J_X11_rests_112 at h
  refine g_iload dX11_rests_112 0 rfl ?_
  obtain ⟨z1, h⟩ := bz_inv h
  cases h
  exact g_zret rfl z1 dX11_rests_114 rfl
theorem ok_J_X11_rests_104 (Θ : GP) (k_48 : Nat → Int32 → Int32 → Int32 → Int32 → Int32 → Int32 → OW → Nat → RO) (hk_48 : ∀ l0 l1 l2 l3 l4 l5 l6 ω n r, k_48 l0 l1 l2 l3 l4 l5 l6 ω n = some r → GR Θ yX11_rests cX11_rests 7 (some .boolean) 12 (0, 0) 48 [(0, .ref l0), (1, .int l1), (2, .int l2), (3, .int l3), (4, .int l4), (5, .int l5), (6, .int l6)] [] ω n r) (l0 : Nat) (l1 : Int32) (l2 : Int32) (l3 : Int32) (l5 : Int32) (l6 : Int32) (s0 : Int32) (ω : OW) (n : Nat) (r : Out) (h : J_X11_rests_104 Θ k_48 l0 l1 l2 l3 l5 l6 s0 ω n = some r) : GR Θ yX11_rests cX11_rests 7 (some .boolean) 12 (0, 0) 104 [(0, .ref l0), (1, .int l1), (2, .int l2), (3, .int l3), (5, .int l5), (6, .int l6)] [.int s0] ω n r := by
  unfold J_X11_rests_104 at h
  refine g_istore (lv' := [(4, .int s0), (0, .ref l0), (1, .int l1), (2, .int l2), (3, .int l3), (5, .int l5), (6, .int l6)]) dX11_rests_104 (by decide) rfl ?_
  refine g_iinc (j := 6) (v := l6 + 1) (lv' := [(6, .int (l6 + 1)), (4, .int s0), (0, .ref l0), (1, .int l1), (2, .int l2), (3, .int l3), (5, .int l5)]) dX11_rests_106 rfl rfl (by decide) rfl ?_
  refine g_goto (tgt := 48) dX11_rests_109 (by decide) ?_
  refine G.lsub [2, 3, 4, 5, 1, 6, 0] rfl ?_
  exact hk_48 l0 l1 l2 l3 s0 l5 (l6 + 1) _ _ r h
theorem ok_J_X11_rests_103 (Θ : GP) (k_48 : Nat → Int32 → Int32 → Int32 → Int32 → Int32 → Int32 → OW → Nat → RO) (hk_48 : ∀ l0 l1 l2 l3 l4 l5 l6 ω n r, k_48 l0 l1 l2 l3 l4 l5 l6 ω n = some r → GR Θ yX11_rests cX11_rests 7 (some .boolean) 12 (0, 0) 48 [(0, .ref l0), (1, .int l1), (2, .int l2), (3, .int l3), (4, .int l4), (5, .int l5), (6, .int l6)] [] ω n r) (l0 : Nat) (l1 : Int32) (l2 : Int32) (l3 : Int32) (l5 : Int32) (l6 : Int32) (ω : OW) (n : Nat) (r : Out) (h : J_X11_rests_103 Θ k_48 l0 l1 l2 l3 l5 l6 ω n = some r) : GR Θ yX11_rests cX11_rests 7 (some .boolean) 12 (0, 0) 103 [(0, .ref l0), (1, .int l1), (2, .int l2), (3, .int l3), (5, .int l5), (6, .int l6)] [] ω n r := by
  unfold J_X11_rests_103 at h
  refine g_iconst (v := 0) dX11_rests_103 (by decide) ?_
  exact ok_J_X11_rests_104 Θ k_48 hk_48 l0 l1 l2 l3 l5 l6 0 _ _ r h
theorem ok_J_X11_rests_99 (Θ : GP) (k_48 : Nat → Int32 → Int32 → Int32 → Int32 → Int32 → Int32 → OW → Nat → RO) (hk_48 : ∀ l0 l1 l2 l3 l4 l5 l6 ω n r, k_48 l0 l1 l2 l3 l4 l5 l6 ω n = some r → GR Θ yX11_rests cX11_rests 7 (some .boolean) 12 (0, 0) 48 [(0, .ref l0), (1, .int l1), (2, .int l2), (3, .int l3), (4, .int l4), (5, .int l5), (6, .int l6)] [] ω n r) (l0 : Nat) (l1 : Int32) (l2 : Int32) (l3 : Int32) (l5 : Int32) (l6 : Int32) (ω : OW) (n : Nat) (r : Out) (h : J_X11_rests_99 Θ k_48 l0 l1 l2 l3 l5 l6 ω n = some r) : GR Θ yX11_rests cX11_rests 7 (some .boolean) 12 (0, 0) 99 [(0, .ref l0), (1, .int l1), (2, .int l2), (3, .int l3), (5, .int l5), (6, .int l6)] [] ω n r := by
  unfold J_X11_rests_99 at h
  refine g_iconst (v := 1) dX11_rests_99 (by decide) ?_
  refine g_goto (tgt := 104) dX11_rests_100 (by decide) ?_
  exact ok_J_X11_rests_104 Θ k_48 hk_48 l0 l1 l2 l3 l5 l6 1 _ _ r h
theorem ok_B_X11_rests_48 (Θ : GP) (k_48 : Nat → Int32 → Int32 → Int32 → Int32 → Int32 → Int32 → OW → Nat → RO) (hk_48 : ∀ l0 l1 l2 l3 l4 l5 l6 ω n r, k_48 l0 l1 l2 l3 l4 l5 l6 ω n = some r → GR Θ yX11_rests cX11_rests 7 (some .boolean) 12 (0, 0) 48 [(0, .ref l0), (1, .int l1), (2, .int l2), (3, .int l3), (4, .int l4), (5, .int l5), (6, .int l6)] [] ω n r) (l0 : Nat) (l1 : Int32) (l2 : Int32) (l3 : Int32) (l4 : Int32) (l5 : Int32) (l6 : Int32) (ω : OW) (n : Nat) (r : Out) (h : B_X11_rests_48 Θ k_48 l0 l1 l2 l3 l4 l5 l6 ω n = some r) : GR Θ yX11_rests cX11_rests 7 (some .boolean) 12 (0, 0) 48 [(0, .ref l0), (1, .int l1), (2, .int l2), (3, .int l3), (4, .int l4), (5, .int l5), (6, .int l6)] [] ω n r := by
  unfold B_X11_rests_48 at h
  refine g_iload dX11_rests_48 6 rfl ?_
  refine g_bipush (v := 8) dX11_rests_50 (by decide) ?_
  refine g_icmp_gt (tgt := 112) dX11_rests_52 (by decide) (fun c2 => ?_) (fun c2 => ?_)
  · rw [if_pos c2] at h
    refine G.lsub [4] rfl ?_
    exact ok_J_X11_rests_112 Θ l4 _ _ r h
  · rw [if_neg c2] at h
    refine g_iload dX11_rests_55 4 rfl ?_
    refine g_if_eq (tgt := 112) dX11_rests_57 (by decide) (fun c3 => ?_) (fun c3 => ?_)
    · rw [if_pos c3] at h
      refine G.lsub [4] rfl ?_
      exact ok_J_X11_rests_112 Θ l4 _ _ r h
    · rw [if_neg c3] at h
      refine g_aload_n dX11_rests_60 rfl 0 rfl ?_
      refine g_iload dX11_rests_61 6 rfl ?_
      refine g_cI (ci := 11) (As := [.int l6]) mv_X11_428 dX11_rests_63 rfl (ok_X11_canBe Θ l0 l6 _ _) rfl rfl (Nat.le_of_ble_eq_true rfl) (by decide) (by decide) (by decide) h (fun x4 ω n h => ?_)
      refine G.less (B' := (0, 0)) (by decide) (by decide) ?_
      refine g_if_eq (tgt := 99) dX11_rests_66 (by decide) (fun c5 => ?_) (fun c5 => ?_)
      · rw [if_pos c5] at h
        refine G.lsub [0, 1, 2, 3, 5, 6] rfl ?_
        exact ok_J_X11_rests_99 Θ k_48 hk_48 l0 l1 l2 l3 l5 l6 _ _ r h
      · rw [if_neg c5] at h
        refine g_iload dX11_rests_69 5 rfl ?_
        refine g_if_eq (tgt := 88) dX11_rests_71 (by decide) (fun c6 => ?_) (fun c6 => ?_)
        · rw [if_pos c6] at h
          refine g_aload_n dX11_rests_88 rfl 0 rfl ?_
          refine g_iload_n dX11_rests_89 rfl 1 rfl ?_
          refine g_iload dX11_rests_90 6 rfl ?_
          refine g_iload_n dX11_rests_92 rfl 3 rfl ?_
          refine g_cI (ci := 11) (As := [.int l1, .int l6, .int l3]) mv_X11_431 dX11_rests_93 rfl (ok_X11_isHeard Θ l0 l1 l6 l3 _ _) rfl rfl (Nat.le_of_ble_eq_true rfl) (by decide) (by decide) (by decide) h (fun x7 ω n h => ?_)
          refine G.less (B' := (0, 0)) (by decide) (by decide) ?_
          refine g_if_ne (tgt := 103) dX11_rests_96 (by decide) (fun c8 => ?_) (fun c8 => ?_)
          · rw [if_neg c8] at h
            refine G.lsub [0, 1, 2, 3, 5, 6] rfl ?_
            exact ok_J_X11_rests_103 Θ k_48 hk_48 l0 l1 l2 l3 l5 l6 _ _ r h
          · rw [if_pos c8] at h
            refine G.lsub [0, 1, 2, 3, 5, 6] rfl ?_
            exact ok_J_X11_rests_99 Θ k_48 hk_48 l0 l1 l2 l3 l5 l6 _ _ r h
        · rw [if_neg c6] at h
          refine g_aload_n dX11_rests_74 rfl 0 rfl ?_
          refine g_iload_n dX11_rests_75 rfl 1 rfl ?_
          refine g_iload_n dX11_rests_76 rfl 2 rfl ?_
          refine g_iload dX11_rests_77 6 rfl ?_
          refine g_cI (ci := 11) (As := [.int l1, .int l2, .int l6]) mv_X11_431 dX11_rests_79 rfl (ok_X11_isHeard Θ l0 l1 l2 l6 _ _) rfl rfl (Nat.le_of_ble_eq_true rfl) (by decide) (by decide) (by decide) h (fun x9 ω n h => ?_)
          refine G.less (B' := (0, 0)) (by decide) (by decide) ?_
          refine g_if_eq (tgt := 103) dX11_rests_82 (by decide) (fun c10 => ?_) (fun c10 => ?_)
          · rw [if_pos c10] at h
            refine G.lsub [0, 1, 2, 3, 5, 6] rfl ?_
            exact ok_J_X11_rests_103 Θ k_48 hk_48 l0 l1 l2 l3 l5 l6 _ _ r h
          · rw [if_neg c10] at h
            refine g_goto (tgt := 99) dX11_rests_85 (by decide) ?_
            refine G.lsub [0, 1, 2, 3, 5, 6] rfl ?_
            exact ok_J_X11_rests_99 Θ k_48 hk_48 l0 l1 l2 l3 l5 l6 _ _ r h
theorem ok_L_X11_rests_48 (Θ : GP) : ∀ (f : Nat) (l0 : Nat) (l1 : Int32) (l2 : Int32) (l3 : Int32) (l4 : Int32) (l5 : Int32) (l6 : Int32) (ω : OW) (n : Nat) (r : Out), L_X11_rests_48 Θ f l0 l1 l2 l3 l4 l5 l6 ω n = some r → GR Θ yX11_rests cX11_rests 7 (some .boolean) 12 (0, 0) 48 [(0, .ref l0), (1, .int l1), (2, .int l2), (3, .int l3), (4, .int l4), (5, .int l5), (6, .int l6)] [] ω n r := by
  intro f
  induction f with
  | zero =>
    intro l0 l1 l2 l3 l4 l5 l6 ω n r h
    unfold L_X11_rests_48 at h
    cases h
  | succ f ih =>
    intro l0 l1 l2 l3 l4 l5 l6 ω n r h
    unfold L_X11_rests_48 at h
    exact ok_B_X11_rests_48 Θ (L_X11_rests_48 Θ f) ih l0 l1 l2 l3 l4 l5 l6 ω n r h
theorem ok_J_X11_rests_43 (Θ : GP) (l0 : Nat) (l1 : Int32) (l2 : Int32) (l3 : Int32) (l4 : Int32) (s0 : Int32) (ω : OW) (n : Nat) (r : Out) (h : J_X11_rests_43 Θ l0 l1 l2 l3 l4 s0 ω n = some r) : GR Θ yX11_rests cX11_rests 7 (some .boolean) 12 (0, 0) 43 [(0, .ref l0), (1, .int l1), (2, .int l2), (3, .int l3), (4, .int l4)] [.int s0] ω n r := by
  unfold J_X11_rests_43 at h
  refine g_istore (lv' := [(5, .int s0), (0, .ref l0), (1, .int l1), (2, .int l2), (3, .int l3), (4, .int l4)]) dX11_rests_43 (by decide) rfl ?_
  refine g_iconst (v := 0) dX11_rests_45 (by decide) ?_
  refine g_istore (lv' := [(6, .int 0), (5, .int s0), (0, .ref l0), (1, .int l1), (2, .int l2), (3, .int l3), (4, .int l4)]) dX11_rests_46 (by decide) rfl ?_
  refine G.lsub [2, 3, 4, 5, 6, 1, 0] rfl ?_
  exact ok_L_X11_rests_48 Θ 5000 l0 l1 l2 l3 l4 s0 0 _ _ r h
theorem ok_J_X11_rests_42 (Θ : GP) (l0 : Nat) (l1 : Int32) (l2 : Int32) (l3 : Int32) (l4 : Int32) (ω : OW) (n : Nat) (r : Out) (h : J_X11_rests_42 Θ l0 l1 l2 l3 l4 ω n = some r) : GR Θ yX11_rests cX11_rests 7 (some .boolean) 12 (0, 0) 42 [(0, .ref l0), (1, .int l1), (2, .int l2), (3, .int l3), (4, .int l4)] [] ω n r := by
  unfold J_X11_rests_42 at h
  refine g_iconst (v := 0) dX11_rests_42 (by decide) ?_
  exact ok_J_X11_rests_43 Θ l0 l1 l2 l3 l4 0 _ _ r h
theorem ok_J_X11_rests_21 (Θ : GP) (l0 : Nat) (l1 : Int32) (l2 : Int32) (l3 : Int32) (s0 : Int32) (ω : OW) (n : Nat) (r : Out) (h : J_X11_rests_21 Θ l0 l1 l2 l3 s0 ω n = some r) : GR Θ yX11_rests cX11_rests 7 (some .boolean) 12 (0, 0) 21 [(0, .ref l0), (1, .int l1), (2, .int l2), (3, .int l3)] [.int s0] ω n r := by
  unfold J_X11_rests_21 at h
  refine g_istore (lv' := [(4, .int s0), (0, .ref l0), (1, .int l1), (2, .int l2), (3, .int l3)]) dX11_rests_21 (by decide) rfl ?_
  refine g_iload dX11_rests_23 0 rfl ?_
  refine g_if_eq (tgt := 42) dX11_rests_25 (by decide) (fun c11 => ?_) (fun c11 => ?_)
  · rw [if_pos c11] at h
    refine G.lsub [1, 2, 3, 4, 0] rfl ?_
    exact ok_J_X11_rests_42 Θ l0 l1 l2 l3 s0 _ _ r h
  · rw [if_neg c11] at h
    refine g_aload_n dX11_rests_28 rfl 1 rfl ?_
    refine g_iload_n dX11_rests_29 rfl 2 rfl ?_
    refine g_iload_n dX11_rests_30 rfl 3 rfl ?_
    refine g_iload_n dX11_rests_31 rfl 4 rfl ?_
    refine g_cI (ci := 11) (As := [.int l1, .int l2, .int l3]) mv_X11_431 dX11_rests_32 rfl (ok_X11_isHeard Θ l0 l1 l2 l3 _ _) rfl rfl (Nat.le_of_ble_eq_true rfl) (by decide) (by decide) (by decide) h (fun x12 ω n h => ?_)
    refine G.less (B' := (0, 0)) (by decide) (by decide) ?_
    refine g_if_eq (tgt := 42) dX11_rests_35 (by decide) (fun c13 => ?_) (fun c13 => ?_)
    · rw [if_pos c13] at h
      refine G.lsub [1, 2, 3, 4, 0] rfl ?_
      exact ok_J_X11_rests_42 Θ l0 l1 l2 l3 s0 _ _ r h
    · rw [if_neg c13] at h
      refine g_iconst (v := 1) dX11_rests_38 (by decide) ?_
      refine g_goto (tgt := 43) dX11_rests_39 (by decide) ?_
      refine G.lsub [1, 2, 3, 4, 0] rfl ?_
      exact ok_J_X11_rests_43 Θ l0 l1 l2 l3 s0 1 _ _ r h
theorem ok_J_X11_rests_20 (Θ : GP) (l0 : Nat) (l1 : Int32) (l2 : Int32) (l3 : Int32) (ω : OW) (n : Nat) (r : Out) (h : J_X11_rests_20 Θ l0 l1 l2 l3 ω n = some r) : GR Θ yX11_rests cX11_rests 7 (some .boolean) 12 (0, 0) 20 [(0, .ref l0), (1, .int l1), (2, .int l2), (3, .int l3)] [] ω n r := by
  unfold J_X11_rests_20 at h
  refine g_iconst (v := 0) dX11_rests_20 (by decide) ?_
  exact ok_J_X11_rests_21 Θ l0 l1 l2 l3 0 _ _ r h
theorem ok_X11_rests (Θ : GP) (l0 : Nat) (l1 : Int32) (l2 : Int32) (l3 : Int32) (ω : OW) (n : Nat) : Ok Θ 12 0 0 yX11_rests cX11_rests 7 (some .boolean) [.ref l0, .int l1, .int l2, .int l3] ω n (F_X11_rests Θ l0 l1 l2 l3 ω n) := by
  refine Ok.of (by decide +kernel) (Nat.le_of_ble_eq_true rfl) (fun r h => ?_)
  unfold F_X11_rests at h
  show GR Θ yX11_rests cX11_rests 7 (some .boolean) 12 (0, 0) 0 [(0, .ref l0), (1, .int l1), (2, .int l2), (3, .int l3)] [] ω n r
  refine g_aload_n dX11_rests_0 rfl 0 rfl ?_
  refine g_iload_n dX11_rests_1 rfl 2 rfl ?_
  refine g_cI (ci := 11) (As := [.int l2]) mv_X11_428 dX11_rests_2 rfl (ok_X11_canBe Θ l0 l2 _ _) rfl rfl (Nat.le_of_ble_eq_true rfl) (by decide) (by decide) (by decide) h (fun x14 ω n h => ?_)
  refine G.less (B' := (0, 0)) (by decide) (by decide) ?_
  refine g_if_eq (tgt := 20) dX11_rests_5 (by decide) (fun c15 => ?_) (fun c15 => ?_)
  · rw [if_pos c15] at h
    exact ok_J_X11_rests_20 Θ l0 l1 l2 l3 _ _ r h
  · rw [if_neg c15] at h
    refine g_aload_n dX11_rests_8 rfl 0 rfl ?_
    refine g_iload_n dX11_rests_9 rfl 3 rfl ?_
    refine g_cI (ci := 11) (As := [.int l3]) mv_X11_428 dX11_rests_10 rfl (ok_X11_canBe Θ l0 l3 _ _) rfl rfl (Nat.le_of_ble_eq_true rfl) (by decide) (by decide) (by decide) h (fun x16 ω n h => ?_)
    refine G.less (B' := (0, 0)) (by decide) (by decide) ?_
    refine g_if_eq (tgt := 20) dX11_rests_13 (by decide) (fun c17 => ?_) (fun c17 => ?_)
    · rw [if_pos c17] at h
      exact ok_J_X11_rests_20 Θ l0 l1 l2 l3 _ _ r h
    · rw [if_neg c17] at h
      refine g_iconst (v := 1) dX11_rests_16 (by decide) ?_
      refine g_goto (tgt := 21) dX11_rests_17 (by decide) ?_
      exact ok_J_X11_rests_21 Θ l0 l1 l2 l3 1 _ _ r h
def J_X11_usher_57 (Θ : GP) (k_24 : Nat → Int32 → Int32 → Int32 → OW → Nat → RO) (k_33 : Nat → Int32 → Int32 → Int32 → Int32 → OW → Nat → RO) (l0 : Nat) (l1 : Int32) (l3 : Int32) (l4 : Int32) (s0 : Int32) (s1 : Int32) (ω : OW) (n : Nat) : RO := k_33 l0 l1 (s1 + s0) l3 (l4 + 1) ω n
def B_X11_usher_33 (Θ : GP) (k_24 : Nat → Int32 → Int32 → Int32 → OW → Nat → RO) (k_33 : Nat → Int32 → Int32 → Int32 → Int32 → OW → Nat → RO) (l0 : Nat) (l1 : Int32) (l2 : Int32) (l3 : Int32) (l4 : Int32) (ω : OW) (n : Nat) : RO := if 8 < l4 then (k_24 l0 l1 l2 (l3 + 1) ω n) else (cO ω l0 11 (kI (F_X11_rests Θ l0 l1 l3 l4 ω n) (fun x2 ω n => if x2 = 0 then (J_X11_usher_57 Θ k_24 k_33 l0 l1 l3 l4 0 l2 ω n) else (J_X11_usher_57 Θ k_24 k_33 l0 l1 l3 l4 1 l2 ω n))))
def L_X11_usher_33 (Θ : GP) (k_24 : Nat → Int32 → Int32 → Int32 → OW → Nat → RO) : Nat → Nat → Int32 → Int32 → Int32 → Int32 → OW → Nat → RO
  | 0, _, _, _, _, _, _, _ => none
  | f + 1, l0, l1, l2, l3, l4, ω, n => B_X11_usher_33 Θ k_24 (L_X11_usher_33 Θ k_24 f) l0 l1 l2 l3 l4 ω n
def B_X11_usher_24 (Θ : GP) (k_24 : Nat → Int32 → Int32 → Int32 → OW → Nat → RO) (l0 : Nat) (l1 : Int32) (l2 : Int32) (l3 : Int32) (ω : OW) (n : Nat) : RO := if 8 < l3 then (some (.inl (some (.int l2), ω, n))) else (L_X11_usher_33 Θ k_24 5000 l0 l1 l2 l3 0 ω n)
def L_X11_usher_24 (Θ : GP) : Nat → Nat → Int32 → Int32 → Int32 → OW → Nat → RO
  | 0, _, _, _, _, _, _ => none
  | f + 1, l0, l1, l2, l3, ω, n => B_X11_usher_24 Θ (L_X11_usher_24 Θ f) l0 l1 l2 l3 ω n
def F_X11_usher (Θ : GP) (l0 : Nat) (l1 : Int32) (ω : OW) (n : Nat) : RO := wF ω l0 11 0 (.int 0) (fun ω => cO ω l0 11 (kI (F_X11_noOne Θ l0 l1 ω n) (fun x5 ω n => cO ω l0 11 (kI (F_X11_throwsIf Θ l0 x5 1 ω n) (fun x6 ω n => if x6 = 0 then (L_X11_usher_24 Θ 5000 l0 l1 0 0 ω n) else (some (.inl (some (.int 0), ω, n))))))))
theorem ok_J_X11_usher_57 (Θ : GP) (k_24 : Nat → Int32 → Int32 → Int32 → OW → Nat → RO) (k_33 : Nat → Int32 → Int32 → Int32 → Int32 → OW → Nat → RO) (hk_24 : ∀ l0 l1 l2 l3 ω n r, k_24 l0 l1 l2 l3 ω n = some r → GR Θ yX11_usher cX11_usher 5 (some .int) 13 (0, 0) 24 [(0, .ref l0), (1, .int l1), (2, .int l2), (3, .int l3)] [] ω n r) (hk_33 : ∀ l0 l1 l2 l3 l4 ω n r, k_33 l0 l1 l2 l3 l4 ω n = some r → GR Θ yX11_usher cX11_usher 5 (some .int) 13 (0, 0) 33 [(0, .ref l0), (1, .int l1), (2, .int l2), (3, .int l3), (4, .int l4)] [] ω n r) (l0 : Nat) (l1 : Int32) (l3 : Int32) (l4 : Int32) (s0 : Int32) (s1 : Int32) (ω : OW) (n : Nat) (r : Out) (h : J_X11_usher_57 Θ k_24 k_33 l0 l1 l3 l4 s0 s1 ω n = some r) : GR Θ yX11_usher cX11_usher 5 (some .int) 13 (0, 0) 57 [(0, .ref l0), (1, .int l1), (3, .int l3), (4, .int l4)] [.int s0, .int s1] ω n r := by
  unfold J_X11_usher_57 at h
  refine g_iadd dX11_usher_57 ?_
  refine g_istore_n (lv' := [(2, .int (s1 + s0)), (0, .ref l0), (1, .int l1), (3, .int l3), (4, .int l4)]) dX11_usher_58 rfl (by decide) rfl ?_
  refine g_iinc (j := 4) (v := l4 + 1) (lv' := [(4, .int (l4 + 1)), (2, .int (s1 + s0)), (0, .ref l0), (1, .int l1), (3, .int l3)]) dX11_usher_59 rfl rfl (by decide) rfl ?_
  refine g_goto (tgt := 33) dX11_usher_62 (by decide) ?_
  refine G.lsub [2, 3, 1, 4, 0] rfl ?_
  exact hk_33 l0 l1 (s1 + s0) l3 (l4 + 1) _ _ r h
theorem ok_B_X11_usher_33 (Θ : GP) (k_24 : Nat → Int32 → Int32 → Int32 → OW → Nat → RO) (k_33 : Nat → Int32 → Int32 → Int32 → Int32 → OW → Nat → RO) (hk_24 : ∀ l0 l1 l2 l3 ω n r, k_24 l0 l1 l2 l3 ω n = some r → GR Θ yX11_usher cX11_usher 5 (some .int) 13 (0, 0) 24 [(0, .ref l0), (1, .int l1), (2, .int l2), (3, .int l3)] [] ω n r) (hk_33 : ∀ l0 l1 l2 l3 l4 ω n r, k_33 l0 l1 l2 l3 l4 ω n = some r → GR Θ yX11_usher cX11_usher 5 (some .int) 13 (0, 0) 33 [(0, .ref l0), (1, .int l1), (2, .int l2), (3, .int l3), (4, .int l4)] [] ω n r) (l0 : Nat) (l1 : Int32) (l2 : Int32) (l3 : Int32) (l4 : Int32) (ω : OW) (n : Nat) (r : Out) (h : B_X11_usher_33 Θ k_24 k_33 l0 l1 l2 l3 l4 ω n = some r) : GR Θ yX11_usher cX11_usher 5 (some .int) 13 (0, 0) 33 [(0, .ref l0), (1, .int l1), (2, .int l2), (3, .int l3), (4, .int l4)] [] ω n r := by
  unfold B_X11_usher_33 at h
  refine g_iload dX11_usher_33 4 rfl ?_
  refine g_bipush (v := 8) dX11_usher_35 (by decide) ?_
  refine g_icmp_gt (tgt := 65) dX11_usher_37 (by decide) (fun c1 => ?_) (fun c1 => ?_)
  · rw [if_pos c1] at h
    refine g_iinc (j := 3) (v := l3 + 1) (lv' := [(3, .int (l3 + 1)), (0, .ref l0), (1, .int l1), (2, .int l2), (4, .int l4)]) dX11_usher_65 rfl rfl (by decide) rfl ?_
    refine g_goto (tgt := 24) dX11_usher_68 (by decide) ?_
    refine G.lsub [1, 2, 3, 0] rfl ?_
    exact hk_24 l0 l1 l2 (l3 + 1) _ _ r h
  · rw [if_neg c1] at h
    refine g_iload_n dX11_usher_40 rfl 2 rfl ?_
    refine g_aload_n dX11_usher_41 rfl 0 rfl ?_
    refine g_iload_n dX11_usher_42 rfl 1 rfl ?_
    refine g_iload_n dX11_usher_43 rfl 3 rfl ?_
    refine g_iload dX11_usher_44 4 rfl ?_
    refine g_cI (ci := 11) (As := [.int l1, .int l3, .int l4]) mv_X11_434 dX11_usher_46 rfl (ok_X11_rests Θ l0 l1 l3 l4 _ _) rfl rfl (Nat.le_of_ble_eq_true rfl) (by decide) (by decide) (by decide) h (fun x2 ω n h => ?_)
    refine G.less (B' := (0, 0)) (by decide) (by decide) ?_
    refine g_if_eq (tgt := 56) dX11_usher_49 (by decide) (fun c3 => ?_) (fun c3 => ?_)
    · rw [if_pos c3] at h
      refine g_iconst (v := 0) dX11_usher_56 (by decide) ?_
      refine G.lsub [0, 1, 3, 4] rfl ?_
      exact ok_J_X11_usher_57 Θ k_24 k_33 hk_24 hk_33 l0 l1 l3 l4 0 l2 _ _ r h
    · rw [if_neg c3] at h
      refine g_iconst (v := 1) dX11_usher_52 (by decide) ?_
      refine g_goto (tgt := 57) dX11_usher_53 (by decide) ?_
      refine G.lsub [0, 1, 3, 4] rfl ?_
      exact ok_J_X11_usher_57 Θ k_24 k_33 hk_24 hk_33 l0 l1 l3 l4 1 l2 _ _ r h
theorem ok_L_X11_usher_33 (Θ : GP) (k_24 : Nat → Int32 → Int32 → Int32 → OW → Nat → RO) (hk_24 : ∀ l0 l1 l2 l3 ω n r, k_24 l0 l1 l2 l3 ω n = some r → GR Θ yX11_usher cX11_usher 5 (some .int) 13 (0, 0) 24 [(0, .ref l0), (1, .int l1), (2, .int l2), (3, .int l3)] [] ω n r) : ∀ (f : Nat) (l0 : Nat) (l1 : Int32) (l2 : Int32) (l3 : Int32) (l4 : Int32) (ω : OW) (n : Nat) (r : Out), L_X11_usher_33 Θ k_24 f l0 l1 l2 l3 l4 ω n = some r → GR Θ yX11_usher cX11_usher 5 (some .int) 13 (0, 0) 33 [(0, .ref l0), (1, .int l1), (2, .int l2), (3, .int l3), (4, .int l4)] [] ω n r := by
  intro f
  induction f with
  | zero =>
    intro l0 l1 l2 l3 l4 ω n r h
    unfold L_X11_usher_33 at h
    cases h
  | succ f ih =>
    intro l0 l1 l2 l3 l4 ω n r h
    unfold L_X11_usher_33 at h
    exact ok_B_X11_usher_33 Θ k_24 (L_X11_usher_33 Θ k_24 f) hk_24 ih l0 l1 l2 l3 l4 ω n r h
theorem ok_B_X11_usher_24 (Θ : GP) (k_24 : Nat → Int32 → Int32 → Int32 → OW → Nat → RO) (hk_24 : ∀ l0 l1 l2 l3 ω n r, k_24 l0 l1 l2 l3 ω n = some r → GR Θ yX11_usher cX11_usher 5 (some .int) 13 (0, 0) 24 [(0, .ref l0), (1, .int l1), (2, .int l2), (3, .int l3)] [] ω n r) (l0 : Nat) (l1 : Int32) (l2 : Int32) (l3 : Int32) (ω : OW) (n : Nat) (r : Out) (h : B_X11_usher_24 Θ k_24 l0 l1 l2 l3 ω n = some r) : GR Θ yX11_usher cX11_usher 5 (some .int) 13 (0, 0) 24 [(0, .ref l0), (1, .int l1), (2, .int l2), (3, .int l3)] [] ω n r := by
  unfold B_X11_usher_24 at h
  refine g_iload_n dX11_usher_24 rfl 3 rfl ?_
  refine g_bipush (v := 8) dX11_usher_25 (by decide) ?_
  refine g_icmp_gt (tgt := 71) dX11_usher_27 (by decide) (fun c4 => ?_) (fun c4 => ?_)
  · rw [if_pos c4] at h
    refine g_iload_n dX11_usher_71 rfl 2 rfl ?_
    cases h
    exact g_iret rfl dX11_usher_72 rfl
  · rw [if_neg c4] at h
    refine g_iconst (v := 0) dX11_usher_30 (by decide) ?_
    refine g_istore (lv' := [(4, .int 0), (0, .ref l0), (1, .int l1), (2, .int l2), (3, .int l3)]) dX11_usher_31 (by decide) rfl ?_
    refine G.lsub [1, 2, 3, 4, 0] rfl ?_
    exact ok_L_X11_usher_33 Θ k_24 hk_24 5000 l0 l1 l2 l3 0 _ _ r h
theorem ok_L_X11_usher_24 (Θ : GP) : ∀ (f : Nat) (l0 : Nat) (l1 : Int32) (l2 : Int32) (l3 : Int32) (ω : OW) (n : Nat) (r : Out), L_X11_usher_24 Θ f l0 l1 l2 l3 ω n = some r → GR Θ yX11_usher cX11_usher 5 (some .int) 13 (0, 0) 24 [(0, .ref l0), (1, .int l1), (2, .int l2), (3, .int l3)] [] ω n r := by
  intro f
  induction f with
  | zero =>
    intro l0 l1 l2 l3 ω n r h
    unfold L_X11_usher_24 at h
    cases h
  | succ f ih =>
    intro l0 l1 l2 l3 ω n r h
    unfold L_X11_usher_24 at h
    exact ok_B_X11_usher_24 Θ (L_X11_usher_24 Θ f) ih l0 l1 l2 l3 ω n r h
theorem ok_X11_usher (Θ : GP) (l0 : Nat) (l1 : Int32) (ω : OW) (n : Nat) : Ok Θ 13 0 0 yX11_usher cX11_usher 5 (some .int) [.ref l0, .int l1] ω n (F_X11_usher Θ l0 l1 ω n) := by
  refine Ok.of (by decide +kernel) (Nat.le_of_ble_eq_true rfl) (fun r h => ?_)
  unfold F_X11_usher at h
  show GR Θ yX11_usher cX11_usher 5 (some .int) 13 (0, 0) 0 [(0, .ref l0), (1, .int l1)] [] ω n r
  refine g_aload_n dX11_usher_0 rfl 0 rfl ?_
  refine g_iconst (v := 0) dX11_usher_1 (by decide) ?_
  refine g_wF fl_X11_3 dX11_usher_2 (rfl) rfl h (fun ω h => ?_)
  refine g_aload_n dX11_usher_5 rfl 0 rfl ?_
  refine g_aload_n dX11_usher_6 rfl 0 rfl ?_
  refine g_iload_n dX11_usher_7 rfl 1 rfl ?_
  refine g_cI (ci := 11) (As := [.int l1]) mv_X11_300 dX11_usher_8 rfl (ok_X11_noOne Θ l0 l1 _ _) rfl rfl (Nat.le_of_ble_eq_true rfl) (by decide) (by decide) (by decide) h (fun x5 ω n h => ?_)
  refine G.less (B' := (0, 0)) (by decide) (by decide) ?_
  refine g_iconst (v := 1) dX11_usher_11 (by decide) ?_
  refine g_cI (ci := 11) (As := [.int x5, .int 1]) mv_X11_262 dX11_usher_12 rfl (ok_X11_throwsIf Θ l0 x5 1 _ _) rfl rfl (Nat.le_of_ble_eq_true rfl) (by decide) (by decide) (by decide) h (fun x6 ω n h => ?_)
  refine G.less (B' := (0, 0)) (by decide) (by decide) ?_
  refine g_if_eq (tgt := 20) dX11_usher_15 (by decide) (fun c7 => ?_) (fun c7 => ?_)
  · rw [if_pos c7] at h
    refine g_iconst (v := 0) dX11_usher_20 (by decide) ?_
    refine g_istore_n (lv' := [(2, .int 0), (0, .ref l0), (1, .int l1)]) dX11_usher_21 rfl (by decide) rfl ?_
    refine g_iconst (v := 0) dX11_usher_22 (by decide) ?_
    refine g_istore_n (lv' := [(3, .int 0), (2, .int 0), (0, .ref l0), (1, .int l1)]) dX11_usher_23 rfl (by decide) rfl ?_
    refine G.lsub [2, 3, 1, 0] rfl ?_
    exact ok_L_X11_usher_24 Θ 5000 l0 l1 0 0 _ _ r h
  · rw [if_neg c7] at h
    refine g_iconst (v := 0) dX11_usher_18 (by decide) ?_
    cases h
    exact g_iret rfl dX11_usher_19 rfl
def J_X11_alike_60 (Θ : GP) (k_9 : Nat → Int32 → Int32 → OW → Nat → RO) (k_19 : Nat → Int32 → Int32 → Int32 → OW → Nat → RO) (l0 : Nat) (l2 : Int32) (l3 : Int32) (s0 : Int32) (s1 : Int32) (ω : OW) (n : Nat) : RO := k_19 l0 (s1 + s0) l2 (l3 + 1) ω n
def J_X11_alike_59 (Θ : GP) (k_9 : Nat → Int32 → Int32 → OW → Nat → RO) (k_19 : Nat → Int32 → Int32 → Int32 → OW → Nat → RO) (l0 : Nat) (l2 : Int32) (l3 : Int32) (s0 : Int32) (ω : OW) (n : Nat) : RO := J_X11_alike_60 Θ k_9 k_19 l0 l2 l3 0 s0 ω n
def B_X11_alike_19 (Θ : GP) (k_9 : Nat → Int32 → Int32 → OW → Nat → RO) (k_19 : Nat → Int32 → Int32 → Int32 → OW → Nat → RO) (l0 : Nat) (l1 : Int32) (l2 : Int32) (l3 : Int32) (ω : OW) (n : Nat) : RO := if l2 ≤ l3 then (k_9 l0 l1 (l2 + 1) ω n) else (cO ω l0 11 (kI (F_X11_of Θ l0 l2 0 ω n) (fun x2 ω n => cO ω l0 11 (kI (F_X11_of Θ l0 l3 0 ω n) (fun x3 ω n => if x2 = x3 then (cO ω l0 11 (kI (F_X11_of Θ l0 l2 1 ω n) (fun x5 ω n => cO ω l0 11 (kI (F_X11_of Θ l0 l3 1 ω n) (fun x6 ω n => if x5 = x6 then (J_X11_alike_60 Θ k_9 k_19 l0 l2 l3 1 l1 ω n) else (J_X11_alike_59 Θ k_9 k_19 l0 l2 l3 l1 ω n)))))) else (J_X11_alike_59 Θ k_9 k_19 l0 l2 l3 l1 ω n))))))
def L_X11_alike_19 (Θ : GP) (k_9 : Nat → Int32 → Int32 → OW → Nat → RO) : Nat → Nat → Int32 → Int32 → Int32 → OW → Nat → RO
  | 0, _, _, _, _, _, _ => none
  | f + 1, l0, l1, l2, l3, ω, n => B_X11_alike_19 Θ k_9 (L_X11_alike_19 Θ k_9 f) l0 l1 l2 l3 ω n
def B_X11_alike_9 (Θ : GP) (k_9 : Nat → Int32 → Int32 → OW → Nat → RO) (l0 : Nat) (l1 : Int32) (l2 : Int32) (ω : OW) (n : Nat) : RO := cO ω l0 11 (kI (F_X11_oneCount Θ l0 ω n) (fun x8 ω n => if x8 ≤ l2 then (some (.inl (some (.int l1), ω, n))) else (L_X11_alike_19 Θ k_9 5000 l0 l1 l2 0 ω n)))
def L_X11_alike_9 (Θ : GP) : Nat → Nat → Int32 → Int32 → OW → Nat → RO
  | 0, _, _, _, _, _ => none
  | f + 1, l0, l1, l2, ω, n => B_X11_alike_9 Θ (L_X11_alike_9 Θ f) l0 l1 l2 ω n
def F_X11_alike (Θ : GP) (l0 : Nat) (ω : OW) (n : Nat) : RO := wF ω l0 11 0 (.int 0) (fun ω => L_X11_alike_9 Θ 5000 l0 0 0 ω n)
theorem ok_J_X11_alike_60 (Θ : GP) (k_9 : Nat → Int32 → Int32 → OW → Nat → RO) (k_19 : Nat → Int32 → Int32 → Int32 → OW → Nat → RO) (hk_9 : ∀ l0 l1 l2 ω n r, k_9 l0 l1 l2 ω n = some r → GR Θ yX11_alike cX11_alike 4 (some .int) 3 (0, 0) 9 [(0, .ref l0), (1, .int l1), (2, .int l2)] [] ω n r) (hk_19 : ∀ l0 l1 l2 l3 ω n r, k_19 l0 l1 l2 l3 ω n = some r → GR Θ yX11_alike cX11_alike 4 (some .int) 3 (0, 0) 19 [(0, .ref l0), (1, .int l1), (2, .int l2), (3, .int l3)] [] ω n r) (l0 : Nat) (l2 : Int32) (l3 : Int32) (s0 : Int32) (s1 : Int32) (ω : OW) (n : Nat) (r : Out) (h : J_X11_alike_60 Θ k_9 k_19 l0 l2 l3 s0 s1 ω n = some r) : GR Θ yX11_alike cX11_alike 4 (some .int) 3 (0, 0) 60 [(0, .ref l0), (2, .int l2), (3, .int l3)] [.int s0, .int s1] ω n r := by
  unfold J_X11_alike_60 at h
  refine g_iadd dX11_alike_60 ?_
  refine g_istore_n (lv' := [(1, .int (s1 + s0)), (0, .ref l0), (2, .int l2), (3, .int l3)]) dX11_alike_61 rfl (by decide) rfl ?_
  refine g_iinc (j := 3) (v := l3 + 1) (lv' := [(3, .int (l3 + 1)), (1, .int (s1 + s0)), (0, .ref l0), (2, .int l2)]) dX11_alike_62 rfl rfl (by decide) rfl ?_
  refine g_goto (tgt := 19) dX11_alike_65 (by decide) ?_
  refine G.lsub [2, 1, 3, 0] rfl ?_
  exact hk_19 l0 (s1 + s0) l2 (l3 + 1) _ _ r h
theorem ok_J_X11_alike_59 (Θ : GP) (k_9 : Nat → Int32 → Int32 → OW → Nat → RO) (k_19 : Nat → Int32 → Int32 → Int32 → OW → Nat → RO) (hk_9 : ∀ l0 l1 l2 ω n r, k_9 l0 l1 l2 ω n = some r → GR Θ yX11_alike cX11_alike 4 (some .int) 3 (0, 0) 9 [(0, .ref l0), (1, .int l1), (2, .int l2)] [] ω n r) (hk_19 : ∀ l0 l1 l2 l3 ω n r, k_19 l0 l1 l2 l3 ω n = some r → GR Θ yX11_alike cX11_alike 4 (some .int) 3 (0, 0) 19 [(0, .ref l0), (1, .int l1), (2, .int l2), (3, .int l3)] [] ω n r) (l0 : Nat) (l2 : Int32) (l3 : Int32) (s0 : Int32) (ω : OW) (n : Nat) (r : Out) (h : J_X11_alike_59 Θ k_9 k_19 l0 l2 l3 s0 ω n = some r) : GR Θ yX11_alike cX11_alike 4 (some .int) 3 (0, 0) 59 [(0, .ref l0), (2, .int l2), (3, .int l3)] [.int s0] ω n r := by
  unfold J_X11_alike_59 at h
  refine g_iconst (v := 0) dX11_alike_59 (by decide) ?_
  exact ok_J_X11_alike_60 Θ k_9 k_19 hk_9 hk_19 l0 l2 l3 0 s0 _ _ r h
theorem ok_B_X11_alike_19 (Θ : GP) (k_9 : Nat → Int32 → Int32 → OW → Nat → RO) (k_19 : Nat → Int32 → Int32 → Int32 → OW → Nat → RO) (hk_9 : ∀ l0 l1 l2 ω n r, k_9 l0 l1 l2 ω n = some r → GR Θ yX11_alike cX11_alike 4 (some .int) 3 (0, 0) 9 [(0, .ref l0), (1, .int l1), (2, .int l2)] [] ω n r) (hk_19 : ∀ l0 l1 l2 l3 ω n r, k_19 l0 l1 l2 l3 ω n = some r → GR Θ yX11_alike cX11_alike 4 (some .int) 3 (0, 0) 19 [(0, .ref l0), (1, .int l1), (2, .int l2), (3, .int l3)] [] ω n r) (l0 : Nat) (l1 : Int32) (l2 : Int32) (l3 : Int32) (ω : OW) (n : Nat) (r : Out) (h : B_X11_alike_19 Θ k_9 k_19 l0 l1 l2 l3 ω n = some r) : GR Θ yX11_alike cX11_alike 4 (some .int) 3 (0, 0) 19 [(0, .ref l0), (1, .int l1), (2, .int l2), (3, .int l3)] [] ω n r := by
  unfold B_X11_alike_19 at h
  refine g_iload_n dX11_alike_19 rfl 3 rfl ?_
  refine g_iload_n dX11_alike_20 rfl 2 rfl ?_
  refine g_icmp_ge (tgt := 68) dX11_alike_21 (by decide) (fun c1 => ?_) (fun c1 => ?_)
  · rw [if_pos c1] at h
    refine g_iinc (j := 2) (v := l2 + 1) (lv' := [(2, .int (l2 + 1)), (0, .ref l0), (1, .int l1), (3, .int l3)]) dX11_alike_68 rfl rfl (by decide) rfl ?_
    refine g_goto (tgt := 9) dX11_alike_71 (by decide) ?_
    refine G.lsub [1, 2, 0] rfl ?_
    exact hk_9 l0 l1 (l2 + 1) _ _ r h
  · rw [if_neg c1] at h
    refine g_iload_n dX11_alike_24 rfl 1 rfl ?_
    refine g_aload_n dX11_alike_25 rfl 0 rfl ?_
    refine g_iload_n dX11_alike_26 rfl 2 rfl ?_
    refine g_iconst (v := 0) dX11_alike_27 (by decide) ?_
    refine g_cI (ci := 11) (As := [.int l2, .int 0]) mv_X11_80 dX11_alike_28 rfl (ok_X11_of Θ l0 l2 0 _ _) rfl rfl (Nat.le_of_ble_eq_true rfl) (by decide) (by decide) (by decide) h (fun x2 ω n h => ?_)
    refine G.less (B' := (0, 0)) (by decide) (by decide) ?_
    refine g_aload_n dX11_alike_31 rfl 0 rfl ?_
    refine g_iload_n dX11_alike_32 rfl 3 rfl ?_
    refine g_iconst (v := 0) dX11_alike_33 (by decide) ?_
    refine g_cI (ci := 11) (As := [.int l3, .int 0]) mv_X11_80 dX11_alike_34 rfl (ok_X11_of Θ l0 l3 0 _ _) rfl rfl (Nat.le_of_ble_eq_true rfl) (by decide) (by decide) (by decide) h (fun x3 ω n h => ?_)
    refine G.less (B' := (0, 0)) (by decide) (by decide) ?_
    refine g_icmp_ne (tgt := 59) dX11_alike_37 (by decide) (fun c4 => ?_) (fun c4 => ?_)
    · rw [if_neg c4] at h
      refine G.lsub [0, 2, 3] rfl ?_
      exact ok_J_X11_alike_59 Θ k_9 k_19 hk_9 hk_19 l0 l2 l3 l1 _ _ r h
    · rw [if_pos c4] at h
      refine g_aload_n dX11_alike_40 rfl 0 rfl ?_
      refine g_iload_n dX11_alike_41 rfl 2 rfl ?_
      refine g_iconst (v := 1) dX11_alike_42 (by decide) ?_
      refine g_cI (ci := 11) (As := [.int l2, .int 1]) mv_X11_80 dX11_alike_43 rfl (ok_X11_of Θ l0 l2 1 _ _) rfl rfl (Nat.le_of_ble_eq_true rfl) (by decide) (by decide) (by decide) h (fun x5 ω n h => ?_)
      refine G.less (B' := (0, 0)) (by decide) (by decide) ?_
      refine g_aload_n dX11_alike_46 rfl 0 rfl ?_
      refine g_iload_n dX11_alike_47 rfl 3 rfl ?_
      refine g_iconst (v := 1) dX11_alike_48 (by decide) ?_
      refine g_cI (ci := 11) (As := [.int l3, .int 1]) mv_X11_80 dX11_alike_49 rfl (ok_X11_of Θ l0 l3 1 _ _) rfl rfl (Nat.le_of_ble_eq_true rfl) (by decide) (by decide) (by decide) h (fun x6 ω n h => ?_)
      refine G.less (B' := (0, 0)) (by decide) (by decide) ?_
      refine g_icmp_ne (tgt := 59) dX11_alike_52 (by decide) (fun c7 => ?_) (fun c7 => ?_)
      · rw [if_neg c7] at h
        refine G.lsub [0, 2, 3] rfl ?_
        exact ok_J_X11_alike_59 Θ k_9 k_19 hk_9 hk_19 l0 l2 l3 l1 _ _ r h
      · rw [if_pos c7] at h
        refine g_iconst (v := 1) dX11_alike_55 (by decide) ?_
        refine g_goto (tgt := 60) dX11_alike_56 (by decide) ?_
        refine G.lsub [0, 2, 3] rfl ?_
        exact ok_J_X11_alike_60 Θ k_9 k_19 hk_9 hk_19 l0 l2 l3 1 l1 _ _ r h
theorem ok_L_X11_alike_19 (Θ : GP) (k_9 : Nat → Int32 → Int32 → OW → Nat → RO) (hk_9 : ∀ l0 l1 l2 ω n r, k_9 l0 l1 l2 ω n = some r → GR Θ yX11_alike cX11_alike 4 (some .int) 3 (0, 0) 9 [(0, .ref l0), (1, .int l1), (2, .int l2)] [] ω n r) : ∀ (f : Nat) (l0 : Nat) (l1 : Int32) (l2 : Int32) (l3 : Int32) (ω : OW) (n : Nat) (r : Out), L_X11_alike_19 Θ k_9 f l0 l1 l2 l3 ω n = some r → GR Θ yX11_alike cX11_alike 4 (some .int) 3 (0, 0) 19 [(0, .ref l0), (1, .int l1), (2, .int l2), (3, .int l3)] [] ω n r := by
  intro f
  induction f with
  | zero =>
    intro l0 l1 l2 l3 ω n r h
    unfold L_X11_alike_19 at h
    cases h
  | succ f ih =>
    intro l0 l1 l2 l3 ω n r h
    unfold L_X11_alike_19 at h
    exact ok_B_X11_alike_19 Θ k_9 (L_X11_alike_19 Θ k_9 f) hk_9 ih l0 l1 l2 l3 ω n r h
theorem ok_B_X11_alike_9 (Θ : GP) (k_9 : Nat → Int32 → Int32 → OW → Nat → RO) (hk_9 : ∀ l0 l1 l2 ω n r, k_9 l0 l1 l2 ω n = some r → GR Θ yX11_alike cX11_alike 4 (some .int) 3 (0, 0) 9 [(0, .ref l0), (1, .int l1), (2, .int l2)] [] ω n r) (l0 : Nat) (l1 : Int32) (l2 : Int32) (ω : OW) (n : Nat) (r : Out) (h : B_X11_alike_9 Θ k_9 l0 l1 l2 ω n = some r) : GR Θ yX11_alike cX11_alike 4 (some .int) 3 (0, 0) 9 [(0, .ref l0), (1, .int l1), (2, .int l2)] [] ω n r := by
  unfold B_X11_alike_9 at h
  refine g_iload_n dX11_alike_9 rfl 2 rfl ?_
  refine g_aload_n dX11_alike_10 rfl 0 rfl ?_
  refine g_cI (ci := 11) (As := []) mv_X11_91 dX11_alike_11 rfl (ok_X11_oneCount Θ l0 _ _) rfl rfl (Nat.le_of_ble_eq_true rfl) (by decide) (by decide) (by decide) h (fun x8 ω n h => ?_)
  refine G.less (B' := (0, 0)) (by decide) (by decide) ?_
  refine g_icmp_ge (tgt := 74) dX11_alike_14 (by decide) (fun c9 => ?_) (fun c9 => ?_)
  · rw [if_pos c9] at h
    refine g_iload_n dX11_alike_74 rfl 1 rfl ?_
    cases h
    exact g_iret rfl dX11_alike_75 rfl
  · rw [if_neg c9] at h
    refine g_iconst (v := 0) dX11_alike_17 (by decide) ?_
    refine g_istore_n (lv' := [(3, .int 0), (0, .ref l0), (1, .int l1), (2, .int l2)]) dX11_alike_18 rfl (by decide) rfl ?_
    refine G.lsub [1, 2, 3, 0] rfl ?_
    exact ok_L_X11_alike_19 Θ k_9 hk_9 5000 l0 l1 l2 0 _ _ r h
theorem ok_L_X11_alike_9 (Θ : GP) : ∀ (f : Nat) (l0 : Nat) (l1 : Int32) (l2 : Int32) (ω : OW) (n : Nat) (r : Out), L_X11_alike_9 Θ f l0 l1 l2 ω n = some r → GR Θ yX11_alike cX11_alike 4 (some .int) 3 (0, 0) 9 [(0, .ref l0), (1, .int l1), (2, .int l2)] [] ω n r := by
  intro f
  induction f with
  | zero =>
    intro l0 l1 l2 ω n r h
    unfold L_X11_alike_9 at h
    cases h
  | succ f ih =>
    intro l0 l1 l2 ω n r h
    unfold L_X11_alike_9 at h
    exact ok_B_X11_alike_9 Θ (L_X11_alike_9 Θ f) ih l0 l1 l2 ω n r h
theorem ok_X11_alike (Θ : GP) (l0 : Nat) (ω : OW) (n : Nat) : Ok Θ 3 0 0 yX11_alike cX11_alike 4 (some .int) [.ref l0] ω n (F_X11_alike Θ l0 ω n) := by
  refine Ok.of (by decide +kernel) (Nat.le_of_ble_eq_true rfl) (fun r h => ?_)
  unfold F_X11_alike at h
  show GR Θ yX11_alike cX11_alike 4 (some .int) 3 (0, 0) 0 [(0, .ref l0)] [] ω n r
  refine g_aload_n dX11_alike_0 rfl 0 rfl ?_
  refine g_iconst (v := 0) dX11_alike_1 (by decide) ?_
  refine g_wF fl_X11_3 dX11_alike_2 (rfl) rfl h (fun ω h => ?_)
  refine g_iconst (v := 0) dX11_alike_5 (by decide) ?_
  refine g_istore_n (lv' := [(1, .int 0), (0, .ref l0)]) dX11_alike_6 rfl (by decide) rfl ?_
  refine g_iconst (v := 0) dX11_alike_7 (by decide) ?_
  refine g_istore_n (lv' := [(2, .int 0), (1, .int 0), (0, .ref l0)]) dX11_alike_8 rfl (by decide) rfl ?_
  refine G.lsub [2, 1, 0] rfl ?_
  exact ok_L_X11_alike_9 Θ 5000 l0 0 0 _ _ r h
def J_X11_isTold_72 (Θ : GP) (l2 : Int32) (ω : OW) (n : Nat) : RO := bz l2 (some (.inl (some (.int l2), ω, n)))
def J_X11_isTold_65 (Θ : GP) (k_36 : Nat → Int32 → Int32 → OW → Nat → RO) (l0 : Nat) (l3 : Int32) (s0 : Int32) (ω : OW) (n : Nat) : RO := k_36 l0 s0 (l3 + 2) ω n
def B_X11_isTold_36 (Θ : GP) (k_36 : Nat → Int32 → Int32 → OW → Nat → RO) (l0 : Nat) (l2 : Int32) (l3 : Int32) (ω : OW) (n : Nat) : RO := rI ω l0 11 11 (fun x2 => if x2 ≤ l3 then (J_X11_isTold_72 Θ l2 ω n) else (if l2 = 0 then (J_X11_isTold_72 Θ l2 ω n) else (rA ω l0 11 8 (fun a5 => lI ω (gB Θ) a5 l3 (fun x6 => kI (F_X11_noSlot Θ x6 ω n) (fun x7 ω n => if x7 = 0 then (J_X11_isTold_65 Θ k_36 l0 l3 1 ω n) else (J_X11_isTold_65 Θ k_36 l0 l3 0 ω n)))))))
def L_X11_isTold_36 (Θ : GP) : Nat → Nat → Int32 → Int32 → OW → Nat → RO
  | 0, _, _, _, _, _ => none
  | f + 1, l0, l2, l3, ω, n => B_X11_isTold_36 Θ (L_X11_isTold_36 Θ f) l0 l2 l3 ω n
def J_X11_isTold_33 (Θ : GP) (l0 : Nat) (s0 : Int32) (ω : OW) (n : Nat) : RO := L_X11_isTold_36 Θ 5000 l0 s0 0 ω n
def J_X11_isTold_32 (Θ : GP) (l0 : Nat) (ω : OW) (n : Nat) : RO := J_X11_isTold_33 Θ l0 0 ω n
def F_X11_isTold (Θ : GP) (l0 : Nat) (l1 : Int32) (ω : OW) (n : Nat) : RO := rI ω l0 11 11 (fun x9 => if (x9 - x9 / 2 * 2) = 0 then (rI ω l0 11 11 (fun x11 => if 40 < x11 then (J_X11_isTold_32 Θ l0 ω n) else (kI (F_X11_in Θ l1 1 60 ω n) (fun x13 ω n => if x13 = 0 then (J_X11_isTold_32 Θ l0 ω n) else (J_X11_isTold_33 Θ l0 1 ω n))))) else (J_X11_isTold_32 Θ l0 ω n))
theorem ok_J_X11_isTold_72 (Θ : GP) (l2 : Int32) (ω : OW) (n : Nat) (r : Out) (h : J_X11_isTold_72 Θ l2 ω n = some r) : GR Θ yX11_isTold cX11_isTold 4 (some .boolean) 3 (0, 0) 72 [(2, .int l2)] [] ω n r := by
  unfold J_X11_isTold_72 at h
  refine g_iload_n dX11_isTold_72 rfl 0 rfl ?_
  obtain ⟨z1, h⟩ := bz_inv h
  cases h
  exact g_zret rfl z1 dX11_isTold_73 rfl
theorem ok_J_X11_isTold_65 (Θ : GP) (k_36 : Nat → Int32 → Int32 → OW → Nat → RO) (hk_36 : ∀ l0 l2 l3 ω n r, k_36 l0 l2 l3 ω n = some r → GR Θ yX11_isTold cX11_isTold 4 (some .boolean) 3 (0, 0) 36 [(0, .ref l0), (2, .int l2), (3, .int l3)] [] ω n r) (l0 : Nat) (l3 : Int32) (s0 : Int32) (ω : OW) (n : Nat) (r : Out) (h : J_X11_isTold_65 Θ k_36 l0 l3 s0 ω n = some r) : GR Θ yX11_isTold cX11_isTold 4 (some .boolean) 3 (0, 0) 65 [(0, .ref l0), (3, .int l3)] [.int s0] ω n r := by
  unfold J_X11_isTold_65 at h
  refine g_istore_n (lv' := [(2, .int s0), (0, .ref l0), (3, .int l3)]) dX11_isTold_65 rfl (by decide) rfl ?_
  refine g_iinc (j := 2) (v := l3 + 2) (lv' := [(3, .int (l3 + 2)), (2, .int s0), (0, .ref l0)]) dX11_isTold_66 rfl rfl (by decide) rfl ?_
  refine g_goto (tgt := 36) dX11_isTold_69 (by decide) ?_
  refine G.lsub [2, 1, 0] rfl ?_
  exact hk_36 l0 s0 (l3 + 2) _ _ r h
theorem ok_B_X11_isTold_36 (Θ : GP) (k_36 : Nat → Int32 → Int32 → OW → Nat → RO) (hk_36 : ∀ l0 l2 l3 ω n r, k_36 l0 l2 l3 ω n = some r → GR Θ yX11_isTold cX11_isTold 4 (some .boolean) 3 (0, 0) 36 [(0, .ref l0), (2, .int l2), (3, .int l3)] [] ω n r) (l0 : Nat) (l2 : Int32) (l3 : Int32) (ω : OW) (n : Nat) (r : Out) (h : B_X11_isTold_36 Θ k_36 l0 l2 l3 ω n = some r) : GR Θ yX11_isTold cX11_isTold 4 (some .boolean) 3 (0, 0) 36 [(0, .ref l0), (2, .int l2), (3, .int l3)] [] ω n r := by
  unfold B_X11_isTold_36 at h
  refine g_iload_n dX11_isTold_36 rfl 2 rfl ?_
  refine g_aload_n dX11_isTold_37 rfl 0 rfl ?_
  refine g_rI fl_X11_105 dX11_isTold_38 h (fun x2 h => ?_)
  refine g_icmp_ge (tgt := 72) dX11_isTold_41 (by decide) (fun c3 => ?_) (fun c3 => ?_)
  · rw [if_pos c3] at h
    refine G.lsub [1] rfl ?_
    exact ok_J_X11_isTold_72 Θ l2 _ _ r h
  · rw [if_neg c3] at h
    refine g_iload_n dX11_isTold_44 rfl 1 rfl ?_
    refine g_if_eq (tgt := 72) dX11_isTold_45 (by decide) (fun c4 => ?_) (fun c4 => ?_)
    · rw [if_pos c4] at h
      refine G.lsub [1] rfl ?_
      exact ok_J_X11_isTold_72 Θ l2 _ _ r h
    · rw [if_neg c4] at h
      refine g_aload_n dX11_isTold_48 rfl 0 rfl ?_
      refine g_rA fl_X11_29 dX11_isTold_49 h (fun a5 h => ?_)
      refine g_iload_n dX11_isTold_52 rfl 2 rfl ?_
      refine g_lIb dX11_isTold_53 h (fun x6 h => ?_)
      refine g_sI (As := [.int x6]) ms_X11_297 dX11_isTold_54 (ok_X11_noSlot Θ x6 _ _) rfl rfl (Nat.le_of_ble_eq_true rfl) (by decide) (by decide) (by decide) h (fun x7 ω n h => ?_)
      refine G.less (B' := (0, 0)) (by decide) (by decide) ?_
      refine g_if_ne (tgt := 64) dX11_isTold_57 (by decide) (fun c8 => ?_) (fun c8 => ?_)
      · rw [if_neg c8] at h
        refine g_iconst (v := 0) dX11_isTold_64 (by decide) ?_
        refine G.lsub [0, 2] rfl ?_
        exact ok_J_X11_isTold_65 Θ k_36 hk_36 l0 l3 0 _ _ r h
      · rw [if_pos c8] at h
        refine g_iconst (v := 1) dX11_isTold_60 (by decide) ?_
        refine g_goto (tgt := 65) dX11_isTold_61 (by decide) ?_
        refine G.lsub [0, 2] rfl ?_
        exact ok_J_X11_isTold_65 Θ k_36 hk_36 l0 l3 1 _ _ r h
theorem ok_L_X11_isTold_36 (Θ : GP) : ∀ (f : Nat) (l0 : Nat) (l2 : Int32) (l3 : Int32) (ω : OW) (n : Nat) (r : Out), L_X11_isTold_36 Θ f l0 l2 l3 ω n = some r → GR Θ yX11_isTold cX11_isTold 4 (some .boolean) 3 (0, 0) 36 [(0, .ref l0), (2, .int l2), (3, .int l3)] [] ω n r := by
  intro f
  induction f with
  | zero =>
    intro l0 l2 l3 ω n r h
    unfold L_X11_isTold_36 at h
    cases h
  | succ f ih =>
    intro l0 l2 l3 ω n r h
    unfold L_X11_isTold_36 at h
    exact ok_B_X11_isTold_36 Θ (L_X11_isTold_36 Θ f) ih l0 l2 l3 ω n r h
theorem ok_J_X11_isTold_33 (Θ : GP) (l0 : Nat) (s0 : Int32) (ω : OW) (n : Nat) (r : Out) (h : J_X11_isTold_33 Θ l0 s0 ω n = some r) : GR Θ yX11_isTold cX11_isTold 4 (some .boolean) 3 (0, 0) 33 [(0, .ref l0)] [.int s0] ω n r := by
  unfold J_X11_isTold_33 at h
  refine g_istore_n (lv' := [(2, .int s0), (0, .ref l0)]) dX11_isTold_33 rfl (by decide) rfl ?_
  refine g_iconst (v := 0) dX11_isTold_34 (by decide) ?_
  refine g_istore_n (lv' := [(3, .int 0), (2, .int s0), (0, .ref l0)]) dX11_isTold_35 rfl (by decide) rfl ?_
  refine G.lsub [2, 1, 0] rfl ?_
  exact ok_L_X11_isTold_36 Θ 5000 l0 s0 0 _ _ r h
theorem ok_J_X11_isTold_32 (Θ : GP) (l0 : Nat) (ω : OW) (n : Nat) (r : Out) (h : J_X11_isTold_32 Θ l0 ω n = some r) : GR Θ yX11_isTold cX11_isTold 4 (some .boolean) 3 (0, 0) 32 [(0, .ref l0)] [] ω n r := by
  unfold J_X11_isTold_32 at h
  refine g_iconst (v := 0) dX11_isTold_32 (by decide) ?_
  exact ok_J_X11_isTold_33 Θ l0 0 _ _ r h
theorem ok_X11_isTold (Θ : GP) (l0 : Nat) (l1 : Int32) (ω : OW) (n : Nat) : Ok Θ 3 0 0 yX11_isTold cX11_isTold 4 (some .boolean) [.ref l0, .int l1] ω n (F_X11_isTold Θ l0 l1 ω n) := by
  refine Ok.of (by decide +kernel) (Nat.le_of_ble_eq_true rfl) (fun r h => ?_)
  unfold F_X11_isTold at h
  show GR Θ yX11_isTold cX11_isTold 4 (some .boolean) 3 (0, 0) 0 [(0, .ref l0), (1, .int l1)] [] ω n r
  refine g_aload_n dX11_isTold_0 rfl 0 rfl ?_
  refine g_rI fl_X11_105 dX11_isTold_1 h (fun x9 h => ?_)
  refine g_iconst (v := 2) dX11_isTold_4 (by decide) ?_
  refine g_irem dX11_isTold_5 (by decide) ?_
  refine g_if_ne (tgt := 32) dX11_isTold_6 (by decide) (fun c10 => ?_) (fun c10 => ?_)
  · rw [if_neg c10] at h
    refine G.lsub [0] rfl ?_
    exact ok_J_X11_isTold_32 Θ l0 _ _ r h
  · rw [if_pos c10] at h
    refine g_aload_n dX11_isTold_9 rfl 0 rfl ?_
    refine g_rI fl_X11_105 dX11_isTold_10 h (fun x11 h => ?_)
    refine g_bipush (v := 40) dX11_isTold_13 (by decide) ?_
    refine g_icmp_gt (tgt := 32) dX11_isTold_15 (by decide) (fun c12 => ?_) (fun c12 => ?_)
    · rw [if_pos c12] at h
      refine G.lsub [0] rfl ?_
      exact ok_J_X11_isTold_32 Θ l0 _ _ r h
    · rw [if_neg c12] at h
      refine g_iload_n dX11_isTold_18 rfl 1 rfl ?_
      refine g_iconst (v := 1) dX11_isTold_19 (by decide) ?_
      refine g_bipush (v := 60) dX11_isTold_20 (by decide) ?_
      refine g_sI (As := [.int l1, .int 1, .int 60]) ms_X11_87 dX11_isTold_22 (ok_X11_in Θ l1 1 60 _ _) rfl rfl (Nat.le_of_ble_eq_true rfl) (by decide) (by decide) (by decide) h (fun x13 ω n h => ?_)
      refine G.less (B' := (0, 0)) (by decide) (by decide) ?_
      refine g_if_eq (tgt := 32) dX11_isTold_25 (by decide) (fun c14 => ?_) (fun c14 => ?_)
      · rw [if_pos c14] at h
        refine G.lsub [0] rfl ?_
        exact ok_J_X11_isTold_32 Θ l0 _ _ r h
      · rw [if_neg c14] at h
        refine g_iconst (v := 1) dX11_isTold_28 (by decide) ?_
        refine g_goto (tgt := 33) dX11_isTold_29 (by decide) ?_
        refine G.lsub [0] rfl ?_
        exact ok_J_X11_isTold_33 Θ l0 1 _ _ r h
def J_X11_fits_73 (Θ : GP) (k_27 : Nat → Int32 → Int32 → OW → Nat → RO) (l0 : Nat) (l4 : Int32) (s0 : Int32) (ω : OW) (n : Nat) : RO := k_27 l0 s0 (l4 + 2) ω n
def J_X11_fits_72 (Θ : GP) (k_27 : Nat → Int32 → Int32 → OW → Nat → RO) (l0 : Nat) (l4 : Int32) (ω : OW) (n : Nat) : RO := J_X11_fits_73 Θ k_27 l0 l4 0 ω n
def B_X11_fits_27 (Θ : GP) (k_27 : Nat → Int32 → Int32 → OW → Nat → RO) (l0 : Nat) (l3 : Int32) (l4 : Int32) (ω : OW) (n : Nat) : RO := rI ω l0 11 11 (fun x1 => if x1 ≤ l4 then (bz l3 (some (.inl (some (.int l3), ω, n)))) else (if l3 = 0 then (J_X11_fits_72 Θ k_27 l0 l4 ω n) else (rA ω l0 11 26 (fun a5 => rA ω l0 11 8 (fun a6 => lI ω (gB Θ) a6 l4 (fun x7 => lI ω (gI Θ) a5 x7 (fun x8 => rA ω l0 11 8 (fun a9 => lI ω (gB Θ) a9 (l4 + 1) (fun x10 => if x8 = (x10 &&& 255) then (J_X11_fits_73 Θ k_27 l0 l4 1 ω n) else (J_X11_fits_72 Θ k_27 l0 l4 ω n))))))))))
def L_X11_fits_27 (Θ : GP) : Nat → Nat → Int32 → Int32 → OW → Nat → RO
  | 0, _, _, _, _, _ => none
  | f + 1, l0, l3, l4, ω, n => B_X11_fits_27 Θ (L_X11_fits_27 Θ f) l0 l3 l4 ω n
def F_X11_fits (Θ : GP) (l0 : Nat) (l1 : Int32) (l2 : Int32) (ω : OW) (n : Nat) : RO := wF ω l0 11 18 (.int l1) (fun ω => wF ω l0 11 19 (.int l2) (fun ω => wF ω l0 11 20 (.int 0) (fun ω => cO ω l0 11 (kI (F_X11_rides Θ l0 0 1 ω n) (fun x12 ω n => L_X11_fits_27 Θ 5000 l0 1 0 ω n)))))
theorem ok_J_X11_fits_73 (Θ : GP) (k_27 : Nat → Int32 → Int32 → OW → Nat → RO) (hk_27 : ∀ l0 l3 l4 ω n r, k_27 l0 l3 l4 ω n = some r → GR Θ yX11_fits cX11_fits 5 (some .boolean) 10 (0, 0) 27 [(0, .ref l0), (3, .int l3), (4, .int l4)] [] ω n r) (l0 : Nat) (l4 : Int32) (s0 : Int32) (ω : OW) (n : Nat) (r : Out) (h : J_X11_fits_73 Θ k_27 l0 l4 s0 ω n = some r) : GR Θ yX11_fits cX11_fits 5 (some .boolean) 10 (0, 0) 73 [(0, .ref l0), (4, .int l4)] [.int s0] ω n r := by
  unfold J_X11_fits_73 at h
  refine g_istore_n (lv' := [(3, .int s0), (0, .ref l0), (4, .int l4)]) dX11_fits_73 rfl (by decide) rfl ?_
  refine g_iinc (j := 2) (v := l4 + 2) (lv' := [(4, .int (l4 + 2)), (3, .int s0), (0, .ref l0)]) dX11_fits_74 rfl rfl (by decide) rfl ?_
  refine g_goto (tgt := 27) dX11_fits_77 (by decide) ?_
  refine G.lsub [2, 1, 0] rfl ?_
  exact hk_27 l0 s0 (l4 + 2) _ _ r h
theorem ok_J_X11_fits_72 (Θ : GP) (k_27 : Nat → Int32 → Int32 → OW → Nat → RO) (hk_27 : ∀ l0 l3 l4 ω n r, k_27 l0 l3 l4 ω n = some r → GR Θ yX11_fits cX11_fits 5 (some .boolean) 10 (0, 0) 27 [(0, .ref l0), (3, .int l3), (4, .int l4)] [] ω n r) (l0 : Nat) (l4 : Int32) (ω : OW) (n : Nat) (r : Out) (h : J_X11_fits_72 Θ k_27 l0 l4 ω n = some r) : GR Θ yX11_fits cX11_fits 5 (some .boolean) 10 (0, 0) 72 [(0, .ref l0), (4, .int l4)] [] ω n r := by
  unfold J_X11_fits_72 at h
  refine g_iconst (v := 0) dX11_fits_72 (by decide) ?_
  exact ok_J_X11_fits_73 Θ k_27 hk_27 l0 l4 0 _ _ r h
theorem ok_B_X11_fits_27 (Θ : GP) (k_27 : Nat → Int32 → Int32 → OW → Nat → RO) (hk_27 : ∀ l0 l3 l4 ω n r, k_27 l0 l3 l4 ω n = some r → GR Θ yX11_fits cX11_fits 5 (some .boolean) 10 (0, 0) 27 [(0, .ref l0), (3, .int l3), (4, .int l4)] [] ω n r) (l0 : Nat) (l3 : Int32) (l4 : Int32) (ω : OW) (n : Nat) (r : Out) (h : B_X11_fits_27 Θ k_27 l0 l3 l4 ω n = some r) : GR Θ yX11_fits cX11_fits 5 (some .boolean) 10 (0, 0) 27 [(0, .ref l0), (3, .int l3), (4, .int l4)] [] ω n r := by
  unfold B_X11_fits_27 at h
  refine g_iload dX11_fits_27 2 rfl ?_
  refine g_aload_n dX11_fits_29 rfl 0 rfl ?_
  refine g_rI fl_X11_105 dX11_fits_30 h (fun x1 h => ?_)
  refine g_icmp_ge (tgt := 80) dX11_fits_33 (by decide) (fun c2 => ?_) (fun c2 => ?_)
  · rw [if_pos c2] at h
    refine g_iload_n dX11_fits_80 rfl 1 rfl ?_
    obtain ⟨z3, h⟩ := bz_inv h
    cases h
    exact g_zret rfl z3 dX11_fits_81 rfl
  · rw [if_neg c2] at h
    refine g_iload_n dX11_fits_36 rfl 1 rfl ?_
    refine g_if_eq (tgt := 72) dX11_fits_37 (by decide) (fun c4 => ?_) (fun c4 => ?_)
    · rw [if_pos c4] at h
      refine G.lsub [0, 2] rfl ?_
      exact ok_J_X11_fits_72 Θ k_27 hk_27 l0 l4 _ _ r h
    · rw [if_neg c4] at h
      refine g_aload_n dX11_fits_40 rfl 0 rfl ?_
      refine g_rA fl_X11_45 dX11_fits_41 h (fun a5 h => ?_)
      refine g_aload_n dX11_fits_44 rfl 0 rfl ?_
      refine g_rA fl_X11_29 dX11_fits_45 h (fun a6 h => ?_)
      refine g_iload dX11_fits_48 2 rfl ?_
      refine g_lIb dX11_fits_50 h (fun x7 h => ?_)
      refine g_lIi dX11_fits_51 h (fun x8 h => ?_)
      refine g_aload_n dX11_fits_52 rfl 0 rfl ?_
      refine g_rA fl_X11_29 dX11_fits_53 h (fun a9 h => ?_)
      refine g_iload dX11_fits_56 2 rfl ?_
      refine g_iconst (v := 1) dX11_fits_58 (by decide) ?_
      refine g_iadd dX11_fits_59 ?_
      refine g_lIb dX11_fits_60 h (fun x10 h => ?_)
      refine g_sipush (v := 255) dX11_fits_61 (by decide) ?_
      refine g_iand dX11_fits_64 ?_
      refine g_icmp_ne (tgt := 72) dX11_fits_65 (by decide) (fun c11 => ?_) (fun c11 => ?_)
      · rw [if_neg c11] at h
        refine G.lsub [0, 2] rfl ?_
        exact ok_J_X11_fits_72 Θ k_27 hk_27 l0 l4 _ _ r h
      · rw [if_pos c11] at h
        refine g_iconst (v := 1) dX11_fits_68 (by decide) ?_
        refine g_goto (tgt := 73) dX11_fits_69 (by decide) ?_
        refine G.lsub [0, 2] rfl ?_
        exact ok_J_X11_fits_73 Θ k_27 hk_27 l0 l4 1 _ _ r h
theorem ok_L_X11_fits_27 (Θ : GP) : ∀ (f : Nat) (l0 : Nat) (l3 : Int32) (l4 : Int32) (ω : OW) (n : Nat) (r : Out), L_X11_fits_27 Θ f l0 l3 l4 ω n = some r → GR Θ yX11_fits cX11_fits 5 (some .boolean) 10 (0, 0) 27 [(0, .ref l0), (3, .int l3), (4, .int l4)] [] ω n r := by
  intro f
  induction f with
  | zero =>
    intro l0 l3 l4 ω n r h
    unfold L_X11_fits_27 at h
    cases h
  | succ f ih =>
    intro l0 l3 l4 ω n r h
    unfold L_X11_fits_27 at h
    exact ok_B_X11_fits_27 Θ (L_X11_fits_27 Θ f) ih l0 l3 l4 ω n r h
theorem ok_X11_fits (Θ : GP) (l0 : Nat) (l1 : Int32) (l2 : Int32) (ω : OW) (n : Nat) : Ok Θ 10 0 0 yX11_fits cX11_fits 5 (some .boolean) [.ref l0, .int l1, .int l2] ω n (F_X11_fits Θ l0 l1 l2 ω n) := by
  refine Ok.of (by decide +kernel) (Nat.le_of_ble_eq_true rfl) (fun r h => ?_)
  unfold F_X11_fits at h
  show GR Θ yX11_fits cX11_fits 5 (some .boolean) 10 (0, 0) 0 [(0, .ref l0), (1, .int l1), (2, .int l2)] [] ω n r
  refine g_aload_n dX11_fits_0 rfl 0 rfl ?_
  refine g_iload_n dX11_fits_1 rfl 1 rfl ?_
  refine g_wF fl_X11_265 dX11_fits_2 (rfl) rfl h (fun ω h => ?_)
  refine g_aload_n dX11_fits_5 rfl 0 rfl ?_
  refine g_iload_n dX11_fits_6 rfl 2 rfl ?_
  refine g_wF fl_X11_268 dX11_fits_7 (rfl) rfl h (fun ω h => ?_)
  refine g_aload_n dX11_fits_10 rfl 0 rfl ?_
  refine g_iconst (v := 0) dX11_fits_11 (by decide) ?_
  refine g_wF fl_X11_271 dX11_fits_12 (rfl) rfl h (fun ω h => ?_)
  refine g_aload_n dX11_fits_15 rfl 0 rfl ?_
  refine g_iconst (v := 0) dX11_fits_16 (by decide) ?_
  refine g_iconst (v := 1) dX11_fits_17 (by decide) ?_
  refine g_cI (ci := 11) (As := [.int 0, .int 1]) mv_X11_348 dX11_fits_18 rfl (ok_X11_rides Θ l0 0 1 _ _) rfl rfl (Nat.le_of_ble_eq_true rfl) (by decide) (by decide) (by decide) h (fun x12 ω n h => ?_)
  refine G.less (B' := (0, 0)) (by decide) (by decide) ?_
  refine g_pop dX11_fits_21 rfl ?_
  refine g_iconst (v := 1) dX11_fits_22 (by decide) ?_
  refine g_istore_n (lv' := [(3, .int 1), (0, .ref l0), (1, .int l1), (2, .int l2)]) dX11_fits_23 rfl (by decide) rfl ?_
  refine g_iconst (v := 0) dX11_fits_24 (by decide) ?_
  refine g_istore (lv' := [(4, .int 0), (3, .int 1), (0, .ref l0), (1, .int l1), (2, .int l2)]) dX11_fits_25 (by decide) rfl ?_
  refine G.lsub [2, 1, 0] rfl ?_
  exact ok_L_X11_fits_27 Θ 5000 l0 1 0 _ _ r h
def J_X11_found_90 (Θ : GP) (s0 : Int32) (ω : OW) (n : Nat) : RO := some (.inl (some (.int s0), ω, n))
def J_X11_found_66 (Θ : GP) (k_36 : Nat → Int32 → Int32 → Int32 → Int32 → Int32 → OW → Nat → RO) (l0 : Nat) (l1 : Int32) (l2 : Int32) (l3 : Int32) (l4 : Int32) (l5 : Int32) (ω : OW) (n : Nat) : RO := k_36 l0 l1 l2 l3 l4 (l5 + 1) ω n
def B_X11_found_36 (Θ : GP) (k_36 : Nat → Int32 → Int32 → Int32 → Int32 → Int32 → OW → Nat → RO) (l0 : Nat) (l1 : Int32) (l2 : Int32) (l3 : Int32) (l4 : Int32) (l5 : Int32) (ω : OW) (n : Nat) : RO := if 64 ≤ l5 then (if l2 = 0 then (J_X11_found_90 Θ l3 ω n) else (if l3 = 0 then (J_X11_found_90 Θ 0 ω n) else (J_X11_found_90 Θ l4 ω n))) else (cO ω l0 11 (kI (F_X11_fits Θ l0 l5 l1 ω n) (fun x4 ω n => if x4 = 0 then (J_X11_found_66 Θ k_36 l0 l1 l2 l3 l4 l5 ω n) else (J_X11_found_66 Θ k_36 l0 l1 l2 (l3 + 1) (l4 &&& l5) l5 ω n))))
def L_X11_found_36 (Θ : GP) : Nat → Nat → Int32 → Int32 → Int32 → Int32 → Int32 → OW → Nat → RO
  | 0, _, _, _, _, _, _, _, _ => none
  | f + 1, l0, l1, l2, l3, l4, l5, ω, n => B_X11_found_36 Θ (L_X11_found_36 Θ f) l0 l1 l2 l3 l4 l5 ω n
def J_X11_found_18 (Θ : GP) (l0 : Nat) (l1 : Int32) (l2 : Int32) (s0 : Int32) (s1 : Nat) (ω : OW) (n : Nat) : RO := cO ω s1 11 (kI (F_X11_throwsIf Θ s1 s0 1 ω n) (fun x6 ω n => if x6 = 0 then (L_X11_found_36 Θ 5000 l0 l1 l2 0 63 0 ω n) else (some (.inl (some (.int 0), ω, n)))))
def F_X11_found (Θ : GP) (l0 : Nat) (l1 : Int32) (l2 : Int32) (ω : OW) (n : Nat) : RO := cO ω l0 11 (kV (F_X11_uses Θ l0 ω n) (fun ω n => cO ω l0 11 (kI (F_X11_isTold Θ l0 l1 ω n) (fun x9 ω n => if x9 = 0 then (J_X11_found_18 Θ l0 l1 l2 1 l0 ω n) else (J_X11_found_18 Θ l0 l1 l2 0 l0 ω n)))))
theorem ok_J_X11_found_90 (Θ : GP) (s0 : Int32) (ω : OW) (n : Nat) (r : Out) (h : J_X11_found_90 Θ s0 ω n = some r) : GR Θ yX11_found cX11_found 6 (some .int) 11 (0, 0) 90 [] [.int s0] ω n r := by
  unfold J_X11_found_90 at h
  cases h
  exact g_iret rfl dX11_found_90 rfl
theorem ok_J_X11_found_66 (Θ : GP) (k_36 : Nat → Int32 → Int32 → Int32 → Int32 → Int32 → OW → Nat → RO) (hk_36 : ∀ l0 l1 l2 l3 l4 l5 ω n r, k_36 l0 l1 l2 l3 l4 l5 ω n = some r → GR Θ yX11_found cX11_found 6 (some .int) 11 (0, 0) 36 [(0, .ref l0), (1, .int l1), (2, .int l2), (3, .int l3), (4, .int l4), (5, .int l5)] [] ω n r) (l0 : Nat) (l1 : Int32) (l2 : Int32) (l3 : Int32) (l4 : Int32) (l5 : Int32) (ω : OW) (n : Nat) (r : Out) (h : J_X11_found_66 Θ k_36 l0 l1 l2 l3 l4 l5 ω n = some r) : GR Θ yX11_found cX11_found 6 (some .int) 11 (0, 0) 66 [(0, .ref l0), (1, .int l1), (2, .int l2), (3, .int l3), (4, .int l4), (5, .int l5)] [] ω n r := by
  unfold J_X11_found_66 at h
  refine g_iinc (j := 5) (v := l5 + 1) (lv' := [(5, .int (l5 + 1)), (0, .ref l0), (1, .int l1), (2, .int l2), (3, .int l3), (4, .int l4)]) dX11_found_66 rfl rfl (by decide) rfl ?_
  refine g_goto (tgt := 36) dX11_found_69 (by decide) ?_
  refine G.lsub [1, 2, 3, 4, 5, 0] rfl ?_
  exact hk_36 l0 l1 l2 l3 l4 (l5 + 1) _ _ r h
theorem ok_B_X11_found_36 (Θ : GP) (k_36 : Nat → Int32 → Int32 → Int32 → Int32 → Int32 → OW → Nat → RO) (hk_36 : ∀ l0 l1 l2 l3 l4 l5 ω n r, k_36 l0 l1 l2 l3 l4 l5 ω n = some r → GR Θ yX11_found cX11_found 6 (some .int) 11 (0, 0) 36 [(0, .ref l0), (1, .int l1), (2, .int l2), (3, .int l3), (4, .int l4), (5, .int l5)] [] ω n r) (l0 : Nat) (l1 : Int32) (l2 : Int32) (l3 : Int32) (l4 : Int32) (l5 : Int32) (ω : OW) (n : Nat) (r : Out) (h : B_X11_found_36 Θ k_36 l0 l1 l2 l3 l4 l5 ω n = some r) : GR Θ yX11_found cX11_found 6 (some .int) 11 (0, 0) 36 [(0, .ref l0), (1, .int l1), (2, .int l2), (3, .int l3), (4, .int l4), (5, .int l5)] [] ω n r := by
  unfold B_X11_found_36 at h
  refine g_iload dX11_found_36 5 rfl ?_
  refine g_bipush (v := 64) dX11_found_38 (by decide) ?_
  refine g_icmp_ge (tgt := 72) dX11_found_40 (by decide) (fun c1 => ?_) (fun c1 => ?_)
  · rw [if_pos c1] at h
    refine g_iload_n dX11_found_72 rfl 2 rfl ?_
    refine g_if_ne (tgt := 80) dX11_found_73 (by decide) (fun c2 => ?_) (fun c2 => ?_)
    · rw [if_neg c2] at h
      refine g_iload_n dX11_found_80 rfl 3 rfl ?_
      refine g_if_ne (tgt := 88) dX11_found_81 (by decide) (fun c3 => ?_) (fun c3 => ?_)
      · rw [if_neg c3] at h
        refine g_iload dX11_found_88 4 rfl ?_
        refine G.lsub [] rfl ?_
        exact ok_J_X11_found_90 Θ l4 _ _ r h
      · rw [if_pos c3] at h
        refine g_iconst (v := 0) dX11_found_84 (by decide) ?_
        refine g_goto (tgt := 90) dX11_found_85 (by decide) ?_
        refine G.lsub [] rfl ?_
        exact ok_J_X11_found_90 Θ 0 _ _ r h
    · rw [if_pos c2] at h
      refine g_iload_n dX11_found_76 rfl 3 rfl ?_
      refine g_goto (tgt := 90) dX11_found_77 (by decide) ?_
      refine G.lsub [] rfl ?_
      exact ok_J_X11_found_90 Θ l3 _ _ r h
  · rw [if_neg c1] at h
    refine g_aload_n dX11_found_43 rfl 0 rfl ?_
    refine g_iload dX11_found_44 5 rfl ?_
    refine g_iload_n dX11_found_46 rfl 1 rfl ?_
    refine g_cI (ci := 11) (As := [.int l5, .int l1]) mv_X11_440 dX11_found_47 rfl (ok_X11_fits Θ l0 l5 l1 _ _) rfl rfl (Nat.le_of_ble_eq_true rfl) (by decide) (by decide) (by decide) h (fun x4 ω n h => ?_)
    refine G.less (B' := (0, 0)) (by decide) (by decide) ?_
    refine g_if_ne (tgt := 56) dX11_found_50 (by decide) (fun c5 => ?_) (fun c5 => ?_)
    · rw [if_neg c5] at h
      refine g_iinc (j := 3) (v := l3 + 1) (lv' := [(3, .int (l3 + 1)), (0, .ref l0), (1, .int l1), (2, .int l2), (4, .int l4), (5, .int l5)]) dX11_found_56 rfl rfl (by decide) rfl ?_
      refine g_iload dX11_found_59 4 rfl ?_
      refine g_iload dX11_found_61 5 rfl ?_
      refine g_iand dX11_found_63 ?_
      refine g_istore (lv' := [(4, .int (l4 &&& l5)), (3, .int (l3 + 1)), (0, .ref l0), (1, .int l1), (2, .int l2), (5, .int l5)]) dX11_found_64 (by decide) rfl ?_
      refine G.lsub [2, 3, 4, 1, 0, 5] rfl ?_
      exact ok_J_X11_found_66 Θ k_36 hk_36 l0 l1 l2 (l3 + 1) (l4 &&& l5) l5 _ _ r h
    · rw [if_pos c5] at h
      refine g_goto (tgt := 66) dX11_found_53 (by decide) ?_
      exact ok_J_X11_found_66 Θ k_36 hk_36 l0 l1 l2 l3 l4 l5 _ _ r h
theorem ok_L_X11_found_36 (Θ : GP) : ∀ (f : Nat) (l0 : Nat) (l1 : Int32) (l2 : Int32) (l3 : Int32) (l4 : Int32) (l5 : Int32) (ω : OW) (n : Nat) (r : Out), L_X11_found_36 Θ f l0 l1 l2 l3 l4 l5 ω n = some r → GR Θ yX11_found cX11_found 6 (some .int) 11 (0, 0) 36 [(0, .ref l0), (1, .int l1), (2, .int l2), (3, .int l3), (4, .int l4), (5, .int l5)] [] ω n r := by
  intro f
  induction f with
  | zero =>
    intro l0 l1 l2 l3 l4 l5 ω n r h
    unfold L_X11_found_36 at h
    cases h
  | succ f ih =>
    intro l0 l1 l2 l3 l4 l5 ω n r h
    unfold L_X11_found_36 at h
    exact ok_B_X11_found_36 Θ (L_X11_found_36 Θ f) ih l0 l1 l2 l3 l4 l5 ω n r h
theorem ok_J_X11_found_18 (Θ : GP) (l0 : Nat) (l1 : Int32) (l2 : Int32) (s0 : Int32) (s1 : Nat) (ω : OW) (n : Nat) (r : Out) (h : J_X11_found_18 Θ l0 l1 l2 s0 s1 ω n = some r) : GR Θ yX11_found cX11_found 6 (some .int) 11 (0, 0) 18 [(0, .ref l0), (1, .int l1), (2, .int l2)] [.int s0, .ref s1] ω n r := by
  unfold J_X11_found_18 at h
  refine g_iconst (v := 1) dX11_found_18 (by decide) ?_
  refine g_cI (ci := 11) (As := [.int s0, .int 1]) mv_X11_262 dX11_found_19 rfl (ok_X11_throwsIf Θ s1 s0 1 _ _) rfl rfl (Nat.le_of_ble_eq_true rfl) (by decide) (by decide) (by decide) h (fun x6 ω n h => ?_)
  refine G.less (B' := (0, 0)) (by decide) (by decide) ?_
  refine g_if_eq (tgt := 27) dX11_found_22 (by decide) (fun c7 => ?_) (fun c7 => ?_)
  · rw [if_pos c7] at h
    refine g_iconst (v := 0) dX11_found_27 (by decide) ?_
    refine g_istore_n (lv' := [(3, .int 0), (0, .ref l0), (1, .int l1), (2, .int l2)]) dX11_found_28 rfl (by decide) rfl ?_
    refine g_bipush (v := 63) dX11_found_29 (by decide) ?_
    refine g_istore (lv' := [(4, .int 63), (3, .int 0), (0, .ref l0), (1, .int l1), (2, .int l2)]) dX11_found_31 (by decide) rfl ?_
    refine g_iconst (v := 0) dX11_found_33 (by decide) ?_
    refine g_istore (lv' := [(5, .int 0), (4, .int 63), (3, .int 0), (0, .ref l0), (1, .int l1), (2, .int l2)]) dX11_found_34 (by decide) rfl ?_
    refine G.lsub [3, 4, 5, 2, 1, 0] rfl ?_
    exact ok_L_X11_found_36 Θ 5000 l0 l1 l2 0 63 0 _ _ r h
  · rw [if_neg c7] at h
    refine g_iconst (v := 0) dX11_found_25 (by decide) ?_
    cases h
    exact g_iret rfl dX11_found_26 rfl
theorem ok_X11_found (Θ : GP) (l0 : Nat) (l1 : Int32) (l2 : Int32) (ω : OW) (n : Nat) : Ok Θ 11 0 0 yX11_found cX11_found 6 (some .int) [.ref l0, .int l1, .int l2] ω n (F_X11_found Θ l0 l1 l2 ω n) := by
  refine Ok.of (by decide +kernel) (Nat.le_of_ble_eq_true rfl) (fun r h => ?_)
  unfold F_X11_found at h
  show GR Θ yX11_found cX11_found 6 (some .int) 11 (0, 0) 0 [(0, .ref l0), (1, .int l1), (2, .int l2)] [] ω n r
  refine g_aload_n dX11_found_0 rfl 0 rfl ?_
  refine g_cV (ci := 11) (As := []) mv_X11_251 dX11_found_1 rfl (ok_X11_uses Θ l0 _ _) rfl rfl (Nat.le_of_ble_eq_true rfl) (by decide) (by decide) (by decide) h (fun ω n h => ?_)
  refine G.less (B' := (0, 0)) (by decide) (by decide) ?_
  refine g_aload_n dX11_found_4 rfl 0 rfl ?_
  refine g_aload_n dX11_found_5 rfl 0 rfl ?_
  refine g_iload_n dX11_found_6 rfl 1 rfl ?_
  refine g_cI (ci := 11) (As := [.int l1]) mv_X11_437 dX11_found_7 rfl (ok_X11_isTold Θ l0 l1 _ _) rfl rfl (Nat.le_of_ble_eq_true rfl) (by decide) (by decide) (by decide) h (fun x9 ω n h => ?_)
  refine G.less (B' := (0, 0)) (by decide) (by decide) ?_
  refine g_if_ne (tgt := 17) dX11_found_10 (by decide) (fun c10 => ?_) (fun c10 => ?_)
  · rw [if_neg c10] at h
    refine g_iconst (v := 0) dX11_found_17 (by decide) ?_
    exact ok_J_X11_found_18 Θ l0 l1 l2 0 l0 _ _ r h
  · rw [if_pos c10] at h
    refine g_iconst (v := 1) dX11_found_13 (by decide) ?_
    refine g_goto (tgt := 18) dX11_found_14 (by decide) ?_
    exact ok_J_X11_found_18 Θ l0 l1 l2 1 l0 _ _ r h
def J_X11_greatestPart_57 (Θ : GP) (k_5 : Nat → Int32 → Int32 → Int32 → Int32 → OW → Nat → RO) (k_17 : Nat → Int32 → Int32 → Int32 → Int32 → Int32 → Int32 → OW → Nat → RO) (l0 : Nat) (l1 : Int32) (l2 : Int32) (l3 : Int32) (l4 : Int32) (l6 : Int32) (s0 : Int32) (s1 : Int32) (ω : OW) (n : Nat) : RO := k_17 l0 l1 l2 l3 l4 (s1 + s0) (l6 + 1) ω n
def B_X11_greatestPart_17 (Θ : GP) (k_5 : Nat → Int32 → Int32 → Int32 → Int32 → OW → Nat → RO) (k_17 : Nat → Int32 → Int32 → Int32 → Int32 → Int32 → Int32 → OW → Nat → RO) (l0 : Nat) (l1 : Int32) (l2 : Int32) (l3 : Int32) (l4 : Int32) (l5 : Int32) (l6 : Int32) (ω : OW) (n : Nat) : RO := if l1 ≤ l6 then (k_5 l0 l1 l2 (if l3 < l5 then l5 else l3) (l4 + 1) ω n) else (rA ω l0 11 37 (fun a2 => lI ω (gI Θ) a2 ((10 * l6) + l2) (fun x3 => rA ω l0 11 37 (fun a4 => lI ω (gI Θ) a4 ((10 * l4) + l2) (fun x5 => if x3 = x5 then (J_X11_greatestPart_57 Θ k_5 k_17 l0 l1 l2 l3 l4 l6 1 l5 ω n) else (J_X11_greatestPart_57 Θ k_5 k_17 l0 l1 l2 l3 l4 l6 0 l5 ω n))))))
def L_X11_greatestPart_17 (Θ : GP) (k_5 : Nat → Int32 → Int32 → Int32 → Int32 → OW → Nat → RO) : Nat → Nat → Int32 → Int32 → Int32 → Int32 → Int32 → Int32 → OW → Nat → RO
  | 0, _, _, _, _, _, _, _, _, _ => none
  | f + 1, l0, l1, l2, l3, l4, l5, l6, ω, n => B_X11_greatestPart_17 Θ k_5 (L_X11_greatestPart_17 Θ k_5 f) l0 l1 l2 l3 l4 l5 l6 ω n
def B_X11_greatestPart_5 (Θ : GP) (k_5 : Nat → Int32 → Int32 → Int32 → Int32 → OW → Nat → RO) (l0 : Nat) (l1 : Int32) (l2 : Int32) (l3 : Int32) (l4 : Int32) (ω : OW) (n : Nat) : RO := if l1 ≤ l4 then (some (.inl (some (.int l3), ω, n))) else (L_X11_greatestPart_17 Θ k_5 5000 l0 l1 l2 l3 l4 0 0 ω n)
def L_X11_greatestPart_5 (Θ : GP) : Nat → Nat → Int32 → Int32 → Int32 → Int32 → OW → Nat → RO
  | 0, _, _, _, _, _, _, _ => none
  | f + 1, l0, l1, l2, l3, l4, ω, n => B_X11_greatestPart_5 Θ (L_X11_greatestPart_5 Θ f) l0 l1 l2 l3 l4 ω n
def F_X11_greatestPart (Θ : GP) (l0 : Nat) (l1 : Int32) (l2 : Int32) (ω : OW) (n : Nat) : RO := L_X11_greatestPart_5 Θ 5000 l0 l1 l2 0 0 ω n
theorem ok_J_X11_greatestPart_57 (Θ : GP) (k_5 : Nat → Int32 → Int32 → Int32 → Int32 → OW → Nat → RO) (k_17 : Nat → Int32 → Int32 → Int32 → Int32 → Int32 → Int32 → OW → Nat → RO) (hk_5 : ∀ l0 l1 l2 l3 l4 ω n r, k_5 l0 l1 l2 l3 l4 ω n = some r → GR Θ yX11_greatestPart cX11_greatestPart 7 (some .int) 1 (0, 0) 5 [(0, .ref l0), (1, .int l1), (2, .int l2), (3, .int l3), (4, .int l4)] [] ω n r) (hk_17 : ∀ l0 l1 l2 l3 l4 l5 l6 ω n r, k_17 l0 l1 l2 l3 l4 l5 l6 ω n = some r → GR Θ yX11_greatestPart cX11_greatestPart 7 (some .int) 1 (0, 0) 17 [(0, .ref l0), (1, .int l1), (2, .int l2), (3, .int l3), (4, .int l4), (5, .int l5), (6, .int l6)] [] ω n r) (l0 : Nat) (l1 : Int32) (l2 : Int32) (l3 : Int32) (l4 : Int32) (l6 : Int32) (s0 : Int32) (s1 : Int32) (ω : OW) (n : Nat) (r : Out) (h : J_X11_greatestPart_57 Θ k_5 k_17 l0 l1 l2 l3 l4 l6 s0 s1 ω n = some r) : GR Θ yX11_greatestPart cX11_greatestPart 7 (some .int) 1 (0, 0) 57 [(0, .ref l0), (1, .int l1), (2, .int l2), (3, .int l3), (4, .int l4), (6, .int l6)] [.int s0, .int s1] ω n r := by
  unfold J_X11_greatestPart_57 at h
  refine g_iadd dX11_greatestPart_57 ?_
  refine g_istore (lv' := [(5, .int (s1 + s0)), (0, .ref l0), (1, .int l1), (2, .int l2), (3, .int l3), (4, .int l4), (6, .int l6)]) dX11_greatestPart_58 (by decide) rfl ?_
  refine g_iinc (j := 6) (v := l6 + 1) (lv' := [(6, .int (l6 + 1)), (5, .int (s1 + s0)), (0, .ref l0), (1, .int l1), (2, .int l2), (3, .int l3), (4, .int l4)]) dX11_greatestPart_60 rfl rfl (by decide) rfl ?_
  refine g_goto (tgt := 17) dX11_greatestPart_63 (by decide) ?_
  refine G.lsub [2, 3, 4, 5, 6, 1, 0] rfl ?_
  exact hk_17 l0 l1 l2 l3 l4 (s1 + s0) (l6 + 1) _ _ r h
theorem ok_B_X11_greatestPart_17 (Θ : GP) (k_5 : Nat → Int32 → Int32 → Int32 → Int32 → OW → Nat → RO) (k_17 : Nat → Int32 → Int32 → Int32 → Int32 → Int32 → Int32 → OW → Nat → RO) (hk_5 : ∀ l0 l1 l2 l3 l4 ω n r, k_5 l0 l1 l2 l3 l4 ω n = some r → GR Θ yX11_greatestPart cX11_greatestPart 7 (some .int) 1 (0, 0) 5 [(0, .ref l0), (1, .int l1), (2, .int l2), (3, .int l3), (4, .int l4)] [] ω n r) (hk_17 : ∀ l0 l1 l2 l3 l4 l5 l6 ω n r, k_17 l0 l1 l2 l3 l4 l5 l6 ω n = some r → GR Θ yX11_greatestPart cX11_greatestPart 7 (some .int) 1 (0, 0) 17 [(0, .ref l0), (1, .int l1), (2, .int l2), (3, .int l3), (4, .int l4), (5, .int l5), (6, .int l6)] [] ω n r) (l0 : Nat) (l1 : Int32) (l2 : Int32) (l3 : Int32) (l4 : Int32) (l5 : Int32) (l6 : Int32) (ω : OW) (n : Nat) (r : Out) (h : B_X11_greatestPart_17 Θ k_5 k_17 l0 l1 l2 l3 l4 l5 l6 ω n = some r) : GR Θ yX11_greatestPart cX11_greatestPart 7 (some .int) 1 (0, 0) 17 [(0, .ref l0), (1, .int l1), (2, .int l2), (3, .int l3), (4, .int l4), (5, .int l5), (6, .int l6)] [] ω n r := by
  unfold B_X11_greatestPart_17 at h
  refine g_iload dX11_greatestPart_17 6 rfl ?_
  refine g_iload_n dX11_greatestPart_19 rfl 1 rfl ?_
  refine g_icmp_ge (tgt := 66) dX11_greatestPart_20 (by decide) (fun c1 => ?_) (fun c1 => ?_)
  · rw [if_pos c1] at h
    refine g_iload_n dX11_greatestPart_66 rfl 3 rfl ?_
    refine g_iload dX11_greatestPart_67 5 rfl ?_
    refine g_max wd_1817 wd_610 wd_135 wd_611 dX11_greatestPart_69 (by decide) (Nat.le_of_ble_eq_true rfl) ?_
    refine g_istore_n (lv' := [(3, .int (if l3 < l5 then l5 else l3)), (0, .ref l0), (1, .int l1), (2, .int l2), (4, .int l4), (5, .int l5), (6, .int l6)]) dX11_greatestPart_72 rfl (by decide) rfl ?_
    refine g_iinc (j := 4) (v := l4 + 1) (lv' := [(4, .int (l4 + 1)), (3, .int (if l3 < l5 then l5 else l3)), (0, .ref l0), (1, .int l1), (2, .int l2), (5, .int l5), (6, .int l6)]) dX11_greatestPart_73 rfl rfl (by decide) rfl ?_
    refine g_goto (tgt := 5) dX11_greatestPart_76 (by decide) ?_
    refine G.lsub [2, 3, 4, 1, 0] rfl ?_
    exact hk_5 l0 l1 l2 (if l3 < l5 then l5 else l3) (l4 + 1) _ _ r h
  · rw [if_neg c1] at h
    refine g_iload dX11_greatestPart_23 5 rfl ?_
    refine g_aload_n dX11_greatestPart_25 rfl 0 rfl ?_
    refine g_rA fl_X11_60 dX11_greatestPart_26 h (fun a2 h => ?_)
    refine g_bipush (v := 10) dX11_greatestPart_29 (by decide) ?_
    refine g_iload dX11_greatestPart_31 6 rfl ?_
    refine g_imul dX11_greatestPart_33 ?_
    refine g_iload_n dX11_greatestPart_34 rfl 2 rfl ?_
    refine g_iadd dX11_greatestPart_35 ?_
    refine g_lIi dX11_greatestPart_36 h (fun x3 h => ?_)
    refine g_aload_n dX11_greatestPart_37 rfl 0 rfl ?_
    refine g_rA fl_X11_60 dX11_greatestPart_38 h (fun a4 h => ?_)
    refine g_bipush (v := 10) dX11_greatestPart_41 (by decide) ?_
    refine g_iload dX11_greatestPart_43 4 rfl ?_
    refine g_imul dX11_greatestPart_45 ?_
    refine g_iload_n dX11_greatestPart_46 rfl 2 rfl ?_
    refine g_iadd dX11_greatestPart_47 ?_
    refine g_lIi dX11_greatestPart_48 h (fun x5 h => ?_)
    refine g_icmp_ne (tgt := 56) dX11_greatestPart_49 (by decide) (fun c6 => ?_) (fun c6 => ?_)
    · rw [if_neg c6] at h
      refine g_iconst (v := 0) dX11_greatestPart_56 (by decide) ?_
      refine G.lsub [0, 1, 2, 3, 4, 6] rfl ?_
      exact ok_J_X11_greatestPart_57 Θ k_5 k_17 hk_5 hk_17 l0 l1 l2 l3 l4 l6 0 l5 _ _ r h
    · rw [if_pos c6] at h
      refine g_iconst (v := 1) dX11_greatestPart_52 (by decide) ?_
      refine g_goto (tgt := 57) dX11_greatestPart_53 (by decide) ?_
      refine G.lsub [0, 1, 2, 3, 4, 6] rfl ?_
      exact ok_J_X11_greatestPart_57 Θ k_5 k_17 hk_5 hk_17 l0 l1 l2 l3 l4 l6 1 l5 _ _ r h
theorem ok_L_X11_greatestPart_17 (Θ : GP) (k_5 : Nat → Int32 → Int32 → Int32 → Int32 → OW → Nat → RO) (hk_5 : ∀ l0 l1 l2 l3 l4 ω n r, k_5 l0 l1 l2 l3 l4 ω n = some r → GR Θ yX11_greatestPart cX11_greatestPart 7 (some .int) 1 (0, 0) 5 [(0, .ref l0), (1, .int l1), (2, .int l2), (3, .int l3), (4, .int l4)] [] ω n r) : ∀ (f : Nat) (l0 : Nat) (l1 : Int32) (l2 : Int32) (l3 : Int32) (l4 : Int32) (l5 : Int32) (l6 : Int32) (ω : OW) (n : Nat) (r : Out), L_X11_greatestPart_17 Θ k_5 f l0 l1 l2 l3 l4 l5 l6 ω n = some r → GR Θ yX11_greatestPart cX11_greatestPart 7 (some .int) 1 (0, 0) 17 [(0, .ref l0), (1, .int l1), (2, .int l2), (3, .int l3), (4, .int l4), (5, .int l5), (6, .int l6)] [] ω n r := by
  intro f
  induction f with
  | zero =>
    intro l0 l1 l2 l3 l4 l5 l6 ω n r h
    unfold L_X11_greatestPart_17 at h
    cases h
  | succ f ih =>
    intro l0 l1 l2 l3 l4 l5 l6 ω n r h
    unfold L_X11_greatestPart_17 at h
    exact ok_B_X11_greatestPart_17 Θ k_5 (L_X11_greatestPart_17 Θ k_5 f) hk_5 ih l0 l1 l2 l3 l4 l5 l6 ω n r h
theorem ok_B_X11_greatestPart_5 (Θ : GP) (k_5 : Nat → Int32 → Int32 → Int32 → Int32 → OW → Nat → RO) (hk_5 : ∀ l0 l1 l2 l3 l4 ω n r, k_5 l0 l1 l2 l3 l4 ω n = some r → GR Θ yX11_greatestPart cX11_greatestPart 7 (some .int) 1 (0, 0) 5 [(0, .ref l0), (1, .int l1), (2, .int l2), (3, .int l3), (4, .int l4)] [] ω n r) (l0 : Nat) (l1 : Int32) (l2 : Int32) (l3 : Int32) (l4 : Int32) (ω : OW) (n : Nat) (r : Out) (h : B_X11_greatestPart_5 Θ k_5 l0 l1 l2 l3 l4 ω n = some r) : GR Θ yX11_greatestPart cX11_greatestPart 7 (some .int) 1 (0, 0) 5 [(0, .ref l0), (1, .int l1), (2, .int l2), (3, .int l3), (4, .int l4)] [] ω n r := by
  unfold B_X11_greatestPart_5 at h
  refine g_iload dX11_greatestPart_5 4 rfl ?_
  refine g_iload_n dX11_greatestPart_7 rfl 1 rfl ?_
  refine g_icmp_ge (tgt := 79) dX11_greatestPart_8 (by decide) (fun c7 => ?_) (fun c7 => ?_)
  · rw [if_pos c7] at h
    refine g_iload_n dX11_greatestPart_79 rfl 3 rfl ?_
    cases h
    exact g_iret rfl dX11_greatestPart_80 rfl
  · rw [if_neg c7] at h
    refine g_iconst (v := 0) dX11_greatestPart_11 (by decide) ?_
    refine g_istore (lv' := [(5, .int 0), (0, .ref l0), (1, .int l1), (2, .int l2), (3, .int l3), (4, .int l4)]) dX11_greatestPart_12 (by decide) rfl ?_
    refine g_iconst (v := 0) dX11_greatestPart_14 (by decide) ?_
    refine g_istore (lv' := [(6, .int 0), (5, .int 0), (0, .ref l0), (1, .int l1), (2, .int l2), (3, .int l3), (4, .int l4)]) dX11_greatestPart_15 (by decide) rfl ?_
    refine G.lsub [2, 3, 4, 5, 6, 1, 0] rfl ?_
    exact ok_L_X11_greatestPart_17 Θ k_5 hk_5 5000 l0 l1 l2 l3 l4 0 0 _ _ r h
theorem ok_L_X11_greatestPart_5 (Θ : GP) : ∀ (f : Nat) (l0 : Nat) (l1 : Int32) (l2 : Int32) (l3 : Int32) (l4 : Int32) (ω : OW) (n : Nat) (r : Out), L_X11_greatestPart_5 Θ f l0 l1 l2 l3 l4 ω n = some r → GR Θ yX11_greatestPart cX11_greatestPart 7 (some .int) 1 (0, 0) 5 [(0, .ref l0), (1, .int l1), (2, .int l2), (3, .int l3), (4, .int l4)] [] ω n r := by
  intro f
  induction f with
  | zero =>
    intro l0 l1 l2 l3 l4 ω n r h
    unfold L_X11_greatestPart_5 at h
    cases h
  | succ f ih =>
    intro l0 l1 l2 l3 l4 ω n r h
    unfold L_X11_greatestPart_5 at h
    exact ok_B_X11_greatestPart_5 Θ (L_X11_greatestPart_5 Θ f) ih l0 l1 l2 l3 l4 ω n r h
theorem ok_X11_greatestPart (Θ : GP) (l0 : Nat) (l1 : Int32) (l2 : Int32) (ω : OW) (n : Nat) : Ok Θ 1 0 0 yX11_greatestPart cX11_greatestPart 7 (some .int) [.ref l0, .int l1, .int l2] ω n (F_X11_greatestPart Θ l0 l1 l2 ω n) := by
  refine Ok.of (by decide +kernel) (Nat.le_of_ble_eq_true rfl) (fun r h => ?_)
  unfold F_X11_greatestPart at h
  show GR Θ yX11_greatestPart cX11_greatestPart 7 (some .int) 1 (0, 0) 0 [(0, .ref l0), (1, .int l1), (2, .int l2)] [] ω n r
  refine g_iconst (v := 0) dX11_greatestPart_0 (by decide) ?_
  refine g_istore_n (lv' := [(3, .int 0), (0, .ref l0), (1, .int l1), (2, .int l2)]) dX11_greatestPart_1 rfl (by decide) rfl ?_
  refine g_iconst (v := 0) dX11_greatestPart_2 (by decide) ?_
  refine g_istore (lv' := [(4, .int 0), (3, .int 0), (0, .ref l0), (1, .int l1), (2, .int l2)]) dX11_greatestPart_3 (by decide) rfl ?_
  refine G.lsub [2, 3, 4, 1, 0] rfl ?_
  exact ok_L_X11_greatestPart_5 Θ 5000 l0 l1 l2 0 0 _ _ r h
def J_X11_ask_169 (Θ : GP) (l3 : Int32) (ω : OW) (n : Nat) : RO := some (.inl (some (.int l3), ω, n))
def J_X11_ask_153 (Θ : GP) (k_103 : Nat → Int32 → Int32 → Int32 → Int32 → OW → Nat → RO) (l0 : Nat) (l2 : Int32) (l4 : Int32) (l5 : Int32) (l6 : Int32) (s0 : Int32) (ω : OW) (n : Nat) : RO := k_103 l0 l2 s0 (if l6 < l4 then l6 else l4) (l5 + 1) ω n
def J_X11_ask_138 (Θ : GP) (k_103 : Nat → Int32 → Int32 → Int32 → Int32 → OW → Nat → RO) (l0 : Nat) (l2 : Int32) (l3 : Int32) (l4 : Int32) (l5 : Int32) (s0 : Int32) (ω : OW) (n : Nat) : RO := if l4 ≤ s0 then (J_X11_ask_153 Θ k_103 l0 l2 l4 l5 s0 l3 ω n) else (J_X11_ask_153 Θ k_103 l0 l2 l4 l5 s0 l5 ω n)
def B_X11_ask_103 (Θ : GP) (k_103 : Nat → Int32 → Int32 → Int32 → Int32 → OW → Nat → RO) (l0 : Nat) (l2 : Int32) (l3 : Int32) (l4 : Int32) (l5 : Int32) (ω : OW) (n : Nat) : RO := if 10 ≤ l5 then (J_X11_ask_169 Θ l3 ω n) else (if l2 ≤ 1 then (J_X11_ask_169 Θ l3 ω n) else (cO ω l0 11 (kI (F_X11_propIn Θ l0 l5 ω n) (fun x4 ω n => if x4 = (-1) then (J_X11_ask_138 Θ k_103 l0 l2 l3 l4 l5 100000000 ω n) else (cO ω l0 11 (kI (F_X11_greatestPart Θ l0 l2 l5 ω n) (fun x6 ω n => J_X11_ask_138 Θ k_103 l0 l2 l3 l4 l5 x6 ω n)))))))
def L_X11_ask_103 (Θ : GP) : Nat → Nat → Int32 → Int32 → Int32 → Int32 → OW → Nat → RO
  | 0, _, _, _, _, _, _, _ => none
  | f + 1, l0, l2, l3, l4, l5, ω, n => B_X11_ask_103 Θ (L_X11_ask_103 Θ f) l0 l2 l3 l4 l5 ω n
def J_X11_ask_87 (Θ : GP) (k_31 : Nat → Int32 → Int32 → Int32 → OW → Nat → RO) (l0 : Nat) (l1 : Int32) (l2 : Int32) (l3 : Int32) (ω : OW) (n : Nat) : RO := k_31 l0 l1 l2 (l3 + 1) ω n
def B_X11_ask_52 (Θ : GP) (k_31 : Nat → Int32 → Int32 → Int32 → OW → Nat → RO) (k_52 : Nat → Int32 → Int32 → Int32 → Int32 → OW → Nat → RO) (l0 : Nat) (l1 : Int32) (l2 : Int32) (l3 : Int32) (l4 : Int32) (ω : OW) (n : Nat) : RO := if 10 ≤ l4 then (J_X11_ask_87 Θ k_31 l0 l1 (l2 + 1) l3 ω n) else (rA ω l0 11 37 (fun a8 => rA ω l0 11 26 (fun a9 => lI ω (gI Θ) a9 l4 (fun x10 => sI ω (gI Θ) a8 ((10 * l2) + l4) x10 (fun ω => k_52 l0 l1 l2 l3 (l4 + 1) ω n)))))
def L_X11_ask_52 (Θ : GP) (k_31 : Nat → Int32 → Int32 → Int32 → OW → Nat → RO) : Nat → Nat → Int32 → Int32 → Int32 → Int32 → OW → Nat → RO
  | 0, _, _, _, _, _, _, _ => none
  | f + 1, l0, l1, l2, l3, l4, ω, n => B_X11_ask_52 Θ k_31 (L_X11_ask_52 Θ k_31 f) l0 l1 l2 l3 l4 ω n
def B_X11_ask_31 (Θ : GP) (k_31 : Nat → Int32 → Int32 → Int32 → OW → Nat → RO) (l0 : Nat) (l1 : Int32) (l2 : Int32) (l3 : Int32) (ω : OW) (n : Nat) : RO := if 64 ≤ l3 then (L_X11_ask_103 Θ 5000 l0 l2 (-1) 100000000 0 ω n) else (cO ω l0 11 (kI (F_X11_fits Θ l0 l3 l1 ω n) (fun x12 ω n => if x12 = 0 then (J_X11_ask_87 Θ k_31 l0 l1 l2 l3 ω n) else (L_X11_ask_52 Θ k_31 5000 l0 l1 l2 l3 0 ω n))))
def L_X11_ask_31 (Θ : GP) : Nat → Nat → Int32 → Int32 → Int32 → OW → Nat → RO
  | 0, _, _, _, _, _, _ => none
  | f + 1, l0, l1, l2, l3, ω, n => B_X11_ask_31 Θ (L_X11_ask_31 Θ f) l0 l1 l2 l3 ω n
def J_X11_ask_18 (Θ : GP) (l0 : Nat) (l1 : Int32) (s0 : Int32) (s1 : Nat) (ω : OW) (n : Nat) : RO := cO ω s1 11 (kI (F_X11_throwsIf Θ s1 s0 1 ω n) (fun x14 ω n => if x14 = 0 then (L_X11_ask_31 Θ 5000 l0 l1 0 0 ω n) else (some (.inl (some (.int 0), ω, n)))))
def F_X11_ask (Θ : GP) (l0 : Nat) (l1 : Int32) (ω : OW) (n : Nat) : RO := cO ω l0 11 (kV (F_X11_uses Θ l0 ω n) (fun ω n => cO ω l0 11 (kI (F_X11_isTold Θ l0 l1 ω n) (fun x17 ω n => if x17 = 0 then (J_X11_ask_18 Θ l0 l1 1 l0 ω n) else (J_X11_ask_18 Θ l0 l1 0 l0 ω n)))))
theorem ok_J_X11_ask_169 (Θ : GP) (l3 : Int32) (ω : OW) (n : Nat) (r : Out) (h : J_X11_ask_169 Θ l3 ω n = some r) : GR Θ yX11_ask cX11_ask 7 (some .int) 11 (0, 0) 169 [(3, .int l3)] [] ω n r := by
  unfold J_X11_ask_169 at h
  refine g_iload_n dX11_ask_169 rfl 0 rfl ?_
  cases h
  exact g_iret rfl dX11_ask_170 rfl
theorem ok_J_X11_ask_153 (Θ : GP) (k_103 : Nat → Int32 → Int32 → Int32 → Int32 → OW → Nat → RO) (hk_103 : ∀ l0 l2 l3 l4 l5 ω n r, k_103 l0 l2 l3 l4 l5 ω n = some r → GR Θ yX11_ask cX11_ask 7 (some .int) 11 (0, 0) 103 [(0, .ref l0), (2, .int l2), (3, .int l3), (4, .int l4), (5, .int l5)] [] ω n r) (l0 : Nat) (l2 : Int32) (l4 : Int32) (l5 : Int32) (l6 : Int32) (s0 : Int32) (ω : OW) (n : Nat) (r : Out) (h : J_X11_ask_153 Θ k_103 l0 l2 l4 l5 l6 s0 ω n = some r) : GR Θ yX11_ask cX11_ask 7 (some .int) 11 (0, 0) 153 [(0, .ref l0), (2, .int l2), (4, .int l4), (5, .int l5), (6, .int l6)] [.int s0] ω n r := by
  unfold J_X11_ask_153 at h
  refine g_istore_n (lv' := [(3, .int s0), (0, .ref l0), (2, .int l2), (4, .int l4), (5, .int l5), (6, .int l6)]) dX11_ask_153 rfl (by decide) rfl ?_
  refine g_iload dX11_ask_154 3 rfl ?_
  refine g_iload dX11_ask_156 5 rfl ?_
  refine g_min wd_1863 wd_617 wd_135 wd_618 dX11_ask_158 (by decide) (Nat.le_of_ble_eq_true rfl) ?_
  refine g_istore (lv' := [(4, .int (if l6 < l4 then l6 else l4)), (3, .int s0), (0, .ref l0), (2, .int l2), (5, .int l5), (6, .int l6)]) dX11_ask_161 (by decide) rfl ?_
  refine g_iinc (j := 4) (v := l5 + 1) (lv' := [(5, .int (l5 + 1)), (4, .int (if l6 < l4 then l6 else l4)), (3, .int s0), (0, .ref l0), (2, .int l2), (6, .int l6)]) dX11_ask_163 rfl rfl (by decide) rfl ?_
  refine g_goto (tgt := 103) dX11_ask_166 (by decide) ?_
  refine G.lsub [3, 4, 2, 1, 0] rfl ?_
  exact hk_103 l0 l2 s0 (if l6 < l4 then l6 else l4) (l5 + 1) _ _ r h
theorem ok_J_X11_ask_138 (Θ : GP) (k_103 : Nat → Int32 → Int32 → Int32 → Int32 → OW → Nat → RO) (hk_103 : ∀ l0 l2 l3 l4 l5 ω n r, k_103 l0 l2 l3 l4 l5 ω n = some r → GR Θ yX11_ask cX11_ask 7 (some .int) 11 (0, 0) 103 [(0, .ref l0), (2, .int l2), (3, .int l3), (4, .int l4), (5, .int l5)] [] ω n r) (l0 : Nat) (l2 : Int32) (l3 : Int32) (l4 : Int32) (l5 : Int32) (s0 : Int32) (ω : OW) (n : Nat) (r : Out) (h : J_X11_ask_138 Θ k_103 l0 l2 l3 l4 l5 s0 ω n = some r) : GR Θ yX11_ask cX11_ask 7 (some .int) 11 (0, 0) 138 [(0, .ref l0), (2, .int l2), (3, .int l3), (4, .int l4), (5, .int l5)] [.int s0] ω n r := by
  unfold J_X11_ask_138 at h
  refine g_istore (lv' := [(6, .int s0), (0, .ref l0), (2, .int l2), (3, .int l3), (4, .int l4), (5, .int l5)]) dX11_ask_138 (by decide) rfl ?_
  refine g_iload dX11_ask_140 0 rfl ?_
  refine g_iload dX11_ask_142 4 rfl ?_
  refine g_icmp_ge (tgt := 152) dX11_ask_144 (by decide) (fun c1 => ?_) (fun c1 => ?_)
  · rw [if_pos c1] at h
    refine g_iload_n dX11_ask_152 rfl 3 rfl ?_
    refine G.lsub [1, 2, 4, 5, 0] rfl ?_
    exact ok_J_X11_ask_153 Θ k_103 hk_103 l0 l2 l4 l5 s0 l3 _ _ r h
  · rw [if_neg c1] at h
    refine g_iload dX11_ask_147 5 rfl ?_
    refine g_goto (tgt := 153) dX11_ask_149 (by decide) ?_
    refine G.lsub [1, 2, 4, 5, 0] rfl ?_
    exact ok_J_X11_ask_153 Θ k_103 hk_103 l0 l2 l4 l5 s0 l5 _ _ r h
theorem ok_B_X11_ask_103 (Θ : GP) (k_103 : Nat → Int32 → Int32 → Int32 → Int32 → OW → Nat → RO) (hk_103 : ∀ l0 l2 l3 l4 l5 ω n r, k_103 l0 l2 l3 l4 l5 ω n = some r → GR Θ yX11_ask cX11_ask 7 (some .int) 11 (0, 0) 103 [(0, .ref l0), (2, .int l2), (3, .int l3), (4, .int l4), (5, .int l5)] [] ω n r) (l0 : Nat) (l2 : Int32) (l3 : Int32) (l4 : Int32) (l5 : Int32) (ω : OW) (n : Nat) (r : Out) (h : B_X11_ask_103 Θ k_103 l0 l2 l3 l4 l5 ω n = some r) : GR Θ yX11_ask cX11_ask 7 (some .int) 11 (0, 0) 103 [(0, .ref l0), (2, .int l2), (3, .int l3), (4, .int l4), (5, .int l5)] [] ω n r := by
  unfold B_X11_ask_103 at h
  refine g_iload dX11_ask_103 4 rfl ?_
  refine g_bipush (v := 10) dX11_ask_105 (by decide) ?_
  refine g_icmp_ge (tgt := 169) dX11_ask_107 (by decide) (fun c2 => ?_) (fun c2 => ?_)
  · rw [if_pos c2] at h
    refine G.lsub [2] rfl ?_
    exact ok_J_X11_ask_169 Θ l3 _ _ r h
  · rw [if_neg c2] at h
    refine g_iload_n dX11_ask_110 rfl 1 rfl ?_
    refine g_iconst (v := 1) dX11_ask_111 (by decide) ?_
    refine g_icmp_le (tgt := 169) dX11_ask_112 (by decide) (fun c3 => ?_) (fun c3 => ?_)
    · rw [if_pos c3] at h
      refine G.lsub [2] rfl ?_
      exact ok_J_X11_ask_169 Θ l3 _ _ r h
    · rw [if_neg c3] at h
      refine g_aload_n dX11_ask_115 rfl 0 rfl ?_
      refine g_iload dX11_ask_116 4 rfl ?_
      refine g_cI (ci := 11) (As := [.int l5]) mv_X11_160 dX11_ask_118 rfl (ok_X11_propIn Θ l0 l5 _ _) rfl rfl (Nat.le_of_ble_eq_true rfl) (by decide) (by decide) (by decide) h (fun x4 ω n h => ?_)
      refine G.less (B' := (0, 0)) (by decide) (by decide) ?_
      refine g_iconst (v := (-1)) dX11_ask_121 (by decide) ?_
      refine g_icmp_ne (tgt := 131) dX11_ask_122 (by decide) (fun c5 => ?_) (fun c5 => ?_)
      · rw [if_neg c5] at h
        refine g_aload_n dX11_ask_131 rfl 0 rfl ?_
        refine g_iload_n dX11_ask_132 rfl 1 rfl ?_
        refine g_iload dX11_ask_133 4 rfl ?_
        refine g_cI (ci := 11) (As := [.int l2, .int l5]) mv_X11_443 dX11_ask_135 rfl (ok_X11_greatestPart Θ l0 l2 l5 _ _) rfl rfl (Nat.le_of_ble_eq_true rfl) (by decide) (by decide) (by decide) h (fun x6 ω n h => ?_)
        refine G.less (B' := (0, 0)) (by decide) (by decide) ?_
        exact ok_J_X11_ask_138 Θ k_103 hk_103 l0 l2 l3 l4 l5 x6 _ _ r h
      · rw [if_pos c5] at h
        refine g_ldc_w (v := 100000000) wd_2001 dX11_ask_125 ?_
        refine g_goto (tgt := 138) dX11_ask_128 (by decide) ?_
        exact ok_J_X11_ask_138 Θ k_103 hk_103 l0 l2 l3 l4 l5 100000000 _ _ r h
theorem ok_L_X11_ask_103 (Θ : GP) : ∀ (f : Nat) (l0 : Nat) (l2 : Int32) (l3 : Int32) (l4 : Int32) (l5 : Int32) (ω : OW) (n : Nat) (r : Out), L_X11_ask_103 Θ f l0 l2 l3 l4 l5 ω n = some r → GR Θ yX11_ask cX11_ask 7 (some .int) 11 (0, 0) 103 [(0, .ref l0), (2, .int l2), (3, .int l3), (4, .int l4), (5, .int l5)] [] ω n r := by
  intro f
  induction f with
  | zero =>
    intro l0 l2 l3 l4 l5 ω n r h
    unfold L_X11_ask_103 at h
    cases h
  | succ f ih =>
    intro l0 l2 l3 l4 l5 ω n r h
    unfold L_X11_ask_103 at h
    exact ok_B_X11_ask_103 Θ (L_X11_ask_103 Θ f) ih l0 l2 l3 l4 l5 ω n r h
theorem ok_J_X11_ask_87 (Θ : GP) (k_31 : Nat → Int32 → Int32 → Int32 → OW → Nat → RO) (hk_31 : ∀ l0 l1 l2 l3 ω n r, k_31 l0 l1 l2 l3 ω n = some r → GR Θ yX11_ask cX11_ask 7 (some .int) 11 (0, 0) 31 [(0, .ref l0), (1, .int l1), (2, .int l2), (3, .int l3)] [] ω n r) (l0 : Nat) (l1 : Int32) (l2 : Int32) (l3 : Int32) (ω : OW) (n : Nat) (r : Out) (h : J_X11_ask_87 Θ k_31 l0 l1 l2 l3 ω n = some r) : GR Θ yX11_ask cX11_ask 7 (some .int) 11 (0, 0) 87 [(0, .ref l0), (1, .int l1), (2, .int l2), (3, .int l3)] [] ω n r := by
  unfold J_X11_ask_87 at h
  refine g_iinc (j := 3) (v := l3 + 1) (lv' := [(3, .int (l3 + 1)), (0, .ref l0), (1, .int l1), (2, .int l2)]) dX11_ask_87 rfl rfl (by decide) rfl ?_
  refine g_goto (tgt := 31) dX11_ask_90 (by decide) ?_
  refine G.lsub [1, 2, 3, 0] rfl ?_
  exact hk_31 l0 l1 l2 (l3 + 1) _ _ r h
theorem ok_B_X11_ask_52 (Θ : GP) (k_31 : Nat → Int32 → Int32 → Int32 → OW → Nat → RO) (k_52 : Nat → Int32 → Int32 → Int32 → Int32 → OW → Nat → RO) (hk_31 : ∀ l0 l1 l2 l3 ω n r, k_31 l0 l1 l2 l3 ω n = some r → GR Θ yX11_ask cX11_ask 7 (some .int) 11 (0, 0) 31 [(0, .ref l0), (1, .int l1), (2, .int l2), (3, .int l3)] [] ω n r) (hk_52 : ∀ l0 l1 l2 l3 l4 ω n r, k_52 l0 l1 l2 l3 l4 ω n = some r → GR Θ yX11_ask cX11_ask 7 (some .int) 11 (0, 0) 52 [(0, .ref l0), (1, .int l1), (2, .int l2), (3, .int l3), (4, .int l4)] [] ω n r) (l0 : Nat) (l1 : Int32) (l2 : Int32) (l3 : Int32) (l4 : Int32) (ω : OW) (n : Nat) (r : Out) (h : B_X11_ask_52 Θ k_31 k_52 l0 l1 l2 l3 l4 ω n = some r) : GR Θ yX11_ask cX11_ask 7 (some .int) 11 (0, 0) 52 [(0, .ref l0), (1, .int l1), (2, .int l2), (3, .int l3), (4, .int l4)] [] ω n r := by
  unfold B_X11_ask_52 at h
  refine g_iload dX11_ask_52 4 rfl ?_
  refine g_bipush (v := 10) dX11_ask_54 (by decide) ?_
  refine g_icmp_ge (tgt := 84) dX11_ask_56 (by decide) (fun c7 => ?_) (fun c7 => ?_)
  · rw [if_pos c7] at h
    refine g_iinc (j := 2) (v := l2 + 1) (lv' := [(2, .int (l2 + 1)), (0, .ref l0), (1, .int l1), (3, .int l3), (4, .int l4)]) dX11_ask_84 rfl rfl (by decide) rfl ?_
    refine G.lsub [1, 2, 0, 3] rfl ?_
    exact ok_J_X11_ask_87 Θ k_31 hk_31 l0 l1 (l2 + 1) l3 _ _ r h
  · rw [if_neg c7] at h
    refine g_aload_n dX11_ask_59 rfl 0 rfl ?_
    refine g_rA fl_X11_60 dX11_ask_60 h (fun a8 h => ?_)
    refine g_bipush (v := 10) dX11_ask_63 (by decide) ?_
    refine g_iload_n dX11_ask_65 rfl 2 rfl ?_
    refine g_imul dX11_ask_66 ?_
    refine g_iload dX11_ask_67 4 rfl ?_
    refine g_iadd dX11_ask_69 ?_
    refine g_aload_n dX11_ask_70 rfl 0 rfl ?_
    refine g_rA fl_X11_45 dX11_ask_71 h (fun a9 h => ?_)
    refine g_iload dX11_ask_74 4 rfl ?_
    refine g_lIi dX11_ask_76 h (fun x10 h => ?_)
    refine g_sIi dX11_ask_77 h (fun ω h => ?_)
    refine g_iinc (j := 4) (v := l4 + 1) (lv' := [(4, .int (l4 + 1)), (0, .ref l0), (1, .int l1), (2, .int l2), (3, .int l3)]) dX11_ask_78 rfl rfl (by decide) rfl ?_
    refine g_goto (tgt := 52) dX11_ask_81 (by decide) ?_
    refine G.lsub [1, 2, 3, 4, 0] rfl ?_
    exact hk_52 l0 l1 l2 l3 (l4 + 1) _ _ r h
theorem ok_L_X11_ask_52 (Θ : GP) (k_31 : Nat → Int32 → Int32 → Int32 → OW → Nat → RO) (hk_31 : ∀ l0 l1 l2 l3 ω n r, k_31 l0 l1 l2 l3 ω n = some r → GR Θ yX11_ask cX11_ask 7 (some .int) 11 (0, 0) 31 [(0, .ref l0), (1, .int l1), (2, .int l2), (3, .int l3)] [] ω n r) : ∀ (f : Nat) (l0 : Nat) (l1 : Int32) (l2 : Int32) (l3 : Int32) (l4 : Int32) (ω : OW) (n : Nat) (r : Out), L_X11_ask_52 Θ k_31 f l0 l1 l2 l3 l4 ω n = some r → GR Θ yX11_ask cX11_ask 7 (some .int) 11 (0, 0) 52 [(0, .ref l0), (1, .int l1), (2, .int l2), (3, .int l3), (4, .int l4)] [] ω n r := by
  intro f
  induction f with
  | zero =>
    intro l0 l1 l2 l3 l4 ω n r h
    unfold L_X11_ask_52 at h
    cases h
  | succ f ih =>
    intro l0 l1 l2 l3 l4 ω n r h
    unfold L_X11_ask_52 at h
    exact ok_B_X11_ask_52 Θ k_31 (L_X11_ask_52 Θ k_31 f) hk_31 ih l0 l1 l2 l3 l4 ω n r h
theorem ok_B_X11_ask_31 (Θ : GP) (k_31 : Nat → Int32 → Int32 → Int32 → OW → Nat → RO) (hk_31 : ∀ l0 l1 l2 l3 ω n r, k_31 l0 l1 l2 l3 ω n = some r → GR Θ yX11_ask cX11_ask 7 (some .int) 11 (0, 0) 31 [(0, .ref l0), (1, .int l1), (2, .int l2), (3, .int l3)] [] ω n r) (l0 : Nat) (l1 : Int32) (l2 : Int32) (l3 : Int32) (ω : OW) (n : Nat) (r : Out) (h : B_X11_ask_31 Θ k_31 l0 l1 l2 l3 ω n = some r) : GR Θ yX11_ask cX11_ask 7 (some .int) 11 (0, 0) 31 [(0, .ref l0), (1, .int l1), (2, .int l2), (3, .int l3)] [] ω n r := by
  unfold B_X11_ask_31 at h
  refine g_iload_n dX11_ask_31 rfl 3 rfl ?_
  refine g_bipush (v := 64) dX11_ask_32 (by decide) ?_
  refine g_icmp_ge (tgt := 93) dX11_ask_34 (by decide) (fun c11 => ?_) (fun c11 => ?_)
  · rw [if_pos c11] at h
    refine g_iconst (v := (-1)) dX11_ask_93 (by decide) ?_
    refine g_istore_n (lv' := [(3, .int (-1)), (0, .ref l0), (1, .int l1), (2, .int l2)]) dX11_ask_94 rfl (by decide) rfl ?_
    refine g_ldc_w (v := 100000000) wd_2001 dX11_ask_95 ?_
    refine g_istore (lv' := [(4, .int 100000000), (3, .int (-1)), (0, .ref l0), (1, .int l1), (2, .int l2)]) dX11_ask_98 (by decide) rfl ?_
    refine g_iconst (v := 0) dX11_ask_100 (by decide) ?_
    refine g_istore (lv' := [(5, .int 0), (4, .int 100000000), (3, .int (-1)), (0, .ref l0), (1, .int l1), (2, .int l2)]) dX11_ask_101 (by decide) rfl ?_
    refine G.lsub [3, 5, 2, 1, 0] rfl ?_
    exact ok_L_X11_ask_103 Θ 5000 l0 l2 (-1) 100000000 0 _ _ r h
  · rw [if_neg c11] at h
    refine g_aload_n dX11_ask_37 rfl 0 rfl ?_
    refine g_iload_n dX11_ask_38 rfl 3 rfl ?_
    refine g_iload_n dX11_ask_39 rfl 1 rfl ?_
    refine g_cI (ci := 11) (As := [.int l3, .int l1]) mv_X11_440 dX11_ask_40 rfl (ok_X11_fits Θ l0 l3 l1 _ _) rfl rfl (Nat.le_of_ble_eq_true rfl) (by decide) (by decide) (by decide) h (fun x12 ω n h => ?_)
    refine G.less (B' := (0, 0)) (by decide) (by decide) ?_
    refine g_if_ne (tgt := 49) dX11_ask_43 (by decide) (fun c13 => ?_) (fun c13 => ?_)
    · rw [if_neg c13] at h
      refine g_iconst (v := 0) dX11_ask_49 (by decide) ?_
      refine g_istore (lv' := [(4, .int 0), (0, .ref l0), (1, .int l1), (2, .int l2), (3, .int l3)]) dX11_ask_50 (by decide) rfl ?_
      refine G.lsub [1, 2, 3, 4, 0] rfl ?_
      exact ok_L_X11_ask_52 Θ k_31 hk_31 5000 l0 l1 l2 l3 0 _ _ r h
    · rw [if_pos c13] at h
      refine g_goto (tgt := 87) dX11_ask_46 (by decide) ?_
      exact ok_J_X11_ask_87 Θ k_31 hk_31 l0 l1 l2 l3 _ _ r h
theorem ok_L_X11_ask_31 (Θ : GP) : ∀ (f : Nat) (l0 : Nat) (l1 : Int32) (l2 : Int32) (l3 : Int32) (ω : OW) (n : Nat) (r : Out), L_X11_ask_31 Θ f l0 l1 l2 l3 ω n = some r → GR Θ yX11_ask cX11_ask 7 (some .int) 11 (0, 0) 31 [(0, .ref l0), (1, .int l1), (2, .int l2), (3, .int l3)] [] ω n r := by
  intro f
  induction f with
  | zero =>
    intro l0 l1 l2 l3 ω n r h
    unfold L_X11_ask_31 at h
    cases h
  | succ f ih =>
    intro l0 l1 l2 l3 ω n r h
    unfold L_X11_ask_31 at h
    exact ok_B_X11_ask_31 Θ (L_X11_ask_31 Θ f) ih l0 l1 l2 l3 ω n r h
theorem ok_J_X11_ask_18 (Θ : GP) (l0 : Nat) (l1 : Int32) (s0 : Int32) (s1 : Nat) (ω : OW) (n : Nat) (r : Out) (h : J_X11_ask_18 Θ l0 l1 s0 s1 ω n = some r) : GR Θ yX11_ask cX11_ask 7 (some .int) 11 (0, 0) 18 [(0, .ref l0), (1, .int l1)] [.int s0, .ref s1] ω n r := by
  unfold J_X11_ask_18 at h
  refine g_iconst (v := 1) dX11_ask_18 (by decide) ?_
  refine g_cI (ci := 11) (As := [.int s0, .int 1]) mv_X11_262 dX11_ask_19 rfl (ok_X11_throwsIf Θ s1 s0 1 _ _) rfl rfl (Nat.le_of_ble_eq_true rfl) (by decide) (by decide) (by decide) h (fun x14 ω n h => ?_)
  refine G.less (B' := (0, 0)) (by decide) (by decide) ?_
  refine g_if_eq (tgt := 27) dX11_ask_22 (by decide) (fun c15 => ?_) (fun c15 => ?_)
  · rw [if_pos c15] at h
    refine g_iconst (v := 0) dX11_ask_27 (by decide) ?_
    refine g_istore_n (lv' := [(2, .int 0), (0, .ref l0), (1, .int l1)]) dX11_ask_28 rfl (by decide) rfl ?_
    refine g_iconst (v := 0) dX11_ask_29 (by decide) ?_
    refine g_istore_n (lv' := [(3, .int 0), (2, .int 0), (0, .ref l0), (1, .int l1)]) dX11_ask_30 rfl (by decide) rfl ?_
    refine G.lsub [2, 3, 1, 0] rfl ?_
    exact ok_L_X11_ask_31 Θ 5000 l0 l1 0 0 _ _ r h
  · rw [if_neg c15] at h
    refine g_iconst (v := 0) dX11_ask_25 (by decide) ?_
    cases h
    exact g_iret rfl dX11_ask_26 rfl
theorem ok_X11_ask (Θ : GP) (l0 : Nat) (l1 : Int32) (ω : OW) (n : Nat) : Ok Θ 11 0 0 yX11_ask cX11_ask 7 (some .int) [.ref l0, .int l1] ω n (F_X11_ask Θ l0 l1 ω n) := by
  refine Ok.of (by decide +kernel) (Nat.le_of_ble_eq_true rfl) (fun r h => ?_)
  unfold F_X11_ask at h
  show GR Θ yX11_ask cX11_ask 7 (some .int) 11 (0, 0) 0 [(0, .ref l0), (1, .int l1)] [] ω n r
  refine g_aload_n dX11_ask_0 rfl 0 rfl ?_
  refine g_cV (ci := 11) (As := []) mv_X11_251 dX11_ask_1 rfl (ok_X11_uses Θ l0 _ _) rfl rfl (Nat.le_of_ble_eq_true rfl) (by decide) (by decide) (by decide) h (fun ω n h => ?_)
  refine G.less (B' := (0, 0)) (by decide) (by decide) ?_
  refine g_aload_n dX11_ask_4 rfl 0 rfl ?_
  refine g_aload_n dX11_ask_5 rfl 0 rfl ?_
  refine g_iload_n dX11_ask_6 rfl 1 rfl ?_
  refine g_cI (ci := 11) (As := [.int l1]) mv_X11_437 dX11_ask_7 rfl (ok_X11_isTold Θ l0 l1 _ _) rfl rfl (Nat.le_of_ble_eq_true rfl) (by decide) (by decide) (by decide) h (fun x17 ω n h => ?_)
  refine G.less (B' := (0, 0)) (by decide) (by decide) ?_
  refine g_if_ne (tgt := 17) dX11_ask_10 (by decide) (fun c18 => ?_) (fun c18 => ?_)
  · rw [if_neg c18] at h
    refine g_iconst (v := 0) dX11_ask_17 (by decide) ?_
    exact ok_J_X11_ask_18 Θ l0 l1 0 l0 _ _ r h
  · rw [if_pos c18] at h
    refine g_iconst (v := 1) dX11_ask_13 (by decide) ?_
    refine g_goto (tgt := 18) dX11_ask_14 (by decide) ?_
    exact ok_J_X11_ask_18 Θ l0 l1 1 l0 _ _ r h
def J_X11_screamsBy_57 (Θ : GP) (k_4 : Nat → Int32 → Int32 → Int32 → OW → Nat → RO) (k_12 : Nat → Int32 → Int32 → Int32 → Int32 → OW → Nat → RO) (l0 : Nat) (l1 : Int32) (l2 : Int32) (l3 : Int32) (l4 : Int32) (ω : OW) (n : Nat) : RO := k_12 l0 l1 l2 l3 (l4 + 1) ω n
def J_X11_screamsBy_55 (Θ : GP) (k_4 : Nat → Int32 → Int32 → Int32 → OW → Nat → RO) (k_12 : Nat → Int32 → Int32 → Int32 → Int32 → OW → Nat → RO) (l0 : Nat) (l1 : Int32) (l3 : Int32) (l4 : Int32) (s0 : Int32) (s1 : Int32) (ω : OW) (n : Nat) : RO := J_X11_screamsBy_57 Θ k_4 k_12 l0 l1 (s1 + s0) l3 l4 ω n
def B_X11_screamsBy_12 (Θ : GP) (k_4 : Nat → Int32 → Int32 → Int32 → OW → Nat → RO) (k_12 : Nat → Int32 → Int32 → Int32 → Int32 → OW → Nat → RO) (l0 : Nat) (l1 : Int32) (l2 : Int32) (l3 : Int32) (l4 : Int32) (ω : OW) (n : Nat) : RO := cO ω l0 11 (kI (F_X11_oneCount Θ l0 ω n) (fun x1 ω n => if x1 ≤ l4 then (k_4 l0 l1 l2 (l3 + 1) ω n) else (cO ω l0 11 (kI (F_X11_waits Θ l0 l4 ω n) (fun x3 ω n => if x3 = 0 then (J_X11_screamsBy_57 Θ k_4 k_12 l0 l1 l2 l3 l4 ω n) else (cO ω l0 11 (kV (F_X11_looksAt Θ l0 l4 ω n) (fun ω n => cO ω l0 11 (kI (F_X11_rides Θ l0 1 0 ω n) (fun x6 ω n => if x6 = (-1) then (J_X11_screamsBy_55 Θ k_4 k_12 l0 l1 l3 l4 0 l2 ω n) else (J_X11_screamsBy_55 Θ k_4 k_12 l0 l1 l3 l4 1 l2 ω n)))))))))))
def L_X11_screamsBy_12 (Θ : GP) (k_4 : Nat → Int32 → Int32 → Int32 → OW → Nat → RO) : Nat → Nat → Int32 → Int32 → Int32 → Int32 → OW → Nat → RO
  | 0, _, _, _, _, _, _, _ => none
  | f + 1, l0, l1, l2, l3, l4, ω, n => B_X11_screamsBy_12 Θ k_4 (L_X11_screamsBy_12 Θ k_4 f) l0 l1 l2 l3 l4 ω n
def B_X11_screamsBy_4 (Θ : GP) (k_4 : Nat → Int32 → Int32 → Int32 → OW → Nat → RO) (l0 : Nat) (l1 : Int32) (l2 : Int32) (l3 : Int32) (ω : OW) (n : Nat) : RO := if l1 ≤ l3 then (some (.inl (some (.int l2), ω, n))) else (L_X11_screamsBy_12 Θ k_4 5000 l0 l1 l2 l3 0 ω n)
def L_X11_screamsBy_4 (Θ : GP) : Nat → Nat → Int32 → Int32 → Int32 → OW → Nat → RO
  | 0, _, _, _, _, _, _ => none
  | f + 1, l0, l1, l2, l3, ω, n => B_X11_screamsBy_4 Θ (L_X11_screamsBy_4 Θ f) l0 l1 l2 l3 ω n
def F_X11_screamsBy (Θ : GP) (l0 : Nat) (l1 : Int32) (ω : OW) (n : Nat) : RO := L_X11_screamsBy_4 Θ 5000 l0 l1 0 0 ω n
theorem ok_J_X11_screamsBy_57 (Θ : GP) (k_4 : Nat → Int32 → Int32 → Int32 → OW → Nat → RO) (k_12 : Nat → Int32 → Int32 → Int32 → Int32 → OW → Nat → RO) (hk_4 : ∀ l0 l1 l2 l3 ω n r, k_4 l0 l1 l2 l3 ω n = some r → GR Θ yX11_screamsBy cX11_screamsBy 5 (some .int) 10 (0, 0) 4 [(0, .ref l0), (1, .int l1), (2, .int l2), (3, .int l3)] [] ω n r) (hk_12 : ∀ l0 l1 l2 l3 l4 ω n r, k_12 l0 l1 l2 l3 l4 ω n = some r → GR Θ yX11_screamsBy cX11_screamsBy 5 (some .int) 10 (0, 0) 12 [(0, .ref l0), (1, .int l1), (2, .int l2), (3, .int l3), (4, .int l4)] [] ω n r) (l0 : Nat) (l1 : Int32) (l2 : Int32) (l3 : Int32) (l4 : Int32) (ω : OW) (n : Nat) (r : Out) (h : J_X11_screamsBy_57 Θ k_4 k_12 l0 l1 l2 l3 l4 ω n = some r) : GR Θ yX11_screamsBy cX11_screamsBy 5 (some .int) 10 (0, 0) 57 [(0, .ref l0), (1, .int l1), (2, .int l2), (3, .int l3), (4, .int l4)] [] ω n r := by
  unfold J_X11_screamsBy_57 at h
  refine g_iinc (j := 4) (v := l4 + 1) (lv' := [(4, .int (l4 + 1)), (0, .ref l0), (1, .int l1), (2, .int l2), (3, .int l3)]) dX11_screamsBy_57 rfl rfl (by decide) rfl ?_
  refine g_goto (tgt := 12) dX11_screamsBy_60 (by decide) ?_
  refine G.lsub [1, 2, 3, 4, 0] rfl ?_
  exact hk_12 l0 l1 l2 l3 (l4 + 1) _ _ r h
theorem ok_J_X11_screamsBy_55 (Θ : GP) (k_4 : Nat → Int32 → Int32 → Int32 → OW → Nat → RO) (k_12 : Nat → Int32 → Int32 → Int32 → Int32 → OW → Nat → RO) (hk_4 : ∀ l0 l1 l2 l3 ω n r, k_4 l0 l1 l2 l3 ω n = some r → GR Θ yX11_screamsBy cX11_screamsBy 5 (some .int) 10 (0, 0) 4 [(0, .ref l0), (1, .int l1), (2, .int l2), (3, .int l3)] [] ω n r) (hk_12 : ∀ l0 l1 l2 l3 l4 ω n r, k_12 l0 l1 l2 l3 l4 ω n = some r → GR Θ yX11_screamsBy cX11_screamsBy 5 (some .int) 10 (0, 0) 12 [(0, .ref l0), (1, .int l1), (2, .int l2), (3, .int l3), (4, .int l4)] [] ω n r) (l0 : Nat) (l1 : Int32) (l3 : Int32) (l4 : Int32) (s0 : Int32) (s1 : Int32) (ω : OW) (n : Nat) (r : Out) (h : J_X11_screamsBy_55 Θ k_4 k_12 l0 l1 l3 l4 s0 s1 ω n = some r) : GR Θ yX11_screamsBy cX11_screamsBy 5 (some .int) 10 (0, 0) 55 [(0, .ref l0), (1, .int l1), (3, .int l3), (4, .int l4)] [.int s0, .int s1] ω n r := by
  unfold J_X11_screamsBy_55 at h
  refine g_iadd dX11_screamsBy_55 ?_
  refine g_istore_n (lv' := [(2, .int (s1 + s0)), (0, .ref l0), (1, .int l1), (3, .int l3), (4, .int l4)]) dX11_screamsBy_56 rfl (by decide) rfl ?_
  refine G.lsub [1, 2, 0, 3, 4] rfl ?_
  exact ok_J_X11_screamsBy_57 Θ k_4 k_12 hk_4 hk_12 l0 l1 (s1 + s0) l3 l4 _ _ r h
theorem ok_B_X11_screamsBy_12 (Θ : GP) (k_4 : Nat → Int32 → Int32 → Int32 → OW → Nat → RO) (k_12 : Nat → Int32 → Int32 → Int32 → Int32 → OW → Nat → RO) (hk_4 : ∀ l0 l1 l2 l3 ω n r, k_4 l0 l1 l2 l3 ω n = some r → GR Θ yX11_screamsBy cX11_screamsBy 5 (some .int) 10 (0, 0) 4 [(0, .ref l0), (1, .int l1), (2, .int l2), (3, .int l3)] [] ω n r) (hk_12 : ∀ l0 l1 l2 l3 l4 ω n r, k_12 l0 l1 l2 l3 l4 ω n = some r → GR Θ yX11_screamsBy cX11_screamsBy 5 (some .int) 10 (0, 0) 12 [(0, .ref l0), (1, .int l1), (2, .int l2), (3, .int l3), (4, .int l4)] [] ω n r) (l0 : Nat) (l1 : Int32) (l2 : Int32) (l3 : Int32) (l4 : Int32) (ω : OW) (n : Nat) (r : Out) (h : B_X11_screamsBy_12 Θ k_4 k_12 l0 l1 l2 l3 l4 ω n = some r) : GR Θ yX11_screamsBy cX11_screamsBy 5 (some .int) 10 (0, 0) 12 [(0, .ref l0), (1, .int l1), (2, .int l2), (3, .int l3), (4, .int l4)] [] ω n r := by
  unfold B_X11_screamsBy_12 at h
  refine g_iload dX11_screamsBy_12 4 rfl ?_
  refine g_aload_n dX11_screamsBy_14 rfl 0 rfl ?_
  refine g_cI (ci := 11) (As := []) mv_X11_91 dX11_screamsBy_15 rfl (ok_X11_oneCount Θ l0 _ _) rfl rfl (Nat.le_of_ble_eq_true rfl) (by decide) (by decide) (by decide) h (fun x1 ω n h => ?_)
  refine G.less (B' := (0, 0)) (by decide) (by decide) ?_
  refine g_icmp_ge (tgt := 63) dX11_screamsBy_18 (by decide) (fun c2 => ?_) (fun c2 => ?_)
  · rw [if_pos c2] at h
    refine g_iinc (j := 3) (v := l3 + 1) (lv' := [(3, .int (l3 + 1)), (0, .ref l0), (1, .int l1), (2, .int l2), (4, .int l4)]) dX11_screamsBy_63 rfl rfl (by decide) rfl ?_
    refine g_goto (tgt := 4) dX11_screamsBy_66 (by decide) ?_
    refine G.lsub [1, 2, 3, 0] rfl ?_
    exact hk_4 l0 l1 l2 (l3 + 1) _ _ r h
  · rw [if_neg c2] at h
    refine g_aload_n dX11_screamsBy_21 rfl 0 rfl ?_
    refine g_iload dX11_screamsBy_22 4 rfl ?_
    refine g_cI (ci := 11) (As := [.int l4]) mv_X11_355 dX11_screamsBy_24 rfl (ok_X11_waits Θ l0 l4 _ _) rfl rfl (Nat.le_of_ble_eq_true rfl) (by decide) (by decide) (by decide) h (fun x3 ω n h => ?_)
    refine G.less (B' := (0, 0)) (by decide) (by decide) ?_
    refine g_if_ne (tgt := 33) dX11_screamsBy_27 (by decide) (fun c4 => ?_) (fun c4 => ?_)
    · rw [if_neg c4] at h
      refine g_aload_n dX11_screamsBy_33 rfl 0 rfl ?_
      refine g_iload dX11_screamsBy_34 4 rfl ?_
      refine g_cV (ci := 11) (As := [.int l4]) mv_X11_303 dX11_screamsBy_36 rfl (ok_X11_looksAt Θ l0 l4 _ _) rfl rfl (Nat.le_of_ble_eq_true rfl) (by decide) (by decide) (by decide) h (fun ω n h => ?_)
      refine G.less (B' := (0, 0)) (by decide) (by decide) ?_
      refine g_iload_n dX11_screamsBy_39 rfl 2 rfl ?_
      refine g_aload_n dX11_screamsBy_40 rfl 0 rfl ?_
      refine g_iconst (v := 1) dX11_screamsBy_41 (by decide) ?_
      refine g_iconst (v := 0) dX11_screamsBy_42 (by decide) ?_
      refine g_cI (ci := 11) (As := [.int 1, .int 0]) mv_X11_348 dX11_screamsBy_43 rfl (ok_X11_rides Θ l0 1 0 _ _) rfl rfl (Nat.le_of_ble_eq_true rfl) (by decide) (by decide) (by decide) h (fun x6 ω n h => ?_)
      refine G.less (B' := (0, 0)) (by decide) (by decide) ?_
      refine g_iconst (v := (-1)) dX11_screamsBy_46 (by decide) ?_
      refine g_icmp_ne (tgt := 54) dX11_screamsBy_47 (by decide) (fun c7 => ?_) (fun c7 => ?_)
      · rw [if_neg c7] at h
        refine g_iconst (v := 1) dX11_screamsBy_54 (by decide) ?_
        refine G.lsub [0, 1, 3, 4] rfl ?_
        exact ok_J_X11_screamsBy_55 Θ k_4 k_12 hk_4 hk_12 l0 l1 l3 l4 1 l2 _ _ r h
      · rw [if_pos c7] at h
        refine g_iconst (v := 0) dX11_screamsBy_50 (by decide) ?_
        refine g_goto (tgt := 55) dX11_screamsBy_51 (by decide) ?_
        refine G.lsub [0, 1, 3, 4] rfl ?_
        exact ok_J_X11_screamsBy_55 Θ k_4 k_12 hk_4 hk_12 l0 l1 l3 l4 0 l2 _ _ r h
    · rw [if_pos c4] at h
      refine g_goto (tgt := 57) dX11_screamsBy_30 (by decide) ?_
      exact ok_J_X11_screamsBy_57 Θ k_4 k_12 hk_4 hk_12 l0 l1 l2 l3 l4 _ _ r h
theorem ok_L_X11_screamsBy_12 (Θ : GP) (k_4 : Nat → Int32 → Int32 → Int32 → OW → Nat → RO) (hk_4 : ∀ l0 l1 l2 l3 ω n r, k_4 l0 l1 l2 l3 ω n = some r → GR Θ yX11_screamsBy cX11_screamsBy 5 (some .int) 10 (0, 0) 4 [(0, .ref l0), (1, .int l1), (2, .int l2), (3, .int l3)] [] ω n r) : ∀ (f : Nat) (l0 : Nat) (l1 : Int32) (l2 : Int32) (l3 : Int32) (l4 : Int32) (ω : OW) (n : Nat) (r : Out), L_X11_screamsBy_12 Θ k_4 f l0 l1 l2 l3 l4 ω n = some r → GR Θ yX11_screamsBy cX11_screamsBy 5 (some .int) 10 (0, 0) 12 [(0, .ref l0), (1, .int l1), (2, .int l2), (3, .int l3), (4, .int l4)] [] ω n r := by
  intro f
  induction f with
  | zero =>
    intro l0 l1 l2 l3 l4 ω n r h
    unfold L_X11_screamsBy_12 at h
    cases h
  | succ f ih =>
    intro l0 l1 l2 l3 l4 ω n r h
    unfold L_X11_screamsBy_12 at h
    exact ok_B_X11_screamsBy_12 Θ k_4 (L_X11_screamsBy_12 Θ k_4 f) hk_4 ih l0 l1 l2 l3 l4 ω n r h
theorem ok_B_X11_screamsBy_4 (Θ : GP) (k_4 : Nat → Int32 → Int32 → Int32 → OW → Nat → RO) (hk_4 : ∀ l0 l1 l2 l3 ω n r, k_4 l0 l1 l2 l3 ω n = some r → GR Θ yX11_screamsBy cX11_screamsBy 5 (some .int) 10 (0, 0) 4 [(0, .ref l0), (1, .int l1), (2, .int l2), (3, .int l3)] [] ω n r) (l0 : Nat) (l1 : Int32) (l2 : Int32) (l3 : Int32) (ω : OW) (n : Nat) (r : Out) (h : B_X11_screamsBy_4 Θ k_4 l0 l1 l2 l3 ω n = some r) : GR Θ yX11_screamsBy cX11_screamsBy 5 (some .int) 10 (0, 0) 4 [(0, .ref l0), (1, .int l1), (2, .int l2), (3, .int l3)] [] ω n r := by
  unfold B_X11_screamsBy_4 at h
  refine g_iload_n dX11_screamsBy_4 rfl 3 rfl ?_
  refine g_iload_n dX11_screamsBy_5 rfl 1 rfl ?_
  refine g_icmp_ge (tgt := 69) dX11_screamsBy_6 (by decide) (fun c8 => ?_) (fun c8 => ?_)
  · rw [if_pos c8] at h
    refine g_iload_n dX11_screamsBy_69 rfl 2 rfl ?_
    cases h
    exact g_iret rfl dX11_screamsBy_70 rfl
  · rw [if_neg c8] at h
    refine g_iconst (v := 0) dX11_screamsBy_9 (by decide) ?_
    refine g_istore (lv' := [(4, .int 0), (0, .ref l0), (1, .int l1), (2, .int l2), (3, .int l3)]) dX11_screamsBy_10 (by decide) rfl ?_
    refine G.lsub [1, 2, 3, 4, 0] rfl ?_
    exact ok_L_X11_screamsBy_12 Θ k_4 hk_4 5000 l0 l1 l2 l3 0 _ _ r h
theorem ok_L_X11_screamsBy_4 (Θ : GP) : ∀ (f : Nat) (l0 : Nat) (l1 : Int32) (l2 : Int32) (l3 : Int32) (ω : OW) (n : Nat) (r : Out), L_X11_screamsBy_4 Θ f l0 l1 l2 l3 ω n = some r → GR Θ yX11_screamsBy cX11_screamsBy 5 (some .int) 10 (0, 0) 4 [(0, .ref l0), (1, .int l1), (2, .int l2), (3, .int l3)] [] ω n r := by
  intro f
  induction f with
  | zero =>
    intro l0 l1 l2 l3 ω n r h
    unfold L_X11_screamsBy_4 at h
    cases h
  | succ f ih =>
    intro l0 l1 l2 l3 ω n r h
    unfold L_X11_screamsBy_4 at h
    exact ok_B_X11_screamsBy_4 Θ (L_X11_screamsBy_4 Θ f) ih l0 l1 l2 l3 ω n r h
theorem ok_X11_screamsBy (Θ : GP) (l0 : Nat) (l1 : Int32) (ω : OW) (n : Nat) : Ok Θ 10 0 0 yX11_screamsBy cX11_screamsBy 5 (some .int) [.ref l0, .int l1] ω n (F_X11_screamsBy Θ l0 l1 ω n) := by
  refine Ok.of (by decide +kernel) (Nat.le_of_ble_eq_true rfl) (fun r h => ?_)
  unfold F_X11_screamsBy at h
  show GR Θ yX11_screamsBy cX11_screamsBy 5 (some .int) 10 (0, 0) 0 [(0, .ref l0), (1, .int l1)] [] ω n r
  refine g_iconst (v := 0) dX11_screamsBy_0 (by decide) ?_
  refine g_istore_n (lv' := [(2, .int 0), (0, .ref l0), (1, .int l1)]) dX11_screamsBy_1 rfl (by decide) rfl ?_
  refine g_iconst (v := 0) dX11_screamsBy_2 (by decide) ?_
  refine g_istore_n (lv' := [(3, .int 0), (2, .int 0), (0, .ref l0), (1, .int l1)]) dX11_screamsBy_3 rfl (by decide) rfl ?_
  refine G.lsub [2, 3, 1, 0] rfl ?_
  exact ok_L_X11_screamsBy_4 Θ 5000 l0 l1 0 0 _ _ r h
def J_X11_trial_21 (Θ : GP) (l0 : Nat) (l1 : Int32) (s0 : Int32) (s1 : Nat) (ω : OW) (n : Nat) : RO := cO ω s1 11 (kI (F_X11_throwsIf Θ s1 s0 1 ω n) (fun x1 ω n => if x1 = 0 then (rA ω l0 11 1 (fun a3 => lI ω (gI Θ) a3 8 (fun x4 => cO ω l0 11 (kI (F_X11_screamsBy Θ l0 l1 ω n) (fun x5 ω n => rA ω l0 11 1 (fun a6 => sI ω (gI Θ) a6 8 x4 (fun ω => some (.inl (some (.int x5), ω, n))))))))) else (some (.inl (some (.int 0), ω, n)))))
def F_X11_trial (Θ : GP) (l0 : Nat) (l1 : Int32) (ω : OW) (n : Nat) : RO := wF ω l0 11 0 (.int 0) (fun ω => kI (F_X11_in Θ l1 0 20 ω n) (fun x7 ω n => if x7 = 0 then (J_X11_trial_21 Θ l0 l1 1 l0 ω n) else (J_X11_trial_21 Θ l0 l1 0 l0 ω n)))
theorem ok_J_X11_trial_21 (Θ : GP) (l0 : Nat) (l1 : Int32) (s0 : Int32) (s1 : Nat) (ω : OW) (n : Nat) (r : Out) (h : J_X11_trial_21 Θ l0 l1 s0 s1 ω n = some r) : GR Θ yX11_trial cX11_trial 4 (some .int) 11 (0, 0) 21 [(0, .ref l0), (1, .int l1)] [.int s0, .ref s1] ω n r := by
  unfold J_X11_trial_21 at h
  refine g_iconst (v := 1) dX11_trial_21 (by decide) ?_
  refine g_cI (ci := 11) (As := [.int s0, .int 1]) mv_X11_262 dX11_trial_22 rfl (ok_X11_throwsIf Θ s1 s0 1 _ _) rfl rfl (Nat.le_of_ble_eq_true rfl) (by decide) (by decide) (by decide) h (fun x1 ω n h => ?_)
  refine G.less (B' := (0, 0)) (by decide) (by decide) ?_
  refine g_if_eq (tgt := 30) dX11_trial_25 (by decide) (fun c2 => ?_) (fun c2 => ?_)
  · rw [if_pos c2] at h
    refine g_aload_n dX11_trial_30 rfl 0 rfl ?_
    refine g_rA fl_X11_13 dX11_trial_31 h (fun a3 h => ?_)
    refine g_bipush (v := 8) dX11_trial_34 (by decide) ?_
    refine g_lIi dX11_trial_36 h (fun x4 h => ?_)
    refine g_istore_n (lv' := [(2, .int x4), (0, .ref l0), (1, .int l1)]) dX11_trial_37 rfl (by decide) rfl ?_
    refine g_aload_n dX11_trial_38 rfl 1 rfl ?_
    refine g_iload_n dX11_trial_39 rfl 2 rfl ?_
    refine g_cI (ci := 11) (As := [.int l1]) mv_X11_446 dX11_trial_40 rfl (ok_X11_screamsBy Θ l0 l1 _ _) rfl rfl (Nat.le_of_ble_eq_true rfl) (by decide) (by decide) (by decide) h (fun x5 ω n h => ?_)
    refine G.less (B' := (0, 0)) (by decide) (by decide) ?_
    refine g_istore_n (lv' := [(3, .int x5), (2, .int x4), (0, .ref l0), (1, .int l1)]) dX11_trial_43 rfl (by decide) rfl ?_
    refine g_aload_n dX11_trial_44 rfl 2 rfl ?_
    refine g_rA fl_X11_13 dX11_trial_45 h (fun a6 h => ?_)
    refine g_bipush (v := 8) dX11_trial_48 (by decide) ?_
    refine g_iload_n dX11_trial_50 rfl 1 rfl ?_
    refine g_sIi dX11_trial_51 h (fun ω h => ?_)
    refine g_iload_n dX11_trial_52 rfl 0 rfl ?_
    cases h
    exact g_iret rfl dX11_trial_53 rfl
  · rw [if_neg c2] at h
    refine g_iconst (v := 0) dX11_trial_28 (by decide) ?_
    cases h
    exact g_iret rfl dX11_trial_29 rfl
theorem ok_X11_trial (Θ : GP) (l0 : Nat) (l1 : Int32) (ω : OW) (n : Nat) : Ok Θ 11 0 0 yX11_trial cX11_trial 4 (some .int) [.ref l0, .int l1] ω n (F_X11_trial Θ l0 l1 ω n) := by
  refine Ok.of (by decide +kernel) (Nat.le_of_ble_eq_true rfl) (fun r h => ?_)
  unfold F_X11_trial at h
  show GR Θ yX11_trial cX11_trial 4 (some .int) 11 (0, 0) 0 [(0, .ref l0), (1, .int l1)] [] ω n r
  refine g_aload_n dX11_trial_0 rfl 0 rfl ?_
  refine g_iconst (v := 0) dX11_trial_1 (by decide) ?_
  refine g_wF fl_X11_3 dX11_trial_2 (rfl) rfl h (fun ω h => ?_)
  refine g_aload_n dX11_trial_5 rfl 0 rfl ?_
  refine g_iload_n dX11_trial_6 rfl 1 rfl ?_
  refine g_iconst (v := 0) dX11_trial_7 (by decide) ?_
  refine g_bipush (v := 20) dX11_trial_8 (by decide) ?_
  refine g_sI (As := [.int l1, .int 0, .int 20]) ms_X11_87 dX11_trial_10 (ok_X11_in Θ l1 0 20 _ _) rfl rfl (Nat.le_of_ble_eq_true rfl) (by decide) (by decide) (by decide) h (fun x7 ω n h => ?_)
  refine G.less (B' := (0, 0)) (by decide) (by decide) ?_
  refine g_if_ne (tgt := 20) dX11_trial_13 (by decide) (fun c8 => ?_) (fun c8 => ?_)
  · rw [if_neg c8] at h
    refine g_iconst (v := 0) dX11_trial_20 (by decide) ?_
    exact ok_J_X11_trial_21 Θ l0 l1 0 l0 _ _ r h
  · rw [if_pos c8] at h
    refine g_iconst (v := 1) dX11_trial_16 (by decide) ?_
    refine g_goto (tgt := 21) dX11_trial_17 (by decide) ?_
    exact ok_J_X11_trial_21 Θ l0 l1 1 l0 _ _ r h
def J_X11_span_98 (Θ : GP) (k_44 : Nat → Int32 → Int32 → Int32 → Int32 → Int32 → OW → Nat → RO) (l0 : Nat) (l1 : Int32) (l2 : Int32) (l3 : Int32) (l5 : Int32) (s0 : Int32) (ω : OW) (n : Nat) : RO := k_44 l0 l1 l2 l3 s0 (l5 + 1) ω n
def B_X11_span_44 (Θ : GP) (k_44 : Nat → Int32 → Int32 → Int32 → Int32 → Int32 → OW → Nat → RO) (l0 : Nat) (l1 : Int32) (l2 : Int32) (l3 : Int32) (l4 : Int32) (l5 : Int32) (ω : OW) (n : Nat) : RO := if 6 < l5 then (rA ω l0 11 1 (fun a2 => sI ω (gI Θ) a2 8 l3 (fun ω => some (.inl (some (.int l4), ω, n))))) else (rA ω l0 11 1 (fun a3 => sI ω (gI Θ) a3 8 l5 (fun ω => cO ω l0 11 (kI (F_X11_screamsBy Θ l0 l1 ω n) (fun x4 ω n => if 0 ≤ l4 then (if l2 = 0 then (J_X11_span_98 Θ k_44 l0 l1 l2 l3 l5 (if x4 < l4 then x4 else l4) ω n) else (J_X11_span_98 Θ k_44 l0 l1 l2 l3 l5 (if l4 < x4 then x4 else l4) ω n)) else (J_X11_span_98 Θ k_44 l0 l1 l2 l3 l5 x4 ω n))))))
def L_X11_span_44 (Θ : GP) : Nat → Nat → Int32 → Int32 → Int32 → Int32 → Int32 → OW → Nat → RO
  | 0, _, _, _, _, _, _, _, _ => none
  | f + 1, l0, l1, l2, l3, l4, l5, ω, n => B_X11_span_44 Θ (L_X11_span_44 Θ f) l0 l1 l2 l3 l4 l5 ω n
def J_X11_span_21 (Θ : GP) (l0 : Nat) (l1 : Int32) (l2 : Int32) (s0 : Int32) (s1 : Nat) (ω : OW) (n : Nat) : RO := cO ω s1 11 (kI (F_X11_throwsIf Θ s1 s0 1 ω n) (fun x7 ω n => if x7 = 0 then (rA ω l0 11 1 (fun a9 => lI ω (gI Θ) a9 8 (fun x10 => L_X11_span_44 Θ 5000 l0 l1 l2 x10 (-1) 1 ω n))) else (some (.inl (some (.int 0), ω, n)))))
def F_X11_span (Θ : GP) (l0 : Nat) (l1 : Int32) (l2 : Int32) (ω : OW) (n : Nat) : RO := wF ω l0 11 0 (.int 0) (fun ω => kI (F_X11_in Θ l1 0 20 ω n) (fun x11 ω n => if x11 = 0 then (J_X11_span_21 Θ l0 l1 l2 1 l0 ω n) else (J_X11_span_21 Θ l0 l1 l2 0 l0 ω n)))
theorem ok_J_X11_span_98 (Θ : GP) (k_44 : Nat → Int32 → Int32 → Int32 → Int32 → Int32 → OW → Nat → RO) (hk_44 : ∀ l0 l1 l2 l3 l4 l5 ω n r, k_44 l0 l1 l2 l3 l4 l5 ω n = some r → GR Θ yX11_span cX11_span 7 (some .int) 11 (0, 0) 44 [(0, .ref l0), (1, .int l1), (2, .int l2), (3, .int l3), (4, .int l4), (5, .int l5)] [] ω n r) (l0 : Nat) (l1 : Int32) (l2 : Int32) (l3 : Int32) (l5 : Int32) (s0 : Int32) (ω : OW) (n : Nat) (r : Out) (h : J_X11_span_98 Θ k_44 l0 l1 l2 l3 l5 s0 ω n = some r) : GR Θ yX11_span cX11_span 7 (some .int) 11 (0, 0) 98 [(0, .ref l0), (1, .int l1), (2, .int l2), (3, .int l3), (5, .int l5)] [.int s0] ω n r := by
  unfold J_X11_span_98 at h
  refine g_istore (lv' := [(4, .int s0), (0, .ref l0), (1, .int l1), (2, .int l2), (3, .int l3), (5, .int l5)]) dX11_span_98 (by decide) rfl ?_
  refine g_iinc (j := 5) (v := l5 + 1) (lv' := [(5, .int (l5 + 1)), (4, .int s0), (0, .ref l0), (1, .int l1), (2, .int l2), (3, .int l3)]) dX11_span_100 rfl rfl (by decide) rfl ?_
  refine g_goto (tgt := 44) dX11_span_103 (by decide) ?_
  refine G.lsub [2, 3, 4, 5, 1, 0] rfl ?_
  exact hk_44 l0 l1 l2 l3 s0 (l5 + 1) _ _ r h
theorem ok_B_X11_span_44 (Θ : GP) (k_44 : Nat → Int32 → Int32 → Int32 → Int32 → Int32 → OW → Nat → RO) (hk_44 : ∀ l0 l1 l2 l3 l4 l5 ω n r, k_44 l0 l1 l2 l3 l4 l5 ω n = some r → GR Θ yX11_span cX11_span 7 (some .int) 11 (0, 0) 44 [(0, .ref l0), (1, .int l1), (2, .int l2), (3, .int l3), (4, .int l4), (5, .int l5)] [] ω n r) (l0 : Nat) (l1 : Int32) (l2 : Int32) (l3 : Int32) (l4 : Int32) (l5 : Int32) (ω : OW) (n : Nat) (r : Out) (h : B_X11_span_44 Θ k_44 l0 l1 l2 l3 l4 l5 ω n = some r) : GR Θ yX11_span cX11_span 7 (some .int) 11 (0, 0) 44 [(0, .ref l0), (1, .int l1), (2, .int l2), (3, .int l3), (4, .int l4), (5, .int l5)] [] ω n r := by
  unfold B_X11_span_44 at h
  refine g_iload dX11_span_44 5 rfl ?_
  refine g_bipush (v := 6) dX11_span_46 (by decide) ?_
  refine g_icmp_gt (tgt := 106) dX11_span_48 (by decide) (fun c1 => ?_) (fun c1 => ?_)
  · rw [if_pos c1] at h
    refine g_aload_n dX11_span_106 rfl 0 rfl ?_
    refine g_rA fl_X11_13 dX11_span_107 h (fun a2 h => ?_)
    refine g_bipush (v := 8) dX11_span_110 (by decide) ?_
    refine g_iload_n dX11_span_112 rfl 3 rfl ?_
    refine g_sIi dX11_span_113 h (fun ω h => ?_)
    refine g_iload dX11_span_114 4 rfl ?_
    cases h
    exact g_iret rfl dX11_span_116 rfl
  · rw [if_neg c1] at h
    refine g_aload_n dX11_span_51 rfl 0 rfl ?_
    refine g_rA fl_X11_13 dX11_span_52 h (fun a3 h => ?_)
    refine g_bipush (v := 8) dX11_span_55 (by decide) ?_
    refine g_iload dX11_span_57 5 rfl ?_
    refine g_sIi dX11_span_59 h (fun ω h => ?_)
    refine g_aload_n dX11_span_60 rfl 0 rfl ?_
    refine g_iload_n dX11_span_61 rfl 1 rfl ?_
    refine g_cI (ci := 11) (As := [.int l1]) mv_X11_446 dX11_span_62 rfl (ok_X11_screamsBy Θ l0 l1 _ _) rfl rfl (Nat.le_of_ble_eq_true rfl) (by decide) (by decide) (by decide) h (fun x4 ω n h => ?_)
    refine G.less (B' := (0, 0)) (by decide) (by decide) ?_
    refine g_istore (lv' := [(6, .int x4), (0, .ref l0), (1, .int l1), (2, .int l2), (3, .int l3), (4, .int l4), (5, .int l5)]) dX11_span_65 (by decide) rfl ?_
    refine g_iload dX11_span_67 5 rfl ?_
    refine g_if_ge (tgt := 77) dX11_span_69 (by decide) (fun c5 => ?_) (fun c5 => ?_)
    · rw [if_pos c5] at h
      refine g_iload_n dX11_span_77 rfl 3 rfl ?_
      refine g_if_eq (tgt := 91) dX11_span_78 (by decide) (fun c6 => ?_) (fun c6 => ?_)
      · rw [if_pos c6] at h
        refine g_iload dX11_span_91 5 rfl ?_
        refine g_iload dX11_span_93 0 rfl ?_
        refine g_min wd_1863 wd_617 wd_135 wd_618 dX11_span_95 (by decide) (Nat.le_of_ble_eq_true rfl) ?_
        refine G.lsub [1, 2, 3, 4, 6] rfl ?_
        exact ok_J_X11_span_98 Θ k_44 hk_44 l0 l1 l2 l3 l5 (if x4 < l4 then x4 else l4) _ _ r h
      · rw [if_neg c6] at h
        refine g_iload dX11_span_81 5 rfl ?_
        refine g_iload dX11_span_83 0 rfl ?_
        refine g_max wd_1817 wd_610 wd_135 wd_611 dX11_span_85 (by decide) (Nat.le_of_ble_eq_true rfl) ?_
        refine g_goto (tgt := 98) dX11_span_88 (by decide) ?_
        refine G.lsub [1, 2, 3, 4, 6] rfl ?_
        exact ok_J_X11_span_98 Θ k_44 hk_44 l0 l1 l2 l3 l5 (if l4 < x4 then x4 else l4) _ _ r h
    · rw [if_neg c5] at h
      refine g_iload dX11_span_72 0 rfl ?_
      refine g_goto (tgt := 98) dX11_span_74 (by decide) ?_
      refine G.lsub [1, 2, 3, 4, 6] rfl ?_
      exact ok_J_X11_span_98 Θ k_44 hk_44 l0 l1 l2 l3 l5 x4 _ _ r h
theorem ok_L_X11_span_44 (Θ : GP) : ∀ (f : Nat) (l0 : Nat) (l1 : Int32) (l2 : Int32) (l3 : Int32) (l4 : Int32) (l5 : Int32) (ω : OW) (n : Nat) (r : Out), L_X11_span_44 Θ f l0 l1 l2 l3 l4 l5 ω n = some r → GR Θ yX11_span cX11_span 7 (some .int) 11 (0, 0) 44 [(0, .ref l0), (1, .int l1), (2, .int l2), (3, .int l3), (4, .int l4), (5, .int l5)] [] ω n r := by
  intro f
  induction f with
  | zero =>
    intro l0 l1 l2 l3 l4 l5 ω n r h
    unfold L_X11_span_44 at h
    cases h
  | succ f ih =>
    intro l0 l1 l2 l3 l4 l5 ω n r h
    unfold L_X11_span_44 at h
    exact ok_B_X11_span_44 Θ (L_X11_span_44 Θ f) ih l0 l1 l2 l3 l4 l5 ω n r h
theorem ok_J_X11_span_21 (Θ : GP) (l0 : Nat) (l1 : Int32) (l2 : Int32) (s0 : Int32) (s1 : Nat) (ω : OW) (n : Nat) (r : Out) (h : J_X11_span_21 Θ l0 l1 l2 s0 s1 ω n = some r) : GR Θ yX11_span cX11_span 7 (some .int) 11 (0, 0) 21 [(0, .ref l0), (1, .int l1), (2, .int l2)] [.int s0, .ref s1] ω n r := by
  unfold J_X11_span_21 at h
  refine g_iconst (v := 1) dX11_span_21 (by decide) ?_
  refine g_cI (ci := 11) (As := [.int s0, .int 1]) mv_X11_262 dX11_span_22 rfl (ok_X11_throwsIf Θ s1 s0 1 _ _) rfl rfl (Nat.le_of_ble_eq_true rfl) (by decide) (by decide) (by decide) h (fun x7 ω n h => ?_)
  refine G.less (B' := (0, 0)) (by decide) (by decide) ?_
  refine g_if_eq (tgt := 30) dX11_span_25 (by decide) (fun c8 => ?_) (fun c8 => ?_)
  · rw [if_pos c8] at h
    refine g_aload_n dX11_span_30 rfl 0 rfl ?_
    refine g_rA fl_X11_13 dX11_span_31 h (fun a9 h => ?_)
    refine g_bipush (v := 8) dX11_span_34 (by decide) ?_
    refine g_lIi dX11_span_36 h (fun x10 h => ?_)
    refine g_istore_n (lv' := [(3, .int x10), (0, .ref l0), (1, .int l1), (2, .int l2)]) dX11_span_37 rfl (by decide) rfl ?_
    refine g_iconst (v := (-1)) dX11_span_38 (by decide) ?_
    refine g_istore (lv' := [(4, .int (-1)), (3, .int x10), (0, .ref l0), (1, .int l1), (2, .int l2)]) dX11_span_39 (by decide) rfl ?_
    refine g_iconst (v := 1) dX11_span_41 (by decide) ?_
    refine g_istore (lv' := [(5, .int 1), (4, .int (-1)), (3, .int x10), (0, .ref l0), (1, .int l1), (2, .int l2)]) dX11_span_42 (by decide) rfl ?_
    refine G.lsub [3, 4, 5, 2, 1, 0] rfl ?_
    exact ok_L_X11_span_44 Θ 5000 l0 l1 l2 x10 (-1) 1 _ _ r h
  · rw [if_neg c8] at h
    refine g_iconst (v := 0) dX11_span_28 (by decide) ?_
    cases h
    exact g_iret rfl dX11_span_29 rfl
theorem ok_X11_span (Θ : GP) (l0 : Nat) (l1 : Int32) (l2 : Int32) (ω : OW) (n : Nat) : Ok Θ 11 0 0 yX11_span cX11_span 7 (some .int) [.ref l0, .int l1, .int l2] ω n (F_X11_span Θ l0 l1 l2 ω n) := by
  refine Ok.of (by decide +kernel) (Nat.le_of_ble_eq_true rfl) (fun r h => ?_)
  unfold F_X11_span at h
  show GR Θ yX11_span cX11_span 7 (some .int) 11 (0, 0) 0 [(0, .ref l0), (1, .int l1), (2, .int l2)] [] ω n r
  refine g_aload_n dX11_span_0 rfl 0 rfl ?_
  refine g_iconst (v := 0) dX11_span_1 (by decide) ?_
  refine g_wF fl_X11_3 dX11_span_2 (rfl) rfl h (fun ω h => ?_)
  refine g_aload_n dX11_span_5 rfl 0 rfl ?_
  refine g_iload_n dX11_span_6 rfl 1 rfl ?_
  refine g_iconst (v := 0) dX11_span_7 (by decide) ?_
  refine g_bipush (v := 20) dX11_span_8 (by decide) ?_
  refine g_sI (As := [.int l1, .int 0, .int 20]) ms_X11_87 dX11_span_10 (ok_X11_in Θ l1 0 20 _ _) rfl rfl (Nat.le_of_ble_eq_true rfl) (by decide) (by decide) (by decide) h (fun x11 ω n h => ?_)
  refine G.less (B' := (0, 0)) (by decide) (by decide) ?_
  refine g_if_ne (tgt := 20) dX11_span_13 (by decide) (fun c12 => ?_) (fun c12 => ?_)
  · rw [if_neg c12] at h
    refine g_iconst (v := 0) dX11_span_20 (by decide) ?_
    exact ok_J_X11_span_21 Θ l0 l1 l2 0 l0 _ _ r h
  · rw [if_pos c12] at h
    refine g_iconst (v := 1) dX11_span_16 (by decide) ?_
    refine g_goto (tgt := 21) dX11_span_17 (by decide) ?_
    exact ok_J_X11_span_21 Θ l0 l1 l2 1 l0 _ _ r h
def F_X11_ofLog (Θ : GP) (l0 : Nat) (l1 : Int32) (l2 : Int32) (ω : OW) (n : Nat) : RO := rA ω l0 11 1 (fun a1 => lI ω (gI Θ) a1 ((65 + (4 * l1)) + l2) (fun x2 => some (.inl (some (.int x2), ω, n))))
theorem ok_X11_ofLog (Θ : GP) (l0 : Nat) (l1 : Int32) (l2 : Int32) (ω : OW) (n : Nat) : Ok Θ 1 0 0 yX11_ofLog cX11_ofLog 3 (some .int) [.ref l0, .int l1, .int l2] ω n (F_X11_ofLog Θ l0 l1 l2 ω n) := by
  refine Ok.of (by decide +kernel) (Nat.le_of_ble_eq_true rfl) (fun r h => ?_)
  unfold F_X11_ofLog at h
  show GR Θ yX11_ofLog cX11_ofLog 3 (some .int) 1 (0, 0) 0 [(0, .ref l0), (1, .int l1), (2, .int l2)] [] ω n r
  refine g_aload_n dX11_ofLog_0 rfl 0 rfl ?_
  refine g_rA fl_X11_13 dX11_ofLog_1 h (fun a1 h => ?_)
  refine g_bipush (v := 65) dX11_ofLog_4 (by decide) ?_
  refine g_iconst (v := 4) dX11_ofLog_6 (by decide) ?_
  refine g_iload_n dX11_ofLog_7 rfl 1 rfl ?_
  refine g_imul dX11_ofLog_8 ?_
  refine g_iadd dX11_ofLog_9 ?_
  refine g_iload_n dX11_ofLog_10 rfl 2 rfl ?_
  refine g_iadd dX11_ofLog_11 ?_
  refine g_lIi dX11_ofLog_12 h (fun x2 h => ?_)
  cases h
  exact g_iret rfl dX11_ofLog_13 rfl
def J_X11_led_70 (Θ : GP) (k_25 : Nat → Int32 → Int32 → Int32 → Int32 → OW → Nat → RO) (l0 : Nat) (l1 : Int32) (l2 : Int32) (l4 : Int32) (s0 : Int32) (s1 : Int32) (ω : OW) (n : Nat) : RO := k_25 l0 l1 l2 (s1 + s0) (l4 + 1) ω n
def J_X11_led_69 (Θ : GP) (k_25 : Nat → Int32 → Int32 → Int32 → Int32 → OW → Nat → RO) (l0 : Nat) (l1 : Int32) (l2 : Int32) (l4 : Int32) (s0 : Int32) (ω : OW) (n : Nat) : RO := J_X11_led_70 Θ k_25 l0 l1 l2 l4 0 s0 ω n
def J_X11_led_65 (Θ : GP) (k_25 : Nat → Int32 → Int32 → Int32 → Int32 → OW → Nat → RO) (l0 : Nat) (l1 : Int32) (l2 : Int32) (l4 : Int32) (s0 : Int32) (ω : OW) (n : Nat) : RO := J_X11_led_70 Θ k_25 l0 l1 l2 l4 1 s0 ω n
def B_X11_led_25 (Θ : GP) (k_25 : Nat → Int32 → Int32 → Int32 → Int32 → OW → Nat → RO) (l0 : Nat) (l1 : Int32) (l2 : Int32) (l3 : Int32) (l4 : Int32) (ω : OW) (n : Nat) : RO := rA ω l0 11 1 (fun a1 => lI ω (gI Θ) a1 7 (fun x2 => if x2 ≤ l4 then (some (.inl (some (.int l3), ω, n))) else (cO ω l0 11 (kI (F_X11_ofLog Θ l0 l4 1 ω n) (fun x4 ω n => if x4 = l1 then (if l2 = 0 then (J_X11_led_65 Θ k_25 l0 l1 l2 l4 l3 ω n) else (cO ω l0 11 (kI (F_X11_ofLog Θ l0 l4 2 ω n) (fun x7 ω n => if 10 ≤ x7 then (J_X11_led_69 Θ k_25 l0 l1 l2 l4 l3 ω n) else (J_X11_led_65 Θ k_25 l0 l1 l2 l4 l3 ω n))))) else (J_X11_led_69 Θ k_25 l0 l1 l2 l4 l3 ω n))))))
def L_X11_led_25 (Θ : GP) : Nat → Nat → Int32 → Int32 → Int32 → Int32 → OW → Nat → RO
  | 0, _, _, _, _, _, _, _ => none
  | f + 1, l0, l1, l2, l3, l4, ω, n => B_X11_led_25 Θ (L_X11_led_25 Θ f) l0 l1 l2 l3 l4 ω n
def F_X11_led (Θ : GP) (l0 : Nat) (l1 : Int32) (l2 : Int32) (ω : OW) (n : Nat) : RO := wF ω l0 11 0 (.int 0) (fun ω => cO ω l0 11 (kI (F_X11_noOne Θ l0 l1 ω n) (fun x9 ω n => cO ω l0 11 (kI (F_X11_throwsIf Θ l0 x9 1 ω n) (fun x10 ω n => if x10 = 0 then (L_X11_led_25 Θ 5000 l0 l1 l2 0 0 ω n) else (some (.inl (some (.int 0), ω, n))))))))
theorem ok_J_X11_led_70 (Θ : GP) (k_25 : Nat → Int32 → Int32 → Int32 → Int32 → OW → Nat → RO) (hk_25 : ∀ l0 l1 l2 l3 l4 ω n r, k_25 l0 l1 l2 l3 l4 ω n = some r → GR Θ yX11_led cX11_led 5 (some .int) 3 (0, 0) 25 [(0, .ref l0), (1, .int l1), (2, .int l2), (3, .int l3), (4, .int l4)] [] ω n r) (l0 : Nat) (l1 : Int32) (l2 : Int32) (l4 : Int32) (s0 : Int32) (s1 : Int32) (ω : OW) (n : Nat) (r : Out) (h : J_X11_led_70 Θ k_25 l0 l1 l2 l4 s0 s1 ω n = some r) : GR Θ yX11_led cX11_led 5 (some .int) 3 (0, 0) 70 [(0, .ref l0), (1, .int l1), (2, .int l2), (4, .int l4)] [.int s0, .int s1] ω n r := by
  unfold J_X11_led_70 at h
  refine g_iadd dX11_led_70 ?_
  refine g_istore_n (lv' := [(3, .int (s1 + s0)), (0, .ref l0), (1, .int l1), (2, .int l2), (4, .int l4)]) dX11_led_71 rfl (by decide) rfl ?_
  refine g_iinc (j := 4) (v := l4 + 1) (lv' := [(4, .int (l4 + 1)), (3, .int (s1 + s0)), (0, .ref l0), (1, .int l1), (2, .int l2)]) dX11_led_72 rfl rfl (by decide) rfl ?_
  refine g_goto (tgt := 25) dX11_led_75 (by decide) ?_
  refine G.lsub [2, 3, 4, 1, 0] rfl ?_
  exact hk_25 l0 l1 l2 (s1 + s0) (l4 + 1) _ _ r h
theorem ok_J_X11_led_69 (Θ : GP) (k_25 : Nat → Int32 → Int32 → Int32 → Int32 → OW → Nat → RO) (hk_25 : ∀ l0 l1 l2 l3 l4 ω n r, k_25 l0 l1 l2 l3 l4 ω n = some r → GR Θ yX11_led cX11_led 5 (some .int) 3 (0, 0) 25 [(0, .ref l0), (1, .int l1), (2, .int l2), (3, .int l3), (4, .int l4)] [] ω n r) (l0 : Nat) (l1 : Int32) (l2 : Int32) (l4 : Int32) (s0 : Int32) (ω : OW) (n : Nat) (r : Out) (h : J_X11_led_69 Θ k_25 l0 l1 l2 l4 s0 ω n = some r) : GR Θ yX11_led cX11_led 5 (some .int) 3 (0, 0) 69 [(0, .ref l0), (1, .int l1), (2, .int l2), (4, .int l4)] [.int s0] ω n r := by
  unfold J_X11_led_69 at h
  refine g_iconst (v := 0) dX11_led_69 (by decide) ?_
  exact ok_J_X11_led_70 Θ k_25 hk_25 l0 l1 l2 l4 0 s0 _ _ r h
theorem ok_J_X11_led_65 (Θ : GP) (k_25 : Nat → Int32 → Int32 → Int32 → Int32 → OW → Nat → RO) (hk_25 : ∀ l0 l1 l2 l3 l4 ω n r, k_25 l0 l1 l2 l3 l4 ω n = some r → GR Θ yX11_led cX11_led 5 (some .int) 3 (0, 0) 25 [(0, .ref l0), (1, .int l1), (2, .int l2), (3, .int l3), (4, .int l4)] [] ω n r) (l0 : Nat) (l1 : Int32) (l2 : Int32) (l4 : Int32) (s0 : Int32) (ω : OW) (n : Nat) (r : Out) (h : J_X11_led_65 Θ k_25 l0 l1 l2 l4 s0 ω n = some r) : GR Θ yX11_led cX11_led 5 (some .int) 3 (0, 0) 65 [(0, .ref l0), (1, .int l1), (2, .int l2), (4, .int l4)] [.int s0] ω n r := by
  unfold J_X11_led_65 at h
  refine g_iconst (v := 1) dX11_led_65 (by decide) ?_
  refine g_goto (tgt := 70) dX11_led_66 (by decide) ?_
  exact ok_J_X11_led_70 Θ k_25 hk_25 l0 l1 l2 l4 1 s0 _ _ r h
theorem ok_B_X11_led_25 (Θ : GP) (k_25 : Nat → Int32 → Int32 → Int32 → Int32 → OW → Nat → RO) (hk_25 : ∀ l0 l1 l2 l3 l4 ω n r, k_25 l0 l1 l2 l3 l4 ω n = some r → GR Θ yX11_led cX11_led 5 (some .int) 3 (0, 0) 25 [(0, .ref l0), (1, .int l1), (2, .int l2), (3, .int l3), (4, .int l4)] [] ω n r) (l0 : Nat) (l1 : Int32) (l2 : Int32) (l3 : Int32) (l4 : Int32) (ω : OW) (n : Nat) (r : Out) (h : B_X11_led_25 Θ k_25 l0 l1 l2 l3 l4 ω n = some r) : GR Θ yX11_led cX11_led 5 (some .int) 3 (0, 0) 25 [(0, .ref l0), (1, .int l1), (2, .int l2), (3, .int l3), (4, .int l4)] [] ω n r := by
  unfold B_X11_led_25 at h
  refine g_iload dX11_led_25 4 rfl ?_
  refine g_aload_n dX11_led_27 rfl 0 rfl ?_
  refine g_rA fl_X11_13 dX11_led_28 h (fun a1 h => ?_)
  refine g_bipush (v := 7) dX11_led_31 (by decide) ?_
  refine g_lIi dX11_led_33 h (fun x2 h => ?_)
  refine g_icmp_ge (tgt := 78) dX11_led_34 (by decide) (fun c3 => ?_) (fun c3 => ?_)
  · rw [if_pos c3] at h
    refine g_iload_n dX11_led_78 rfl 3 rfl ?_
    cases h
    exact g_iret rfl dX11_led_79 rfl
  · rw [if_neg c3] at h
    refine g_iload_n dX11_led_37 rfl 3 rfl ?_
    refine g_aload_n dX11_led_38 rfl 0 rfl ?_
    refine g_iload dX11_led_39 4 rfl ?_
    refine g_iconst (v := 1) dX11_led_41 (by decide) ?_
    refine g_cI (ci := 11) (As := [.int l4, .int 1]) mv_X11_449 dX11_led_42 rfl (ok_X11_ofLog Θ l0 l4 1 _ _) rfl rfl (Nat.le_of_ble_eq_true rfl) (by decide) (by decide) (by decide) h (fun x4 ω n h => ?_)
    refine G.less (B' := (0, 0)) (by decide) (by decide) ?_
    refine g_iload_n dX11_led_45 rfl 1 rfl ?_
    refine g_icmp_ne (tgt := 69) dX11_led_46 (by decide) (fun c5 => ?_) (fun c5 => ?_)
    · rw [if_neg c5] at h
      refine G.lsub [0, 1, 2, 4] rfl ?_
      exact ok_J_X11_led_69 Θ k_25 hk_25 l0 l1 l2 l4 l3 _ _ r h
    · rw [if_pos c5] at h
      refine g_iload_n dX11_led_49 rfl 2 rfl ?_
      refine g_if_eq (tgt := 65) dX11_led_50 (by decide) (fun c6 => ?_) (fun c6 => ?_)
      · rw [if_pos c6] at h
        refine G.lsub [0, 1, 2, 4] rfl ?_
        exact ok_J_X11_led_65 Θ k_25 hk_25 l0 l1 l2 l4 l3 _ _ r h
      · rw [if_neg c6] at h
        refine g_aload_n dX11_led_53 rfl 0 rfl ?_
        refine g_iload dX11_led_54 4 rfl ?_
        refine g_iconst (v := 2) dX11_led_56 (by decide) ?_
        refine g_cI (ci := 11) (As := [.int l4, .int 2]) mv_X11_449 dX11_led_57 rfl (ok_X11_ofLog Θ l0 l4 2 _ _) rfl rfl (Nat.le_of_ble_eq_true rfl) (by decide) (by decide) (by decide) h (fun x7 ω n h => ?_)
        refine G.less (B' := (0, 0)) (by decide) (by decide) ?_
        refine g_bipush (v := 10) dX11_led_60 (by decide) ?_
        refine g_icmp_ge (tgt := 69) dX11_led_62 (by decide) (fun c8 => ?_) (fun c8 => ?_)
        · rw [if_pos c8] at h
          refine G.lsub [0, 1, 2, 4] rfl ?_
          exact ok_J_X11_led_69 Θ k_25 hk_25 l0 l1 l2 l4 l3 _ _ r h
        · rw [if_neg c8] at h
          refine G.lsub [0, 1, 2, 4] rfl ?_
          exact ok_J_X11_led_65 Θ k_25 hk_25 l0 l1 l2 l4 l3 _ _ r h
theorem ok_L_X11_led_25 (Θ : GP) : ∀ (f : Nat) (l0 : Nat) (l1 : Int32) (l2 : Int32) (l3 : Int32) (l4 : Int32) (ω : OW) (n : Nat) (r : Out), L_X11_led_25 Θ f l0 l1 l2 l3 l4 ω n = some r → GR Θ yX11_led cX11_led 5 (some .int) 3 (0, 0) 25 [(0, .ref l0), (1, .int l1), (2, .int l2), (3, .int l3), (4, .int l4)] [] ω n r := by
  intro f
  induction f with
  | zero =>
    intro l0 l1 l2 l3 l4 ω n r h
    unfold L_X11_led_25 at h
    cases h
  | succ f ih =>
    intro l0 l1 l2 l3 l4 ω n r h
    unfold L_X11_led_25 at h
    exact ok_B_X11_led_25 Θ (L_X11_led_25 Θ f) ih l0 l1 l2 l3 l4 ω n r h
theorem ok_X11_led (Θ : GP) (l0 : Nat) (l1 : Int32) (l2 : Int32) (ω : OW) (n : Nat) : Ok Θ 3 0 0 yX11_led cX11_led 5 (some .int) [.ref l0, .int l1, .int l2] ω n (F_X11_led Θ l0 l1 l2 ω n) := by
  refine Ok.of (by decide +kernel) (Nat.le_of_ble_eq_true rfl) (fun r h => ?_)
  unfold F_X11_led at h
  show GR Θ yX11_led cX11_led 5 (some .int) 3 (0, 0) 0 [(0, .ref l0), (1, .int l1), (2, .int l2)] [] ω n r
  refine g_aload_n dX11_led_0 rfl 0 rfl ?_
  refine g_iconst (v := 0) dX11_led_1 (by decide) ?_
  refine g_wF fl_X11_3 dX11_led_2 (rfl) rfl h (fun ω h => ?_)
  refine g_aload_n dX11_led_5 rfl 0 rfl ?_
  refine g_aload_n dX11_led_6 rfl 0 rfl ?_
  refine g_iload_n dX11_led_7 rfl 1 rfl ?_
  refine g_cI (ci := 11) (As := [.int l1]) mv_X11_300 dX11_led_8 rfl (ok_X11_noOne Θ l0 l1 _ _) rfl rfl (Nat.le_of_ble_eq_true rfl) (by decide) (by decide) (by decide) h (fun x9 ω n h => ?_)
  refine G.less (B' := (0, 0)) (by decide) (by decide) ?_
  refine g_iconst (v := 1) dX11_led_11 (by decide) ?_
  refine g_cI (ci := 11) (As := [.int x9, .int 1]) mv_X11_262 dX11_led_12 rfl (ok_X11_throwsIf Θ l0 x9 1 _ _) rfl rfl (Nat.le_of_ble_eq_true rfl) (by decide) (by decide) (by decide) h (fun x10 ω n h => ?_)
  refine G.less (B' := (0, 0)) (by decide) (by decide) ?_
  refine g_if_eq (tgt := 20) dX11_led_15 (by decide) (fun c11 => ?_) (fun c11 => ?_)
  · rw [if_pos c11] at h
    refine g_iconst (v := 0) dX11_led_20 (by decide) ?_
    refine g_istore_n (lv' := [(3, .int 0), (0, .ref l0), (1, .int l1), (2, .int l2)]) dX11_led_21 rfl (by decide) rfl ?_
    refine g_iconst (v := 0) dX11_led_22 (by decide) ?_
    refine g_istore (lv' := [(4, .int 0), (3, .int 0), (0, .ref l0), (1, .int l1), (2, .int l2)]) dX11_led_23 (by decide) rfl ?_
    refine G.lsub [2, 3, 4, 1, 0] rfl ?_
    exact ok_L_X11_led_25 Θ 5000 l0 l1 l2 0 0 _ _ r h
  · rw [if_neg c11] at h
    refine g_iconst (v := 0) dX11_led_18 (by decide) ?_
    cases h
    exact g_iret rfl dX11_led_19 rfl
def J_X11_log_56 (Θ : GP) (s0 : Int32) (ω : OW) (n : Nat) : RO := some (.inl (some (.int s0), ω, n))
def J_X11_log_20 (Θ : GP) (l0 : Nat) (l1 : Int32) (l2 : Int32) (s0 : Int32) (s1 : Nat) (ω : OW) (n : Nat) : RO := cO ω s1 11 (kI (F_X11_throwsIf Θ s1 s0 1 ω n) (fun x1 ω n => if x1 = 0 then (rA ω l0 11 1 (fun a3 => lI ω (gI Θ) a3 7 (fun x4 => kI (F_X11_in Θ l1 0 (x4 - 1) ω n) (fun x5 ω n => if x5 = 0 then (J_X11_log_56 Θ (-1) ω n) else (cO ω l0 11 (kI (F_X11_ofLog Θ l0 l1 l2 ω n) (fun x7 ω n => J_X11_log_56 Θ x7 ω n))))))) else (some (.inl (some (.int 0), ω, n)))))
def F_X11_log (Θ : GP) (l0 : Nat) (l1 : Int32) (l2 : Int32) (ω : OW) (n : Nat) : RO := wF ω l0 11 0 (.int 0) (fun ω => kI (F_X11_in Θ l2 0 3 ω n) (fun x8 ω n => if x8 = 0 then (J_X11_log_20 Θ l0 l1 l2 1 l0 ω n) else (J_X11_log_20 Θ l0 l1 l2 0 l0 ω n)))
theorem ok_J_X11_log_56 (Θ : GP) (s0 : Int32) (ω : OW) (n : Nat) (r : Out) (h : J_X11_log_56 Θ s0 ω n = some r) : GR Θ yX11_log cX11_log 3 (some .int) 2 (0, 0) 56 [] [.int s0] ω n r := by
  unfold J_X11_log_56 at h
  cases h
  exact g_iret rfl dX11_log_56 rfl
theorem ok_J_X11_log_20 (Θ : GP) (l0 : Nat) (l1 : Int32) (l2 : Int32) (s0 : Int32) (s1 : Nat) (ω : OW) (n : Nat) (r : Out) (h : J_X11_log_20 Θ l0 l1 l2 s0 s1 ω n = some r) : GR Θ yX11_log cX11_log 3 (some .int) 2 (0, 0) 20 [(0, .ref l0), (1, .int l1), (2, .int l2)] [.int s0, .ref s1] ω n r := by
  unfold J_X11_log_20 at h
  refine g_iconst (v := 1) dX11_log_20 (by decide) ?_
  refine g_cI (ci := 11) (As := [.int s0, .int 1]) mv_X11_262 dX11_log_21 rfl (ok_X11_throwsIf Θ s1 s0 1 _ _) rfl rfl (Nat.le_of_ble_eq_true rfl) (by decide) (by decide) (by decide) h (fun x1 ω n h => ?_)
  refine G.less (B' := (0, 0)) (by decide) (by decide) ?_
  refine g_if_eq (tgt := 29) dX11_log_24 (by decide) (fun c2 => ?_) (fun c2 => ?_)
  · rw [if_pos c2] at h
    refine g_iload_n dX11_log_29 rfl 1 rfl ?_
    refine g_iconst (v := 0) dX11_log_30 (by decide) ?_
    refine g_aload_n dX11_log_31 rfl 0 rfl ?_
    refine g_rA fl_X11_13 dX11_log_32 h (fun a3 h => ?_)
    refine g_bipush (v := 7) dX11_log_35 (by decide) ?_
    refine g_lIi dX11_log_37 h (fun x4 h => ?_)
    refine g_iconst (v := 1) dX11_log_38 (by decide) ?_
    refine g_isub dX11_log_39 ?_
    refine g_sI (As := [.int l1, .int 0, .int (x4 - 1)]) ms_X11_87 dX11_log_40 (ok_X11_in Θ l1 0 (x4 - 1) _ _) rfl rfl (Nat.le_of_ble_eq_true rfl) (by decide) (by decide) (by decide) h (fun x5 ω n h => ?_)
    refine G.less (B' := (0, 0)) (by decide) (by decide) ?_
    refine g_if_eq (tgt := 55) dX11_log_43 (by decide) (fun c6 => ?_) (fun c6 => ?_)
    · rw [if_pos c6] at h
      refine g_iconst (v := (-1)) dX11_log_55 (by decide) ?_
      refine G.lsub [] rfl ?_
      exact ok_J_X11_log_56 Θ (-1) _ _ r h
    · rw [if_neg c6] at h
      refine g_aload_n dX11_log_46 rfl 0 rfl ?_
      refine g_iload_n dX11_log_47 rfl 1 rfl ?_
      refine g_iload_n dX11_log_48 rfl 2 rfl ?_
      refine g_cI (ci := 11) (As := [.int l1, .int l2]) mv_X11_449 dX11_log_49 rfl (ok_X11_ofLog Θ l0 l1 l2 _ _) rfl rfl (Nat.le_of_ble_eq_true rfl) (by decide) (by decide) (by decide) h (fun x7 ω n h => ?_)
      refine G.less (B' := (0, 0)) (by decide) (by decide) ?_
      refine g_goto (tgt := 56) dX11_log_52 (by decide) ?_
      refine G.lsub [] rfl ?_
      exact ok_J_X11_log_56 Θ x7 _ _ r h
  · rw [if_neg c2] at h
    refine g_iconst (v := 0) dX11_log_27 (by decide) ?_
    cases h
    exact g_iret rfl dX11_log_28 rfl
theorem ok_X11_log (Θ : GP) (l0 : Nat) (l1 : Int32) (l2 : Int32) (ω : OW) (n : Nat) : Ok Θ 2 0 0 yX11_log cX11_log 3 (some .int) [.ref l0, .int l1, .int l2] ω n (F_X11_log Θ l0 l1 l2 ω n) := by
  refine Ok.of (by decide +kernel) (Nat.le_of_ble_eq_true rfl) (fun r h => ?_)
  unfold F_X11_log at h
  show GR Θ yX11_log cX11_log 3 (some .int) 2 (0, 0) 0 [(0, .ref l0), (1, .int l1), (2, .int l2)] [] ω n r
  refine g_aload_n dX11_log_0 rfl 0 rfl ?_
  refine g_iconst (v := 0) dX11_log_1 (by decide) ?_
  refine g_wF fl_X11_3 dX11_log_2 (rfl) rfl h (fun ω h => ?_)
  refine g_aload_n dX11_log_5 rfl 0 rfl ?_
  refine g_iload_n dX11_log_6 rfl 2 rfl ?_
  refine g_iconst (v := 0) dX11_log_7 (by decide) ?_
  refine g_iconst (v := 3) dX11_log_8 (by decide) ?_
  refine g_sI (As := [.int l2, .int 0, .int 3]) ms_X11_87 dX11_log_9 (ok_X11_in Θ l2 0 3 _ _) rfl rfl (Nat.le_of_ble_eq_true rfl) (by decide) (by decide) (by decide) h (fun x8 ω n h => ?_)
  refine G.less (B' := (0, 0)) (by decide) (by decide) ?_
  refine g_if_ne (tgt := 19) dX11_log_12 (by decide) (fun c9 => ?_) (fun c9 => ?_)
  · rw [if_neg c9] at h
    refine g_iconst (v := 0) dX11_log_19 (by decide) ?_
    exact ok_J_X11_log_20 Θ l0 l1 l2 0 l0 _ _ r h
  · rw [if_pos c9] at h
    refine g_iconst (v := 1) dX11_log_15 (by decide) ?_
    refine g_goto (tgt := 20) dX11_log_16 (by decide) ?_
    exact ok_J_X11_log_20 Θ l0 l1 l2 1 l0 _ _ r h
def F_X11_seed (Θ : GP) (l0 : Nat) (l1 : Int32) (ω : OW) (n : Nat) : RO := wF ω l0 11 0 (.int 0) (fun ω => rA ω l0 11 1 (fun a1 => lI ω (gI Θ) a1 8 (fun x2 => rA ω l0 11 1 (fun a3 => sI ω (gI Θ) a3 8 l1 (fun ω => some (.inl (some (.int x2), ω, n)))))))
theorem ok_X11_seed (Θ : GP) (l0 : Nat) (l1 : Int32) (ω : OW) (n : Nat) : Ok Θ 1 0 0 yX11_seed cX11_seed 3 (some .int) [.ref l0, .int l1] ω n (F_X11_seed Θ l0 l1 ω n) := by
  refine Ok.of (by decide +kernel) (Nat.le_of_ble_eq_true rfl) (fun r h => ?_)
  unfold F_X11_seed at h
  show GR Θ yX11_seed cX11_seed 3 (some .int) 1 (0, 0) 0 [(0, .ref l0), (1, .int l1)] [] ω n r
  refine g_aload_n dX11_seed_0 rfl 0 rfl ?_
  refine g_iconst (v := 0) dX11_seed_1 (by decide) ?_
  refine g_wF fl_X11_3 dX11_seed_2 (rfl) rfl h (fun ω h => ?_)
  refine g_aload_n dX11_seed_5 rfl 0 rfl ?_
  refine g_rA fl_X11_13 dX11_seed_6 h (fun a1 h => ?_)
  refine g_bipush (v := 8) dX11_seed_9 (by decide) ?_
  refine g_lIi dX11_seed_11 h (fun x2 h => ?_)
  refine g_istore_n (lv' := [(2, .int x2), (0, .ref l0), (1, .int l1)]) dX11_seed_12 rfl (by decide) rfl ?_
  refine g_aload_n dX11_seed_13 rfl 1 rfl ?_
  refine g_rA fl_X11_13 dX11_seed_14 h (fun a3 h => ?_)
  refine g_bipush (v := 8) dX11_seed_17 (by decide) ?_
  refine g_iload_n dX11_seed_19 rfl 2 rfl ?_
  refine g_sIi dX11_seed_20 h (fun ω h => ?_)
  refine g_iload_n dX11_seed_21 rfl 0 rfl ?_
  cases h
  exact g_iret rfl dX11_seed_22 rfl
def J_X11_slotsWithProps_27 (Θ : GP) (k_4 : Nat → Int32 → Int32 → OW → Nat → RO) (l0 : Nat) (l2 : Int32) (s0 : Int32) (s1 : Int32) (ω : OW) (n : Nat) : RO := k_4 l0 (s1 ||| s0) (l2 + 1) ω n
def B_X11_slotsWithProps_4 (Θ : GP) (k_4 : Nat → Int32 → Int32 → OW → Nat → RO) (l0 : Nat) (l1 : Int32) (l2 : Int32) (ω : OW) (n : Nat) : RO := if 10 ≤ l2 then (some (.inl (some (.int l1), ω, n))) else (cO ω l0 11 (kI (F_X11_propIn Θ l0 l2 ω n) (fun x2 ω n => if x2 = (-1) then (J_X11_slotsWithProps_27 Θ k_4 l0 l2 0 l1 ω n) else (J_X11_slotsWithProps_27 Θ k_4 l0 l2 (1 <<< ((l2 : Int32) &&& 31)) l1 ω n))))
def L_X11_slotsWithProps_4 (Θ : GP) : Nat → Nat → Int32 → Int32 → OW → Nat → RO
  | 0, _, _, _, _, _ => none
  | f + 1, l0, l1, l2, ω, n => B_X11_slotsWithProps_4 Θ (L_X11_slotsWithProps_4 Θ f) l0 l1 l2 ω n
def F_X11_slotsWithProps (Θ : GP) (l0 : Nat) (ω : OW) (n : Nat) : RO := L_X11_slotsWithProps_4 Θ 5000 l0 0 0 ω n
theorem ok_J_X11_slotsWithProps_27 (Θ : GP) (k_4 : Nat → Int32 → Int32 → OW → Nat → RO) (hk_4 : ∀ l0 l1 l2 ω n r, k_4 l0 l1 l2 ω n = some r → GR Θ yX11_slotsWithProps cX11_slotsWithProps 3 (some .int) 4 (0, 0) 4 [(0, .ref l0), (1, .int l1), (2, .int l2)] [] ω n r) (l0 : Nat) (l2 : Int32) (s0 : Int32) (s1 : Int32) (ω : OW) (n : Nat) (r : Out) (h : J_X11_slotsWithProps_27 Θ k_4 l0 l2 s0 s1 ω n = some r) : GR Θ yX11_slotsWithProps cX11_slotsWithProps 3 (some .int) 4 (0, 0) 27 [(0, .ref l0), (2, .int l2)] [.int s0, .int s1] ω n r := by
  unfold J_X11_slotsWithProps_27 at h
  refine g_ior dX11_slotsWithProps_27 ?_
  refine g_istore_n (lv' := [(1, .int (s1 ||| s0)), (0, .ref l0), (2, .int l2)]) dX11_slotsWithProps_28 rfl (by decide) rfl ?_
  refine g_iinc (j := 2) (v := l2 + 1) (lv' := [(2, .int (l2 + 1)), (1, .int (s1 ||| s0)), (0, .ref l0)]) dX11_slotsWithProps_29 rfl rfl (by decide) rfl ?_
  refine g_goto (tgt := 4) dX11_slotsWithProps_32 (by decide) ?_
  refine G.lsub [2, 1, 0] rfl ?_
  exact hk_4 l0 (s1 ||| s0) (l2 + 1) _ _ r h
theorem ok_B_X11_slotsWithProps_4 (Θ : GP) (k_4 : Nat → Int32 → Int32 → OW → Nat → RO) (hk_4 : ∀ l0 l1 l2 ω n r, k_4 l0 l1 l2 ω n = some r → GR Θ yX11_slotsWithProps cX11_slotsWithProps 3 (some .int) 4 (0, 0) 4 [(0, .ref l0), (1, .int l1), (2, .int l2)] [] ω n r) (l0 : Nat) (l1 : Int32) (l2 : Int32) (ω : OW) (n : Nat) (r : Out) (h : B_X11_slotsWithProps_4 Θ k_4 l0 l1 l2 ω n = some r) : GR Θ yX11_slotsWithProps cX11_slotsWithProps 3 (some .int) 4 (0, 0) 4 [(0, .ref l0), (1, .int l1), (2, .int l2)] [] ω n r := by
  unfold B_X11_slotsWithProps_4 at h
  refine g_iload_n dX11_slotsWithProps_4 rfl 2 rfl ?_
  refine g_bipush (v := 10) dX11_slotsWithProps_5 (by decide) ?_
  refine g_icmp_ge (tgt := 35) dX11_slotsWithProps_7 (by decide) (fun c1 => ?_) (fun c1 => ?_)
  · rw [if_pos c1] at h
    refine g_iload_n dX11_slotsWithProps_35 rfl 1 rfl ?_
    cases h
    exact g_iret rfl dX11_slotsWithProps_36 rfl
  · rw [if_neg c1] at h
    refine g_iload_n dX11_slotsWithProps_10 rfl 1 rfl ?_
    refine g_aload_n dX11_slotsWithProps_11 rfl 0 rfl ?_
    refine g_iload_n dX11_slotsWithProps_12 rfl 2 rfl ?_
    refine g_cI (ci := 11) (As := [.int l2]) mv_X11_160 dX11_slotsWithProps_13 rfl (ok_X11_propIn Θ l0 l2 _ _) rfl rfl (Nat.le_of_ble_eq_true rfl) (by decide) (by decide) (by decide) h (fun x2 ω n h => ?_)
    refine G.less (B' := (0, 0)) (by decide) (by decide) ?_
    refine g_iconst (v := (-1)) dX11_slotsWithProps_16 (by decide) ?_
    refine g_icmp_eq (tgt := 26) dX11_slotsWithProps_17 (by decide) (fun c3 => ?_) (fun c3 => ?_)
    · rw [if_pos c3] at h
      refine g_iconst (v := 0) dX11_slotsWithProps_26 (by decide) ?_
      refine G.lsub [0, 2] rfl ?_
      exact ok_J_X11_slotsWithProps_27 Θ k_4 hk_4 l0 l2 0 l1 _ _ r h
    · rw [if_neg c3] at h
      refine g_iconst (v := 1) dX11_slotsWithProps_20 (by decide) ?_
      refine g_iload_n dX11_slotsWithProps_21 rfl 2 rfl ?_
      refine g_ishl dX11_slotsWithProps_22 ?_
      refine g_goto (tgt := 27) dX11_slotsWithProps_23 (by decide) ?_
      refine G.lsub [0, 2] rfl ?_
      exact ok_J_X11_slotsWithProps_27 Θ k_4 hk_4 l0 l2 (1 <<< ((l2 : Int32) &&& 31)) l1 _ _ r h
theorem ok_L_X11_slotsWithProps_4 (Θ : GP) : ∀ (f : Nat) (l0 : Nat) (l1 : Int32) (l2 : Int32) (ω : OW) (n : Nat) (r : Out), L_X11_slotsWithProps_4 Θ f l0 l1 l2 ω n = some r → GR Θ yX11_slotsWithProps cX11_slotsWithProps 3 (some .int) 4 (0, 0) 4 [(0, .ref l0), (1, .int l1), (2, .int l2)] [] ω n r := by
  intro f
  induction f with
  | zero =>
    intro l0 l1 l2 ω n r h
    unfold L_X11_slotsWithProps_4 at h
    cases h
  | succ f ih =>
    intro l0 l1 l2 ω n r h
    unfold L_X11_slotsWithProps_4 at h
    exact ok_B_X11_slotsWithProps_4 Θ (L_X11_slotsWithProps_4 Θ f) ih l0 l1 l2 ω n r h
theorem ok_X11_slotsWithProps (Θ : GP) (l0 : Nat) (ω : OW) (n : Nat) : Ok Θ 4 0 0 yX11_slotsWithProps cX11_slotsWithProps 3 (some .int) [.ref l0] ω n (F_X11_slotsWithProps Θ l0 ω n) := by
  refine Ok.of (by decide +kernel) (Nat.le_of_ble_eq_true rfl) (fun r h => ?_)
  unfold F_X11_slotsWithProps at h
  show GR Θ yX11_slotsWithProps cX11_slotsWithProps 3 (some .int) 4 (0, 0) 0 [(0, .ref l0)] [] ω n r
  refine g_iconst (v := 0) dX11_slotsWithProps_0 (by decide) ?_
  refine g_istore_n (lv' := [(1, .int 0), (0, .ref l0)]) dX11_slotsWithProps_1 rfl (by decide) rfl ?_
  refine g_iconst (v := 0) dX11_slotsWithProps_2 (by decide) ?_
  refine g_istore_n (lv' := [(2, .int 0), (1, .int 0), (0, .ref l0)]) dX11_slotsWithProps_3 rfl (by decide) rfl ?_
  refine G.lsub [2, 1, 0] rfl ?_
  exact ok_L_X11_slotsWithProps_4 Θ 5000 l0 0 0 _ _ r h
def B_X11_wornOfAll_4 (Θ : GP) (k_4 : Nat → Int32 → Int32 → OW → Nat → RO) (l0 : Nat) (l1 : Int32) (l2 : Int32) (ω : OW) (n : Nat) : RO := cO ω l0 11 (kI (F_X11_props Θ l0 ω n) (fun x1 ω n => if x1 ≤ l2 then (some (.inl (some (.int l1), ω, n))) else (cO ω l0 11 (kI (F_X11_ofProp Θ l0 l2 2 ω n) (fun x3 ω n => k_4 l0 (l1 + x3) (l2 + 1) ω n)))))
def L_X11_wornOfAll_4 (Θ : GP) : Nat → Nat → Int32 → Int32 → OW → Nat → RO
  | 0, _, _, _, _, _ => none
  | f + 1, l0, l1, l2, ω, n => B_X11_wornOfAll_4 Θ (L_X11_wornOfAll_4 Θ f) l0 l1 l2 ω n
def F_X11_wornOfAll (Θ : GP) (l0 : Nat) (ω : OW) (n : Nat) : RO := L_X11_wornOfAll_4 Θ 5000 l0 0 0 ω n
theorem ok_B_X11_wornOfAll_4 (Θ : GP) (k_4 : Nat → Int32 → Int32 → OW → Nat → RO) (hk_4 : ∀ l0 l1 l2 ω n r, k_4 l0 l1 l2 ω n = some r → GR Θ yX11_wornOfAll cX11_wornOfAll 3 (some .int) 3 (0, 0) 4 [(0, .ref l0), (1, .int l1), (2, .int l2)] [] ω n r) (l0 : Nat) (l1 : Int32) (l2 : Int32) (ω : OW) (n : Nat) (r : Out) (h : B_X11_wornOfAll_4 Θ k_4 l0 l1 l2 ω n = some r) : GR Θ yX11_wornOfAll cX11_wornOfAll 3 (some .int) 3 (0, 0) 4 [(0, .ref l0), (1, .int l1), (2, .int l2)] [] ω n r := by
  unfold B_X11_wornOfAll_4 at h
  refine g_iload_n dX11_wornOfAll_4 rfl 2 rfl ?_
  refine g_aload_n dX11_wornOfAll_5 rfl 0 rfl ?_
  refine g_cI (ci := 11) (As := []) mv_X11_83 dX11_wornOfAll_6 rfl (ok_X11_props Θ l0 _ _) rfl rfl (Nat.le_of_ble_eq_true rfl) (by decide) (by decide) (by decide) h (fun x1 ω n h => ?_)
  refine G.less (B' := (0, 0)) (by decide) (by decide) ?_
  refine g_icmp_ge (tgt := 27) dX11_wornOfAll_9 (by decide) (fun c2 => ?_) (fun c2 => ?_)
  · rw [if_pos c2] at h
    refine g_iload_n dX11_wornOfAll_27 rfl 1 rfl ?_
    cases h
    exact g_iret rfl dX11_wornOfAll_28 rfl
  · rw [if_neg c2] at h
    refine g_iload_n dX11_wornOfAll_12 rfl 1 rfl ?_
    refine g_aload_n dX11_wornOfAll_13 rfl 0 rfl ?_
    refine g_iload_n dX11_wornOfAll_14 rfl 2 rfl ?_
    refine g_iconst (v := 2) dX11_wornOfAll_15 (by decide) ?_
    refine g_cI (ci := 11) (As := [.int l2, .int 2]) mv_X11_74 dX11_wornOfAll_16 rfl (ok_X11_ofProp Θ l0 l2 2 _ _) rfl rfl (Nat.le_of_ble_eq_true rfl) (by decide) (by decide) (by decide) h (fun x3 ω n h => ?_)
    refine G.less (B' := (0, 0)) (by decide) (by decide) ?_
    refine g_iadd dX11_wornOfAll_19 ?_
    refine g_istore_n (lv' := [(1, .int (l1 + x3)), (0, .ref l0), (2, .int l2)]) dX11_wornOfAll_20 rfl (by decide) rfl ?_
    refine g_iinc (j := 2) (v := l2 + 1) (lv' := [(2, .int (l2 + 1)), (1, .int (l1 + x3)), (0, .ref l0)]) dX11_wornOfAll_21 rfl rfl (by decide) rfl ?_
    refine g_goto (tgt := 4) dX11_wornOfAll_24 (by decide) ?_
    refine G.lsub [2, 1, 0] rfl ?_
    exact hk_4 l0 (l1 + x3) (l2 + 1) _ _ r h
theorem ok_L_X11_wornOfAll_4 (Θ : GP) : ∀ (f : Nat) (l0 : Nat) (l1 : Int32) (l2 : Int32) (ω : OW) (n : Nat) (r : Out), L_X11_wornOfAll_4 Θ f l0 l1 l2 ω n = some r → GR Θ yX11_wornOfAll cX11_wornOfAll 3 (some .int) 3 (0, 0) 4 [(0, .ref l0), (1, .int l1), (2, .int l2)] [] ω n r := by
  intro f
  induction f with
  | zero =>
    intro l0 l1 l2 ω n r h
    unfold L_X11_wornOfAll_4 at h
    cases h
  | succ f ih =>
    intro l0 l1 l2 ω n r h
    unfold L_X11_wornOfAll_4 at h
    exact ok_B_X11_wornOfAll_4 Θ (L_X11_wornOfAll_4 Θ f) ih l0 l1 l2 ω n r h
theorem ok_X11_wornOfAll (Θ : GP) (l0 : Nat) (ω : OW) (n : Nat) : Ok Θ 3 0 0 yX11_wornOfAll cX11_wornOfAll 3 (some .int) [.ref l0] ω n (F_X11_wornOfAll Θ l0 ω n) := by
  refine Ok.of (by decide +kernel) (Nat.le_of_ble_eq_true rfl) (fun r h => ?_)
  unfold F_X11_wornOfAll at h
  show GR Θ yX11_wornOfAll cX11_wornOfAll 3 (some .int) 3 (0, 0) 0 [(0, .ref l0)] [] ω n r
  refine g_iconst (v := 0) dX11_wornOfAll_0 (by decide) ?_
  refine g_istore_n (lv' := [(1, .int 0), (0, .ref l0)]) dX11_wornOfAll_1 rfl (by decide) rfl ?_
  refine g_iconst (v := 0) dX11_wornOfAll_2 (by decide) ?_
  refine g_istore_n (lv' := [(2, .int 0), (1, .int 0), (0, .ref l0)]) dX11_wornOfAll_3 rfl (by decide) rfl ?_
  refine G.lsub [2, 1, 0] rfl ?_
  exact ok_L_X11_wornOfAll_4 Θ 5000 l0 0 0 _ _ r h
def J_X11_count_143 (Θ : GP) (s0 : Int32) (ω : OW) (n : Nat) : RO := some (.inl (some (.int s0), ω, n))
def J_X11_count_123 (Θ : GP) (l0 : Nat) (l1 : Int32) (ω : OW) (n : Nat) : RO := kI (F_X11_in Θ l1 0 6 ω n) (fun x1 ω n => if x1 = 0 then (J_X11_count_143 Θ (-1) ω n) else (rA ω l0 11 1 (fun a3 => lI ω (gI Θ) a3 l1 (fun x4 => J_X11_count_143 Θ x4 ω n))))
def J_X11_count_96 (Θ : GP) (l0 : Nat) (l1 : Int32) (ω : OW) (n : Nat) : RO := cO ω l0 11 (kI (F_X11_ofState Θ l0 (l1 - 8) ω n) (fun x5 ω n => some (.inl (some (.int x5), ω, n))))
def J_X11_count_90 (Θ : GP) (s0 : Int32) (ω : OW) (n : Nat) : RO := some (.inl (some (.int s0), ω, n))
def F_X11_count (Θ : GP) (l0 : Nat) (l1 : Int32) (ω : OW) (n : Nat) : RO := wF ω l0 11 0 (.int 0) (fun ω => if l1 = 3 then (rA ω l0 11 1 (fun a6 => lI ω (gI Θ) a6 3 (fun x7 => if x7 = 1 then (rA ω l0 11 1 (fun a9 => lI ω (gI Θ) a9 305 (fun x10 => J_X11_count_90 Θ x10 ω n))) else (J_X11_count_90 Θ (-1) ω n)))) else (if l1 = 4 then (J_X11_count_123 Θ l0 l1 ω n) else (if l1 = 5 then (J_X11_count_123 Θ l0 l1 ω n) else (if l1 = 6 then (J_X11_count_123 Θ l0 l1 ω n) else (if l1 = 7 then (cO ω l0 11 (kI (F_X11_slotsWithProps Θ l0 ω n) (fun x11 ω n => some (.inl (some (.int x11), ω, n))))) else (if l1 = 8 then (J_X11_count_96 Θ l0 l1 ω n) else (if l1 = 9 then (J_X11_count_96 Θ l0 l1 ω n) else (if l1 = 10 then (J_X11_count_96 Θ l0 l1 ω n) else (if l1 = 11 then (J_X11_count_96 Θ l0 l1 ω n) else (if l1 = 12 then (cO ω l0 11 (kI (F_X11_wornOfAll Θ l0 ω n) (fun x12 ω n => some (.inl (some (.int x12), ω, n))))) else (if l1 = 13 then (rA ω l0 11 1 (fun a13 => lI ω (gI Θ) a13 7 (fun x14 => some (.inl (some (.int x14), ω, n))))) else (if l1 = 14 then (rI ω l0 11 7 (fun x15 => some (.inl (some (.int x15), ω, n)))) else (J_X11_count_123 Θ l0 l1 ω n)))))))))))))
theorem ok_J_X11_count_143 (Θ : GP) (s0 : Int32) (ω : OW) (n : Nat) (r : Out) (h : J_X11_count_143 Θ s0 ω n = some r) : GR Θ yX11_count cX11_count 2 (some .int) 5 (0, 0) 143 [] [.int s0] ω n r := by
  unfold J_X11_count_143 at h
  cases h
  exact g_iret rfl dX11_count_143 rfl
theorem ok_J_X11_count_123 (Θ : GP) (l0 : Nat) (l1 : Int32) (ω : OW) (n : Nat) (r : Out) (h : J_X11_count_123 Θ l0 l1 ω n = some r) : GR Θ yX11_count cX11_count 2 (some .int) 5 (0, 0) 123 [(0, .ref l0), (1, .int l1)] [] ω n r := by
  unfold J_X11_count_123 at h
  refine g_iload_n dX11_count_123 rfl 1 rfl ?_
  refine g_iconst (v := 0) dX11_count_124 (by decide) ?_
  refine g_bipush (v := 6) dX11_count_125 (by decide) ?_
  refine g_sI (As := [.int l1, .int 0, .int 6]) ms_X11_87 dX11_count_127 (ok_X11_in Θ l1 0 6 _ _) rfl rfl (Nat.le_of_ble_eq_true rfl) (by decide) (by decide) (by decide) h (fun x1 ω n h => ?_)
  refine G.less (B' := (0, 0)) (by decide) (by decide) ?_
  refine g_if_eq (tgt := 142) dX11_count_130 (by decide) (fun c2 => ?_) (fun c2 => ?_)
  · rw [if_pos c2] at h
    refine g_iconst (v := (-1)) dX11_count_142 (by decide) ?_
    refine G.lsub [] rfl ?_
    exact ok_J_X11_count_143 Θ (-1) _ _ r h
  · rw [if_neg c2] at h
    refine g_aload_n dX11_count_133 rfl 0 rfl ?_
    refine g_rA fl_X11_13 dX11_count_134 h (fun a3 h => ?_)
    refine g_iload_n dX11_count_137 rfl 1 rfl ?_
    refine g_lIi dX11_count_138 h (fun x4 h => ?_)
    refine g_goto (tgt := 143) dX11_count_139 (by decide) ?_
    refine G.lsub [] rfl ?_
    exact ok_J_X11_count_143 Θ x4 _ _ r h
theorem ok_J_X11_count_96 (Θ : GP) (l0 : Nat) (l1 : Int32) (ω : OW) (n : Nat) (r : Out) (h : J_X11_count_96 Θ l0 l1 ω n = some r) : GR Θ yX11_count cX11_count 2 (some .int) 5 (0, 0) 96 [(0, .ref l0), (1, .int l1)] [] ω n r := by
  unfold J_X11_count_96 at h
  refine g_aload_n dX11_count_96 rfl 0 rfl ?_
  refine g_iload_n dX11_count_97 rfl 1 rfl ?_
  refine g_bipush (v := 8) dX11_count_98 (by decide) ?_
  refine g_isub dX11_count_100 ?_
  refine g_cI (ci := 11) (As := [.int (l1 - 8)]) mv_X11_364 dX11_count_101 rfl (ok_X11_ofState Θ l0 (l1 - 8) _ _) rfl rfl (Nat.le_of_ble_eq_true rfl) (by decide) (by decide) (by decide) h (fun x5 ω n h => ?_)
  refine G.less (B' := (0, 0)) (by decide) (by decide) ?_
  cases h
  exact g_iret rfl dX11_count_104 rfl
theorem ok_J_X11_count_90 (Θ : GP) (s0 : Int32) (ω : OW) (n : Nat) (r : Out) (h : J_X11_count_90 Θ s0 ω n = some r) : GR Θ yX11_count cX11_count 2 (some .int) 5 (0, 0) 90 [] [.int s0] ω n r := by
  unfold J_X11_count_90 at h
  cases h
  exact g_iret rfl dX11_count_90 rfl
theorem ok_X11_count (Θ : GP) (l0 : Nat) (l1 : Int32) (ω : OW) (n : Nat) : Ok Θ 5 0 0 yX11_count cX11_count 2 (some .int) [.ref l0, .int l1] ω n (F_X11_count Θ l0 l1 ω n) := by
  refine Ok.of (by decide +kernel) (Nat.le_of_ble_eq_true rfl) (fun r h => ?_)
  unfold F_X11_count at h
  show GR Θ yX11_count cX11_count 2 (some .int) 5 (0, 0) 0 [(0, .ref l0), (1, .int l1)] [] ω n r
  refine g_aload_n dX11_count_0 rfl 0 rfl ?_
  refine g_iconst (v := 0) dX11_count_1 (by decide) ?_
  refine g_wF fl_X11_3 dX11_count_2 (rfl) rfl h (fun ω h => ?_)
  refine g_iload_n dX11_count_5 rfl 1 rfl ?_
  by_cases c16_3 : l1 = 3
  · rw [if_pos c16_3] at h
    refine g_tableIn (off := 62) (tgt := 68) dX11_count_6 (by rw [c16_3]; decide) (by rw [c16_3]; decide) (by rw [c16_3]; decide) (by decide) ?_
    refine g_aload_n dX11_count_68 rfl 0 rfl ?_
    refine g_rA fl_X11_13 dX11_count_69 h (fun a6 h => ?_)
    refine g_iconst (v := 3) dX11_count_72 (by decide) ?_
    refine g_lIi dX11_count_73 h (fun x7 h => ?_)
    refine g_iconst (v := 1) dX11_count_74 (by decide) ?_
    refine g_icmp_ne (tgt := 89) dX11_count_75 (by decide) (fun c8 => ?_) (fun c8 => ?_)
    · rw [if_neg c8] at h
      refine g_iconst (v := (-1)) dX11_count_89 (by decide) ?_
      refine G.lsub [] rfl ?_
      exact ok_J_X11_count_90 Θ (-1) _ _ r h
    · rw [if_pos c8] at h
      refine g_aload_n dX11_count_78 rfl 0 rfl ?_
      refine g_rA fl_X11_13 dX11_count_79 h (fun a9 h => ?_)
      refine g_sipush (v := 305) dX11_count_82 (by decide) ?_
      refine g_lIi dX11_count_85 h (fun x10 h => ?_)
      refine g_goto (tgt := 90) dX11_count_86 (by decide) ?_
      refine G.lsub [] rfl ?_
      exact ok_J_X11_count_90 Θ x10 _ _ r h
  rw [if_neg c16_3] at h
  by_cases c16_4 : l1 = 4
  · rw [if_pos c16_4] at h
    refine g_tableIn (off := 117) (tgt := 123) dX11_count_6 (by rw [c16_4]; decide) (by rw [c16_4]; decide) (by rw [c16_4]; decide) (by decide) ?_
    exact ok_J_X11_count_123 Θ l0 l1 _ _ r h
  rw [if_neg c16_4] at h
  by_cases c16_5 : l1 = 5
  · rw [if_pos c16_5] at h
    refine g_tableIn (off := 117) (tgt := 123) dX11_count_6 (by rw [c16_5]; decide) (by rw [c16_5]; decide) (by rw [c16_5]; decide) (by decide) ?_
    exact ok_J_X11_count_123 Θ l0 l1 _ _ r h
  rw [if_neg c16_5] at h
  by_cases c16_6 : l1 = 6
  · rw [if_pos c16_6] at h
    refine g_tableIn (off := 117) (tgt := 123) dX11_count_6 (by rw [c16_6]; decide) (by rw [c16_6]; decide) (by rw [c16_6]; decide) (by decide) ?_
    exact ok_J_X11_count_123 Θ l0 l1 _ _ r h
  rw [if_neg c16_6] at h
  by_cases c16_7 : l1 = 7
  · rw [if_pos c16_7] at h
    refine g_tableIn (off := 85) (tgt := 91) dX11_count_6 (by rw [c16_7]; decide) (by rw [c16_7]; decide) (by rw [c16_7]; decide) (by decide) ?_
    refine g_aload_n dX11_count_91 rfl 0 rfl ?_
    refine g_cI (ci := 11) (As := []) mv_X11_452 dX11_count_92 rfl (ok_X11_slotsWithProps Θ l0 _ _) rfl rfl (Nat.le_of_ble_eq_true rfl) (by decide) (by decide) (by decide) h (fun x11 ω n h => ?_)
    refine G.less (B' := (0, 0)) (by decide) (by decide) ?_
    cases h
    exact g_iret rfl dX11_count_95 rfl
  rw [if_neg c16_7] at h
  by_cases c16_8 : l1 = 8
  · rw [if_pos c16_8] at h
    refine g_tableIn (off := 90) (tgt := 96) dX11_count_6 (by rw [c16_8]; decide) (by rw [c16_8]; decide) (by rw [c16_8]; decide) (by decide) ?_
    exact ok_J_X11_count_96 Θ l0 l1 _ _ r h
  rw [if_neg c16_8] at h
  by_cases c16_9 : l1 = 9
  · rw [if_pos c16_9] at h
    refine g_tableIn (off := 90) (tgt := 96) dX11_count_6 (by rw [c16_9]; decide) (by rw [c16_9]; decide) (by rw [c16_9]; decide) (by decide) ?_
    exact ok_J_X11_count_96 Θ l0 l1 _ _ r h
  rw [if_neg c16_9] at h
  by_cases c16_10 : l1 = 10
  · rw [if_pos c16_10] at h
    refine g_tableIn (off := 90) (tgt := 96) dX11_count_6 (by rw [c16_10]; decide) (by rw [c16_10]; decide) (by rw [c16_10]; decide) (by decide) ?_
    exact ok_J_X11_count_96 Θ l0 l1 _ _ r h
  rw [if_neg c16_10] at h
  by_cases c16_11 : l1 = 11
  · rw [if_pos c16_11] at h
    refine g_tableIn (off := 90) (tgt := 96) dX11_count_6 (by rw [c16_11]; decide) (by rw [c16_11]; decide) (by rw [c16_11]; decide) (by decide) ?_
    exact ok_J_X11_count_96 Θ l0 l1 _ _ r h
  rw [if_neg c16_11] at h
  by_cases c16_12 : l1 = 12
  · rw [if_pos c16_12] at h
    refine g_tableIn (off := 99) (tgt := 105) dX11_count_6 (by rw [c16_12]; decide) (by rw [c16_12]; decide) (by rw [c16_12]; decide) (by decide) ?_
    refine g_aload_n dX11_count_105 rfl 0 rfl ?_
    refine g_cI (ci := 11) (As := []) mv_X11_455 dX11_count_106 rfl (ok_X11_wornOfAll Θ l0 _ _) rfl rfl (Nat.le_of_ble_eq_true rfl) (by decide) (by decide) (by decide) h (fun x12 ω n h => ?_)
    refine G.less (B' := (0, 0)) (by decide) (by decide) ?_
    cases h
    exact g_iret rfl dX11_count_109 rfl
  rw [if_neg c16_12] at h
  by_cases c16_13 : l1 = 13
  · rw [if_pos c16_13] at h
    refine g_tableIn (off := 104) (tgt := 110) dX11_count_6 (by rw [c16_13]; decide) (by rw [c16_13]; decide) (by rw [c16_13]; decide) (by decide) ?_
    refine g_aload_n dX11_count_110 rfl 0 rfl ?_
    refine g_rA fl_X11_13 dX11_count_111 h (fun a13 h => ?_)
    refine g_bipush (v := 7) dX11_count_114 (by decide) ?_
    refine g_lIi dX11_count_116 h (fun x14 h => ?_)
    cases h
    exact g_iret rfl dX11_count_117 rfl
  rw [if_neg c16_13] at h
  by_cases c16_14 : l1 = 14
  · rw [if_pos c16_14] at h
    refine g_tableIn (off := 112) (tgt := 118) dX11_count_6 (by rw [c16_14]; decide) (by rw [c16_14]; decide) (by rw [c16_14]; decide) (by decide) ?_
    refine g_aload_n dX11_count_118 rfl 0 rfl ?_
    refine g_rI fl_X11_67 dX11_count_119 h (fun x15 h => ?_)
    cases h
    exact g_iret rfl dX11_count_122 rfl
  rw [if_neg c16_14] at h
  have qc16_3 := ne_toInt c16_3 (z := 3) (by decide)
  have qc16_4 := ne_toInt c16_4 (z := 4) (by decide)
  have qc16_5 := ne_toInt c16_5 (z := 5) (by decide)
  have qc16_6 := ne_toInt c16_6 (z := 6) (by decide)
  have qc16_7 := ne_toInt c16_7 (z := 7) (by decide)
  have qc16_8 := ne_toInt c16_8 (z := 8) (by decide)
  have qc16_9 := ne_toInt c16_9 (z := 9) (by decide)
  have qc16_10 := ne_toInt c16_10 (z := 10) (by decide)
  have qc16_11 := ne_toInt c16_11 (z := 11) (by decide)
  have qc16_12 := ne_toInt c16_12 (z := 12) (by decide)
  have qc16_13 := ne_toInt c16_13 (z := 13) (by decide)
  have qc16_14 := ne_toInt c16_14 (z := 14) (by decide)
  refine g_tableOut (tgt := 123) dX11_count_6 (by omega) (by decide) ?_
  exact ok_J_X11_count_123 Θ l0 l1 _ _ r h
