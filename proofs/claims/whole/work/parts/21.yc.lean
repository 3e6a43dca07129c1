def J_X3_readCondition_83 (Θ : GP) (rcA : Nat → Int32 → OW → Nat → RO) (k_4 : Nat → Int32 → Int32 → Int32 → OW → Nat → RO) (l0 : Nat) (l1 : Int32) (l3 : Int32) (ω : OW) (n : Nat) : RO := rA ω l0 3 0 (fun a1 => cO ω a1 8 (kI (F_X8_takeWord Θ a1 28530 ω n) (fun x2 ω n => if x2 = 0 then (some (.inl (some (.int 1), ω, n))) else (k_4 l0 l1 1 (l3 + 1) ω n))))
def J_X3_readCondition_69 (Θ : GP) (rcA : Nat → Int32 → OW → Nat → RO) (k_4 : Nat → Int32 → Int32 → Int32 → OW → Nat → RO) (l0 : Nat) (l1 : Int32) (l2 : Int32) (l3 : Int32) (ω : OW) (n : Nat) : RO := if l2 = 0 then (J_X3_readCondition_83 Θ rcA k_4 l0 l1 l3 ω n) else (cO ω l0 3 (kI (F_X3_write Θ l0 2 ω n) (fun x5 ω n => if x5 = 0 then (some (.inl (some (.int 0), ω, n))) else (J_X3_readCondition_83 Θ rcA k_4 l0 l1 l3 ω n))))
def J_X3_readCondition_61 (Θ : GP) (rcA : Nat → Int32 → OW → Nat → RO) (ω : OW) (n : Nat) : RO := some (.inl (some (.int 0), ω, n))
def B_X3_readCondition_24 (Θ : GP) (rcA : Nat → Int32 → OW → Nat → RO) (k_4 : Nat → Int32 → Int32 → Int32 → OW → Nat → RO) (k_24 : Nat → Int32 → Int32 → Int32 → Int32 → OW → Nat → RO) (l0 : Nat) (l1 : Int32) (l2 : Int32) (l3 : Int32) (l4 : Int32) (ω : OW) (n : Nat) : RO := if 400 ≤ l4 then (J_X3_readCondition_69 Θ rcA k_4 l0 l1 l2 l3 ω n) else (rA ω l0 3 0 (fun a8 => cO ω a8 8 (kI (F_X8_takeWord Θ a8 6385252 ω n) (fun x9 ω n => if x9 = 0 then (J_X3_readCondition_69 Θ rcA k_4 l0 l1 l2 l3 ω n) else (cO ω l0 3 (kI (rcA l0 l1 ω n) (fun x11 ω n => if x11 = 0 then (J_X3_readCondition_61 Θ rcA ω n) else (cO ω l0 3 (kI (F_X3_write Θ l0 1 ω n) (fun x13 ω n => if x13 = 0 then (J_X3_readCondition_61 Θ rcA ω n) else (k_24 l0 l1 l2 l3 (l4 + 1) ω n)))))))))))
def L_X3_readCondition_24 (Θ : GP) (rcA : Nat → Int32 → OW → Nat → RO) (k_4 : Nat → Int32 → Int32 → Int32 → OW → Nat → RO) : Nat → Nat → Int32 → Int32 → Int32 → Int32 → OW → Nat → RO
  | 0, _, _, _, _, _, _, _ => none
  | f + 1, l0, l1, l2, l3, l4, ω, n => B_X3_readCondition_24 Θ rcA k_4 (L_X3_readCondition_24 Θ rcA k_4 f) l0 l1 l2 l3 l4 ω n
def B_X3_readCondition_4 (Θ : GP) (rcA : Nat → Int32 → OW → Nat → RO) (k_4 : Nat → Int32 → Int32 → Int32 → OW → Nat → RO) (l0 : Nat) (l1 : Int32) (l2 : Int32) (l3 : Int32) (ω : OW) (n : Nat) : RO := if 400 ≤ l3 then (some (.inl (some (.int 0), ω, n))) else (cO ω l0 3 (kI (rcA l0 l1 ω n) (fun x16 ω n => if x16 = 0 then (some (.inl (some (.int 0), ω, n))) else (L_X3_readCondition_24 Θ rcA k_4 5000 l0 l1 l2 l3 0 ω n))))
def L_X3_readCondition_4 (Θ : GP) (rcA : Nat → Int32 → OW → Nat → RO) : Nat → Nat → Int32 → Int32 → Int32 → OW → Nat → RO
  | 0, _, _, _, _, _, _ => none
  | f + 1, l0, l1, l2, l3, ω, n => B_X3_readCondition_4 Θ rcA (L_X3_readCondition_4 Θ rcA f) l0 l1 l2 l3 ω n
def F_X3_readCondition (Θ : GP) (rcA : Nat → Int32 → OW → Nat → RO) (l0 : Nat) (l1 : Int32) (ω : OW) (n : Nat) : RO := L_X3_readCondition_4 Θ rcA 5000 l0 l1 0 0 ω n
theorem ok_J_X3_readCondition_83 (Θ : GP) (rcA : Nat → Int32 → OW → Nat → RO) (dA : Nat) (hA : ∀ l0 l1 ω n, Ok Θ dA 0 0 yX3_readAtom cX3_readAtom 3 (some .boolean) [.ref l0, .int l1] ω n (rcA l0 l1 ω n)) (k_4 : Nat → Int32 → Int32 → Int32 → OW → Nat → RO) (hk_4 : ∀ l0 l1 l2 l3 ω n r, k_4 l0 l1 l2 l3 ω n = some r → GR Θ yX3_readCondition cX3_readCondition 5 (some .boolean) (dA + 12) (0, 0) 4 [(0, .ref l0), (1, .int l1), (2, .int l2), (3, .int l3)] [] ω n r) (l0 : Nat) (l1 : Int32) (l3 : Int32) (ω : OW) (n : Nat) (r : Out) (h : J_X3_readCondition_83 Θ rcA k_4 l0 l1 l3 ω n = some r) : GR Θ yX3_readCondition cX3_readCondition 5 (some .boolean) (dA + 12) (0, 0) 83 [(0, .ref l0), (1, .int l1), (3, .int l3)] [] ω n r := by
  unfold J_X3_readCondition_83 at h
  refine g_iconst (v := 1) dX3_readCondition_83 (by decide) ?_
  refine g_istore_n (lv' := [(2, .int 1), (0, .ref l0), (1, .int l1), (3, .int l3)]) dX3_readCondition_84 rfl (by decide) rfl ?_
  refine g_aload_n dX3_readCondition_85 rfl 1 rfl ?_
  refine g_rA fl_X3_33 dX3_readCondition_86 h (fun a1 h => ?_)
  refine g_ldc2_w (v := 28530) wd_1038 dX3_readCondition_89 ?_
  refine g_cI (ci := 8) (As := [.long 28530]) mv_X3_69 dX3_readCondition_92 rfl (ok_X8_takeWord Θ a1 28530 _ _) rfl rfl (Nat.le_of_ble_eq_true rfl) (by omega) (by decide) (by decide) h (fun x2 ω n h => ?_)
  refine G.less (B' := (0, 0)) (by decide) (by decide) ?_
  refine g_if_ne (tgt := 100) dX3_readCondition_95 (by decide) (fun c3 => ?_) (fun c3 => ?_)
  · rw [if_neg c3] at h
    refine g_iinc (j := 3) (v := l3 + 1) (lv' := [(3, .int (l3 + 1)), (2, .int 1), (0, .ref l0), (1, .int l1)]) dX3_readCondition_100 rfl rfl (by decide) rfl ?_
    refine g_goto (tgt := 4) dX3_readCondition_103 (by decide) ?_
    refine G.lsub [2, 3, 1, 0] rfl ?_
    exact hk_4 l0 l1 1 (l3 + 1) _ _ r h
  · rw [if_pos c3] at h
    refine g_iconst (v := 1) dX3_readCondition_98 (by decide) ?_
    cases h
    exact g_zret rfl rfl dX3_readCondition_99 rfl
theorem ok_J_X3_readCondition_69 (Θ : GP) (rcA : Nat → Int32 → OW → Nat → RO) (dA : Nat) (hA : ∀ l0 l1 ω n, Ok Θ dA 0 0 yX3_readAtom cX3_readAtom 3 (some .boolean) [.ref l0, .int l1] ω n (rcA l0 l1 ω n)) (k_4 : Nat → Int32 → Int32 → Int32 → OW → Nat → RO) (hk_4 : ∀ l0 l1 l2 l3 ω n r, k_4 l0 l1 l2 l3 ω n = some r → GR Θ yX3_readCondition cX3_readCondition 5 (some .boolean) (dA + 12) (0, 0) 4 [(0, .ref l0), (1, .int l1), (2, .int l2), (3, .int l3)] [] ω n r) (l0 : Nat) (l1 : Int32) (l2 : Int32) (l3 : Int32) (ω : OW) (n : Nat) (r : Out) (h : J_X3_readCondition_69 Θ rcA k_4 l0 l1 l2 l3 ω n = some r) : GR Θ yX3_readCondition cX3_readCondition 5 (some .boolean) (dA + 12) (0, 0) 69 [(0, .ref l0), (1, .int l1), (2, .int l2), (3, .int l3)] [] ω n r := by
  unfold J_X3_readCondition_69 at h
  refine g_iload_n dX3_readCondition_69 rfl 2 rfl ?_
  refine g_if_eq (tgt := 83) dX3_readCondition_70 (by decide) (fun c4 => ?_) (fun c4 => ?_)
  · rw [if_pos c4] at h
    refine G.lsub [0, 1, 3] rfl ?_
    exact ok_J_X3_readCondition_83 Θ rcA dA hA k_4 hk_4 l0 l1 l3 _ _ r h
  · rw [if_neg c4] at h
    refine g_aload_n dX3_readCondition_73 rfl 0 rfl ?_
    refine g_iconst (v := 2) dX3_readCondition_74 (by decide) ?_
    refine g_cI (ci := 3) (As := [.int 2]) mv_X3_94 dX3_readCondition_75 rfl (ok_X3_write Θ l0 2 _ _) rfl rfl (Nat.le_of_ble_eq_true rfl) (by omega) (by decide) (by decide) h (fun x5 ω n h => ?_)
    refine G.less (B' := (0, 0)) (by decide) (by decide) ?_
    refine g_if_ne (tgt := 83) dX3_readCondition_78 (by decide) (fun c6 => ?_) (fun c6 => ?_)
    · rw [if_neg c6] at h
      refine G.lsub [0, 1, 3] rfl ?_
      exact ok_J_X3_readCondition_83 Θ rcA dA hA k_4 hk_4 l0 l1 l3 _ _ r h
    · rw [if_pos c6] at h
      refine g_iconst (v := 0) dX3_readCondition_81 (by decide) ?_
      cases h
      exact g_zret rfl rfl dX3_readCondition_82 rfl
theorem ok_J_X3_readCondition_61 (Θ : GP) (rcA : Nat → Int32 → OW → Nat → RO) (dA : Nat) (hA : ∀ l0 l1 ω n, Ok Θ dA 0 0 yX3_readAtom cX3_readAtom 3 (some .boolean) [.ref l0, .int l1] ω n (rcA l0 l1 ω n)) (ω : OW) (n : Nat) (r : Out) (h : J_X3_readCondition_61 Θ rcA ω n = some r) : GR Θ yX3_readCondition cX3_readCondition 5 (some .boolean) (dA + 12) (0, 0) 61 [] [] ω n r := by
  unfold J_X3_readCondition_61 at h
  refine g_iconst (v := 0) dX3_readCondition_61 (by decide) ?_
  cases h
  exact g_zret rfl rfl dX3_readCondition_62 rfl
theorem ok_B_X3_readCondition_24 (Θ : GP) (rcA : Nat → Int32 → OW → Nat → RO) (dA : Nat) (hA : ∀ l0 l1 ω n, Ok Θ dA 0 0 yX3_readAtom cX3_readAtom 3 (some .boolean) [.ref l0, .int l1] ω n (rcA l0 l1 ω n)) (k_4 : Nat → Int32 → Int32 → Int32 → OW → Nat → RO) (k_24 : Nat → Int32 → Int32 → Int32 → Int32 → OW → Nat → RO) (hk_4 : ∀ l0 l1 l2 l3 ω n r, k_4 l0 l1 l2 l3 ω n = some r → GR Θ yX3_readCondition cX3_readCondition 5 (some .boolean) (dA + 12) (0, 0) 4 [(0, .ref l0), (1, .int l1), (2, .int l2), (3, .int l3)] [] ω n r) (hk_24 : ∀ l0 l1 l2 l3 l4 ω n r, k_24 l0 l1 l2 l3 l4 ω n = some r → GR Θ yX3_readCondition cX3_readCondition 5 (some .boolean) (dA + 12) (0, 0) 24 [(0, .ref l0), (1, .int l1), (2, .int l2), (3, .int l3), (4, .int l4)] [] ω n r) (l0 : Nat) (l1 : Int32) (l2 : Int32) (l3 : Int32) (l4 : Int32) (ω : OW) (n : Nat) (r : Out) (h : B_X3_readCondition_24 Θ rcA k_4 k_24 l0 l1 l2 l3 l4 ω n = some r) : GR Θ yX3_readCondition cX3_readCondition 5 (some .boolean) (dA + 12) (0, 0) 24 [(0, .ref l0), (1, .int l1), (2, .int l2), (3, .int l3), (4, .int l4)] [] ω n r := by
  unfold B_X3_readCondition_24 at h
  refine g_iload dX3_readCondition_24 4 rfl ?_
  refine g_sipush (v := 400) dX3_readCondition_26 (by decide) ?_
  refine g_icmp_ge (tgt := 69) dX3_readCondition_29 (by decide) (fun c7 => ?_) (fun c7 => ?_)
  · rw [if_pos c7] at h
    refine G.lsub [0, 1, 2, 3] rfl ?_
    exact ok_J_X3_readCondition_69 Θ rcA dA hA k_4 hk_4 l0 l1 l2 l3 _ _ r h
  · rw [if_neg c7] at h
    refine g_aload_n dX3_readCondition_32 rfl 0 rfl ?_
    refine g_rA fl_X3_33 dX3_readCondition_33 h (fun a8 h => ?_)
    refine g_ldc2_w (v := 6385252) wd_1037 dX3_readCondition_36 ?_
    refine g_cI (ci := 8) (As := [.long 6385252]) mv_X3_69 dX3_readCondition_39 rfl (ok_X8_takeWord Θ a8 6385252 _ _) rfl rfl (Nat.le_of_ble_eq_true rfl) (by omega) (by decide) (by decide) h (fun x9 ω n h => ?_)
    refine G.less (B' := (0, 0)) (by decide) (by decide) ?_
    refine g_if_eq (tgt := 69) dX3_readCondition_42 (by decide) (fun c10 => ?_) (fun c10 => ?_)
    · rw [if_pos c10] at h
      refine G.lsub [0, 1, 2, 3] rfl ?_
      exact ok_J_X3_readCondition_69 Θ rcA dA hA k_4 hk_4 l0 l1 l2 l3 _ _ r h
    · rw [if_neg c10] at h
      refine g_aload_n dX3_readCondition_45 rfl 0 rfl ?_
      refine g_iload_n dX3_readCondition_46 rfl 1 rfl ?_
      refine g_cI (ci := 3) (As := [.int l1]) mv_X3_89 dX3_readCondition_47 rfl (hA l0 l1 _ _) rfl rfl (Nat.le_of_ble_eq_true rfl) (by omega) (by decide) (by decide) h (fun x11 ω n h => ?_)
      refine G.less (B' := (0, 0)) (by decide) (by decide) ?_
      refine g_if_eq (tgt := 61) dX3_readCondition_50 (by decide) (fun c12 => ?_) (fun c12 => ?_)
      · rw [if_pos c12] at h
        refine G.lsub [] rfl ?_
        exact ok_J_X3_readCondition_61 Θ rcA dA hA _ _ r h
      · rw [if_neg c12] at h
        refine g_aload_n dX3_readCondition_53 rfl 0 rfl ?_
        refine g_iconst (v := 1) dX3_readCondition_54 (by decide) ?_
        refine g_cI (ci := 3) (As := [.int 1]) mv_X3_94 dX3_readCondition_55 rfl (ok_X3_write Θ l0 1 _ _) rfl rfl (Nat.le_of_ble_eq_true rfl) (by omega) (by decide) (by decide) h (fun x13 ω n h => ?_)
        refine G.less (B' := (0, 0)) (by decide) (by decide) ?_
        refine g_if_ne (tgt := 63) dX3_readCondition_58 (by decide) (fun c14 => ?_) (fun c14 => ?_)
        · rw [if_neg c14] at h
          refine g_iinc (j := 4) (v := l4 + 1) (lv' := [(4, .int (l4 + 1)), (0, .ref l0), (1, .int l1), (2, .int l2), (3, .int l3)]) dX3_readCondition_63 rfl rfl (by decide) rfl ?_
          refine g_goto (tgt := 24) dX3_readCondition_66 (by decide) ?_
          refine G.lsub [1, 2, 3, 4, 0] rfl ?_
          exact hk_24 l0 l1 l2 l3 (l4 + 1) _ _ r h
        · rw [if_pos c14] at h
          refine G.lsub [] rfl ?_
          exact ok_J_X3_readCondition_61 Θ rcA dA hA _ _ r h
theorem ok_L_X3_readCondition_24 (Θ : GP) (rcA : Nat → Int32 → OW → Nat → RO) (dA : Nat) (hA : ∀ l0 l1 ω n, Ok Θ dA 0 0 yX3_readAtom cX3_readAtom 3 (some .boolean) [.ref l0, .int l1] ω n (rcA l0 l1 ω n)) (k_4 : Nat → Int32 → Int32 → Int32 → OW → Nat → RO) (hk_4 : ∀ l0 l1 l2 l3 ω n r, k_4 l0 l1 l2 l3 ω n = some r → GR Θ yX3_readCondition cX3_readCondition 5 (some .boolean) (dA + 12) (0, 0) 4 [(0, .ref l0), (1, .int l1), (2, .int l2), (3, .int l3)] [] ω n r) : ∀ (f : Nat) (l0 : Nat) (l1 : Int32) (l2 : Int32) (l3 : Int32) (l4 : Int32) (ω : OW) (n : Nat) (r : Out), L_X3_readCondition_24 Θ rcA k_4 f l0 l1 l2 l3 l4 ω n = some r → GR Θ yX3_readCondition cX3_readCondition 5 (some .boolean) (dA + 12) (0, 0) 24 [(0, .ref l0), (1, .int l1), (2, .int l2), (3, .int l3), (4, .int l4)] [] ω n r := by
  intro f
  induction f with
  | zero =>
    intro l0 l1 l2 l3 l4 ω n r h
    unfold L_X3_readCondition_24 at h
    cases h
  | succ f ih =>
    intro l0 l1 l2 l3 l4 ω n r h
    unfold L_X3_readCondition_24 at h
    exact ok_B_X3_readCondition_24 Θ rcA dA hA k_4 (L_X3_readCondition_24 Θ rcA k_4 f) hk_4 ih l0 l1 l2 l3 l4 ω n r h
theorem ok_B_X3_readCondition_4 (Θ : GP) (rcA : Nat → Int32 → OW → Nat → RO) (dA : Nat) (hA : ∀ l0 l1 ω n, Ok Θ dA 0 0 yX3_readAtom cX3_readAtom 3 (some .boolean) [.ref l0, .int l1] ω n (rcA l0 l1 ω n)) (k_4 : Nat → Int32 → Int32 → Int32 → OW → Nat → RO) (hk_4 : ∀ l0 l1 l2 l3 ω n r, k_4 l0 l1 l2 l3 ω n = some r → GR Θ yX3_readCondition cX3_readCondition 5 (some .boolean) (dA + 12) (0, 0) 4 [(0, .ref l0), (1, .int l1), (2, .int l2), (3, .int l3)] [] ω n r) (l0 : Nat) (l1 : Int32) (l2 : Int32) (l3 : Int32) (ω : OW) (n : Nat) (r : Out) (h : B_X3_readCondition_4 Θ rcA k_4 l0 l1 l2 l3 ω n = some r) : GR Θ yX3_readCondition cX3_readCondition 5 (some .boolean) (dA + 12) (0, 0) 4 [(0, .ref l0), (1, .int l1), (2, .int l2), (3, .int l3)] [] ω n r := by
  unfold B_X3_readCondition_4 at h
  refine g_iload_n dX3_readCondition_4 rfl 3 rfl ?_
  refine g_sipush (v := 400) dX3_readCondition_5 (by decide) ?_
  refine g_icmp_ge (tgt := 106) dX3_readCondition_8 (by decide) (fun c15 => ?_) (fun c15 => ?_)
  · rw [if_pos c15] at h
    refine g_iconst (v := 0) dX3_readCondition_106 (by decide) ?_
    cases h
    exact g_zret rfl rfl dX3_readCondition_107 rfl
  · rw [if_neg c15] at h
    refine g_aload_n dX3_readCondition_11 rfl 0 rfl ?_
    refine g_iload_n dX3_readCondition_12 rfl 1 rfl ?_
    refine g_cI (ci := 3) (As := [.int l1]) mv_X3_89 dX3_readCondition_13 rfl (hA l0 l1 _ _) rfl rfl (Nat.le_of_ble_eq_true rfl) (by omega) (by decide) (by decide) h (fun x16 ω n h => ?_)
    refine G.less (B' := (0, 0)) (by decide) (by decide) ?_
    refine g_if_ne (tgt := 21) dX3_readCondition_16 (by decide) (fun c17 => ?_) (fun c17 => ?_)
    · rw [if_neg c17] at h
      refine g_iconst (v := 0) dX3_readCondition_21 (by decide) ?_
      refine g_istore (lv' := [(4, .int 0), (0, .ref l0), (1, .int l1), (2, .int l2), (3, .int l3)]) dX3_readCondition_22 (by decide) rfl ?_
      refine G.lsub [1, 2, 3, 4, 0] rfl ?_
      exact ok_L_X3_readCondition_24 Θ rcA dA hA k_4 hk_4 5000 l0 l1 l2 l3 0 _ _ r h
    · rw [if_pos c17] at h
      refine g_iconst (v := 0) dX3_readCondition_19 (by decide) ?_
      cases h
      exact g_zret rfl rfl dX3_readCondition_20 rfl
theorem ok_L_X3_readCondition_4 (Θ : GP) (rcA : Nat → Int32 → OW → Nat → RO) (dA : Nat) (hA : ∀ l0 l1 ω n, Ok Θ dA 0 0 yX3_readAtom cX3_readAtom 3 (some .boolean) [.ref l0, .int l1] ω n (rcA l0 l1 ω n)) : ∀ (f : Nat) (l0 : Nat) (l1 : Int32) (l2 : Int32) (l3 : Int32) (ω : OW) (n : Nat) (r : Out), L_X3_readCondition_4 Θ rcA f l0 l1 l2 l3 ω n = some r → GR Θ yX3_readCondition cX3_readCondition 5 (some .boolean) (dA + 12) (0, 0) 4 [(0, .ref l0), (1, .int l1), (2, .int l2), (3, .int l3)] [] ω n r := by
  intro f
  induction f with
  | zero =>
    intro l0 l1 l2 l3 ω n r h
    unfold L_X3_readCondition_4 at h
    cases h
  | succ f ih =>
    intro l0 l1 l2 l3 ω n r h
    unfold L_X3_readCondition_4 at h
    exact ok_B_X3_readCondition_4 Θ rcA dA hA (L_X3_readCondition_4 Θ rcA f) ih l0 l1 l2 l3 ω n r h
theorem ok_X3_readCondition (Θ : GP) (rcA : Nat → Int32 → OW → Nat → RO) (dA : Nat) (hA : ∀ l0 l1 ω n, Ok Θ dA 0 0 yX3_readAtom cX3_readAtom 3 (some .boolean) [.ref l0, .int l1] ω n (rcA l0 l1 ω n)) (l0 : Nat) (l1 : Int32) (ω : OW) (n : Nat) : Ok Θ (dA + 12) 0 0 yX3_readCondition cX3_readCondition 5 (some .boolean) [.ref l0, .int l1] ω n (F_X3_readCondition Θ rcA l0 l1 ω n) := by
  refine Ok.of (by decide +kernel) (Nat.le_of_ble_eq_true rfl) (fun r h => ?_)
  unfold F_X3_readCondition at h
  show GR Θ yX3_readCondition cX3_readCondition 5 (some .boolean) (dA + 12) (0, 0) 0 [(0, .ref l0), (1, .int l1)] [] ω n r
  refine g_iconst (v := 0) dX3_readCondition_0 (by decide) ?_
  refine g_istore_n (lv' := [(2, .int 0), (0, .ref l0), (1, .int l1)]) dX3_readCondition_1 rfl (by decide) rfl ?_
  refine g_iconst (v := 0) dX3_readCondition_2 (by decide) ?_
  refine g_istore_n (lv' := [(3, .int 0), (2, .int 0), (0, .ref l0), (1, .int l1)]) dX3_readCondition_3 rfl (by decide) rfl ?_
  refine G.lsub [2, 3, 1, 0] rfl ?_
  exact ok_L_X3_readCondition_4 Θ rcA dA hA 5000 l0 l1 0 0 _ _ r h
def J_X3_readAtom_169 (Θ : GP) (rcA : Nat → Int32 → OW → Nat → RO) (s0 : Int32) (ω : OW) (n : Nat) : RO := bz s0 (some (.inl (some (.int s0), ω, n)))
def J_X3_readAtom_168 (Θ : GP) (rcA : Nat → Int32 → OW → Nat → RO) (ω : OW) (n : Nat) : RO := J_X3_readAtom_169 Θ rcA 0 ω n
def J_X3_readAtom_133 (Θ : GP) (rcA : Nat → Int32 → OW → Nat → RO) (s0 : Int32) (ω : OW) (n : Nat) : RO := bz s0 (some (.inl (some (.int s0), ω, n)))
def J_X3_readAtom_132 (Θ : GP) (rcA : Nat → Int32 → OW → Nat → RO) (ω : OW) (n : Nat) : RO := J_X3_readAtom_133 Θ rcA 0 ω n
def J_X3_readAtom_97 (Θ : GP) (rcA : Nat → Int32 → OW → Nat → RO) (s0 : Int32) (ω : OW) (n : Nat) : RO := bz s0 (some (.inl (some (.int s0), ω, n)))
def J_X3_readAtom_96 (Θ : GP) (rcA : Nat → Int32 → OW → Nat → RO) (ω : OW) (n : Nat) : RO := J_X3_readAtom_97 Θ rcA 0 ω n
def J_X3_readAtom_69 (Θ : GP) (rcA : Nat → Int32 → OW → Nat → RO) (s0 : Int32) (ω : OW) (n : Nat) : RO := bz s0 (some (.inl (some (.int s0), ω, n)))
def J_X3_readAtom_68 (Θ : GP) (rcA : Nat → Int32 → OW → Nat → RO) (ω : OW) (n : Nat) : RO := J_X3_readAtom_69 Θ rcA 0 ω n
def J_X3_readAtom_27 (Θ : GP) (rcA : Nat → Int32 → OW → Nat → RO) (l0 : Nat) (l1 : Int32) (l2 : Int32) (ω : OW) (n : Nat) : RO := if l1 < 6 then (rA ω l0 3 0 (fun a6 => cO ω a6 8 (kV (F_X8_advance Θ a6 ω n) (fun ω n => if l2 = 0 then (cO ω l0 3 (kI (F_X3_readCondition Θ rcA l0 (l1 + 1) ω n) (fun x9 ω n => if x9 = 0 then (J_X3_readAtom_96 Θ rcA ω n) else (rA ω l0 3 0 (fun a11 => cO ω a11 8 (kI (F_X8_takeSign Θ a11 41 ω n) (fun x12 ω n => if x12 = 0 then (J_X3_readAtom_96 Θ rcA ω n) else (J_X3_readAtom_97 Θ rcA 1 ω n)))))))) else (cO ω l0 3 (kI (rcA l0 (l1 + 1) ω n) (fun x14 ω n => if x14 = 0 then (J_X3_readAtom_68 Θ rcA ω n) else (cO ω l0 3 (kI (F_X3_write Θ l0 0 ω n) (fun x16 ω n => if x16 = 0 then (J_X3_readAtom_68 Θ rcA ω n) else (J_X3_readAtom_69 Θ rcA 1 ω n))))))))))) else (some (.inl (some (.int 0), ω, n)))
def FB_X3_readAtom (Θ : GP) (rcA : Nat → Int32 → OW → Nat → RO) (l0 : Nat) (l1 : Int32) (ω : OW) (n : Nat) : RO := rA ω l0 3 0 (fun a18 => cO ω a18 8 (kI (F_X8_isWord Θ a18 7237492 ω n) (fun x19 ω n => if x19 = 0 then (rA ω l0 3 0 (fun a21 => cO ω a21 8 (kI (F_X8_isSign Θ a21 40 ω n) (fun x22 ω n => if x22 = 0 then (rA ω l0 3 0 (fun a24 => cO ω a24 8 (kI (F_X8_takeWord Θ a24 461414299507 ω n) (fun x25 ω n => if x25 = 0 then (rA ω l0 3 0 (fun a27 => cO ω a27 8 (kI (F_X8_takeWord Θ a27 113753977549945 ω n) (fun x28 ω n => if x28 = 0 then (cO ω l0 3 (kI (F_X3_readComparison Θ l0 ω n) (fun x30 ω n => bz x30 (some (.inl (some (.int x30), ω, n)))))) else (cO ω l0 3 (kI (F_X3_write Θ l0 3 ω n) (fun x32 ω n => if x32 = 0 then (J_X3_readAtom_168 Θ rcA ω n) else (cO ω l0 3 (kI (F_X3_write Θ l0 7 ω n) (fun x34 ω n => if x34 = 0 then (J_X3_readAtom_168 Θ rcA ω n) else (J_X3_readAtom_169 Θ rcA 1 ω n))))))))))) else (cO ω l0 3 (kI (F_X3_write Θ l0 3 ω n) (fun x36 ω n => if x36 = 0 then (J_X3_readAtom_132 Θ rcA ω n) else (cO ω l0 3 (kI (F_X3_write Θ l0 6 ω n) (fun x38 ω n => if x38 = 0 then (J_X3_readAtom_132 Θ rcA ω n) else (J_X3_readAtom_133 Θ rcA 1 ω n))))))))))) else (J_X3_readAtom_27 Θ rcA l0 l1 x19 ω n))))) else (J_X3_readAtom_27 Θ rcA l0 l1 x19 ω n))))
def F_X3_readAtom (Θ : GP) : Nat → Nat → Int32 → OW → Nat → RO
  | 0, _, _, _, _ => none
  | f + 1, l0, l1, ω, n => FB_X3_readAtom Θ (F_X3_readAtom Θ f) l0 l1 ω n
theorem ok_J_X3_readAtom_169 (Θ : GP) (rcA : Nat → Int32 → OW → Nat → RO) (dA : Nat) (hA : ∀ l0 l1 ω n, Ok Θ dA 0 0 yX3_readAtom cX3_readAtom 3 (some .boolean) [.ref l0, .int l1] ω n (rcA l0 l1 ω n)) (s0 : Int32) (ω : OW) (n : Nat) (r : Out) (h : J_X3_readAtom_169 Θ rcA s0 ω n = some r) : GR Θ yX3_readAtom cX3_readAtom 3 (some .boolean) (dA + 24) (0, 0) 169 [] [.int s0] ω n r := by
  unfold J_X3_readAtom_169 at h
  obtain ⟨z1, h⟩ := bz_inv h
  cases h
  exact g_zret rfl z1 dX3_readAtom_169 rfl
theorem ok_J_X3_readAtom_168 (Θ : GP) (rcA : Nat → Int32 → OW → Nat → RO) (dA : Nat) (hA : ∀ l0 l1 ω n, Ok Θ dA 0 0 yX3_readAtom cX3_readAtom 3 (some .boolean) [.ref l0, .int l1] ω n (rcA l0 l1 ω n)) (ω : OW) (n : Nat) (r : Out) (h : J_X3_readAtom_168 Θ rcA ω n = some r) : GR Θ yX3_readAtom cX3_readAtom 3 (some .boolean) (dA + 24) (0, 0) 168 [] [] ω n r := by
  unfold J_X3_readAtom_168 at h
  refine g_iconst (v := 0) dX3_readAtom_168 (by decide) ?_
  exact ok_J_X3_readAtom_169 Θ rcA dA hA 0 _ _ r h
theorem ok_J_X3_readAtom_133 (Θ : GP) (rcA : Nat → Int32 → OW → Nat → RO) (dA : Nat) (hA : ∀ l0 l1 ω n, Ok Θ dA 0 0 yX3_readAtom cX3_readAtom 3 (some .boolean) [.ref l0, .int l1] ω n (rcA l0 l1 ω n)) (s0 : Int32) (ω : OW) (n : Nat) (r : Out) (h : J_X3_readAtom_133 Θ rcA s0 ω n = some r) : GR Θ yX3_readAtom cX3_readAtom 3 (some .boolean) (dA + 24) (0, 0) 133 [] [.int s0] ω n r := by
  unfold J_X3_readAtom_133 at h
  obtain ⟨z2, h⟩ := bz_inv h
  cases h
  exact g_zret rfl z2 dX3_readAtom_133 rfl
theorem ok_J_X3_readAtom_132 (Θ : GP) (rcA : Nat → Int32 → OW → Nat → RO) (dA : Nat) (hA : ∀ l0 l1 ω n, Ok Θ dA 0 0 yX3_readAtom cX3_readAtom 3 (some .boolean) [.ref l0, .int l1] ω n (rcA l0 l1 ω n)) (ω : OW) (n : Nat) (r : Out) (h : J_X3_readAtom_132 Θ rcA ω n = some r) : GR Θ yX3_readAtom cX3_readAtom 3 (some .boolean) (dA + 24) (0, 0) 132 [] [] ω n r := by
  unfold J_X3_readAtom_132 at h
  refine g_iconst (v := 0) dX3_readAtom_132 (by decide) ?_
  exact ok_J_X3_readAtom_133 Θ rcA dA hA 0 _ _ r h
theorem ok_J_X3_readAtom_97 (Θ : GP) (rcA : Nat → Int32 → OW → Nat → RO) (dA : Nat) (hA : ∀ l0 l1 ω n, Ok Θ dA 0 0 yX3_readAtom cX3_readAtom 3 (some .boolean) [.ref l0, .int l1] ω n (rcA l0 l1 ω n)) (s0 : Int32) (ω : OW) (n : Nat) (r : Out) (h : J_X3_readAtom_97 Θ rcA s0 ω n = some r) : GR Θ yX3_readAtom cX3_readAtom 3 (some .boolean) (dA + 24) (0, 0) 97 [] [.int s0] ω n r := by
  unfold J_X3_readAtom_97 at h
  obtain ⟨z3, h⟩ := bz_inv h
  cases h
  exact g_zret rfl z3 dX3_readAtom_97 rfl
theorem ok_J_X3_readAtom_96 (Θ : GP) (rcA : Nat → Int32 → OW → Nat → RO) (dA : Nat) (hA : ∀ l0 l1 ω n, Ok Θ dA 0 0 yX3_readAtom cX3_readAtom 3 (some .boolean) [.ref l0, .int l1] ω n (rcA l0 l1 ω n)) (ω : OW) (n : Nat) (r : Out) (h : J_X3_readAtom_96 Θ rcA ω n = some r) : GR Θ yX3_readAtom cX3_readAtom 3 (some .boolean) (dA + 24) (0, 0) 96 [] [] ω n r := by
  unfold J_X3_readAtom_96 at h
  refine g_iconst (v := 0) dX3_readAtom_96 (by decide) ?_
  exact ok_J_X3_readAtom_97 Θ rcA dA hA 0 _ _ r h
theorem ok_J_X3_readAtom_69 (Θ : GP) (rcA : Nat → Int32 → OW → Nat → RO) (dA : Nat) (hA : ∀ l0 l1 ω n, Ok Θ dA 0 0 yX3_readAtom cX3_readAtom 3 (some .boolean) [.ref l0, .int l1] ω n (rcA l0 l1 ω n)) (s0 : Int32) (ω : OW) (n : Nat) (r : Out) (h : J_X3_readAtom_69 Θ rcA s0 ω n = some r) : GR Θ yX3_readAtom cX3_readAtom 3 (some .boolean) (dA + 24) (0, 0) 69 [] [.int s0] ω n r := by
  unfold J_X3_readAtom_69 at h
  obtain ⟨z4, h⟩ := bz_inv h
  cases h
  exact g_zret rfl z4 dX3_readAtom_69 rfl
theorem ok_J_X3_readAtom_68 (Θ : GP) (rcA : Nat → Int32 → OW → Nat → RO) (dA : Nat) (hA : ∀ l0 l1 ω n, Ok Θ dA 0 0 yX3_readAtom cX3_readAtom 3 (some .boolean) [.ref l0, .int l1] ω n (rcA l0 l1 ω n)) (ω : OW) (n : Nat) (r : Out) (h : J_X3_readAtom_68 Θ rcA ω n = some r) : GR Θ yX3_readAtom cX3_readAtom 3 (some .boolean) (dA + 24) (0, 0) 68 [] [] ω n r := by
  unfold J_X3_readAtom_68 at h
  refine g_iconst (v := 0) dX3_readAtom_68 (by decide) ?_
  exact ok_J_X3_readAtom_69 Θ rcA dA hA 0 _ _ r h
theorem ok_J_X3_readAtom_27 (Θ : GP) (rcA : Nat → Int32 → OW → Nat → RO) (dA : Nat) (hA : ∀ l0 l1 ω n, Ok Θ dA 0 0 yX3_readAtom cX3_readAtom 3 (some .boolean) [.ref l0, .int l1] ω n (rcA l0 l1 ω n)) (l0 : Nat) (l1 : Int32) (l2 : Int32) (ω : OW) (n : Nat) (r : Out) (h : J_X3_readAtom_27 Θ rcA l0 l1 l2 ω n = some r) : GR Θ yX3_readAtom cX3_readAtom 3 (some .boolean) (dA + 24) (0, 0) 27 [(0, .ref l0), (1, .int l1), (2, .int l2)] [] ω n r := by
  unfold J_X3_readAtom_27 at h
  refine g_iload_n dX3_readAtom_27 rfl 1 rfl ?_
  refine g_bipush (v := 6) dX3_readAtom_28 (by decide) ?_
  refine g_icmp_lt (tgt := 35) dX3_readAtom_30 (by decide) (fun c5 => ?_) (fun c5 => ?_)
  · rw [if_pos c5] at h
    refine g_aload_n dX3_readAtom_35 rfl 0 rfl ?_
    refine g_rA fl_X3_33 dX3_readAtom_36 h (fun a6 h => ?_)
    refine g_cV (ci := 8) (As := []) mv_X3_81 dX3_readAtom_39 rfl (ok_X8_advance Θ a6 _ _) rfl rfl (Nat.le_of_ble_eq_true rfl) (by omega) (by decide) (by decide) h (fun ω n h => ?_)
    refine G.less (B' := (0, 0)) (by decide) (by decide) ?_
    refine g_iload_n dX3_readAtom_42 rfl 2 rfl ?_
    refine g_if_eq (tgt := 70) dX3_readAtom_43 (by decide) (fun c8 => ?_) (fun c8 => ?_)
    · rw [if_pos c8] at h
      refine g_aload_n dX3_readAtom_70 rfl 0 rfl ?_
      refine g_iload_n dX3_readAtom_71 rfl 1 rfl ?_
      refine g_iconst (v := 1) dX3_readAtom_72 (by decide) ?_
      refine g_iadd dX3_readAtom_73 ?_
      refine g_cI (ci := 3) (As := [.int (l1 + 1)]) mv_X3_86 dX3_readAtom_74 rfl (ok_X3_readCondition Θ rcA dA hA l0 (l1 + 1) _ _) rfl rfl (Nat.le_of_ble_eq_true rfl) (by omega) (by decide) (by decide) h (fun x9 ω n h => ?_)
      refine G.less (B' := (0, 0)) (by decide) (by decide) ?_
      refine g_if_eq (tgt := 96) dX3_readAtom_77 (by decide) (fun c10 => ?_) (fun c10 => ?_)
      · rw [if_pos c10] at h
        refine G.lsub [] rfl ?_
        exact ok_J_X3_readAtom_96 Θ rcA dA hA _ _ r h
      · rw [if_neg c10] at h
        refine g_aload_n dX3_readAtom_80 rfl 0 rfl ?_
        refine g_rA fl_X3_33 dX3_readAtom_81 h (fun a11 h => ?_)
        refine g_bipush (v := 41) dX3_readAtom_84 (by decide) ?_
        refine g_cI (ci := 8) (As := [.int 41]) mv_X3_54 dX3_readAtom_86 rfl (ok_X8_takeSign Θ a11 41 _ _) rfl rfl (Nat.le_of_ble_eq_true rfl) (by omega) (by decide) (by decide) h (fun x12 ω n h => ?_)
        refine G.less (B' := (0, 0)) (by decide) (by decide) ?_
        refine g_if_eq (tgt := 96) dX3_readAtom_89 (by decide) (fun c13 => ?_) (fun c13 => ?_)
        · rw [if_pos c13] at h
          refine G.lsub [] rfl ?_
          exact ok_J_X3_readAtom_96 Θ rcA dA hA _ _ r h
        · rw [if_neg c13] at h
          refine g_iconst (v := 1) dX3_readAtom_92 (by decide) ?_
          refine g_goto (tgt := 97) dX3_readAtom_93 (by decide) ?_
          refine G.lsub [] rfl ?_
          exact ok_J_X3_readAtom_97 Θ rcA dA hA 1 _ _ r h
    · rw [if_neg c8] at h
      refine g_aload_n dX3_readAtom_46 rfl 0 rfl ?_
      refine g_iload_n dX3_readAtom_47 rfl 1 rfl ?_
      refine g_iconst (v := 1) dX3_readAtom_48 (by decide) ?_
      refine g_iadd dX3_readAtom_49 ?_
      refine g_cI (ci := 3) (As := [.int (l1 + 1)]) mv_X3_89 dX3_readAtom_50 rfl (hA l0 (l1 + 1) _ _) rfl rfl (Nat.le_of_ble_eq_true rfl) (by omega) (by decide) (by decide) h (fun x14 ω n h => ?_)
      refine G.less (B' := (0, 0)) (by decide) (by decide) ?_
      refine g_if_eq (tgt := 68) dX3_readAtom_53 (by decide) (fun c15 => ?_) (fun c15 => ?_)
      · rw [if_pos c15] at h
        refine G.lsub [] rfl ?_
        exact ok_J_X3_readAtom_68 Θ rcA dA hA _ _ r h
      · rw [if_neg c15] at h
        refine g_aload_n dX3_readAtom_56 rfl 0 rfl ?_
        refine g_iconst (v := 0) dX3_readAtom_57 (by decide) ?_
        refine g_cI (ci := 3) (As := [.int 0]) mv_X3_94 dX3_readAtom_58 rfl (ok_X3_write Θ l0 0 _ _) rfl rfl (Nat.le_of_ble_eq_true rfl) (by omega) (by decide) (by decide) h (fun x16 ω n h => ?_)
        refine G.less (B' := (0, 0)) (by decide) (by decide) ?_
        refine g_if_eq (tgt := 68) dX3_readAtom_61 (by decide) (fun c17 => ?_) (fun c17 => ?_)
        · rw [if_pos c17] at h
          refine G.lsub [] rfl ?_
          exact ok_J_X3_readAtom_68 Θ rcA dA hA _ _ r h
        · rw [if_neg c17] at h
          refine g_iconst (v := 1) dX3_readAtom_64 (by decide) ?_
          refine g_goto (tgt := 69) dX3_readAtom_65 (by decide) ?_
          refine G.lsub [] rfl ?_
          exact ok_J_X3_readAtom_69 Θ rcA dA hA 1 _ _ r h
  · rw [if_neg c5] at h
    refine g_iconst (v := 0) dX3_readAtom_33 (by decide) ?_
    cases h
    exact g_zret rfl rfl dX3_readAtom_34 rfl
theorem ok_FB_X3_readAtom (Θ : GP) (rcA : Nat → Int32 → OW → Nat → RO) (dA : Nat) (hA : ∀ l0 l1 ω n, Ok Θ dA 0 0 yX3_readAtom cX3_readAtom 3 (some .boolean) [.ref l0, .int l1] ω n (rcA l0 l1 ω n)) (l0 : Nat) (l1 : Int32) (ω : OW) (n : Nat) : Ok Θ (dA + 24) 0 0 yX3_readAtom cX3_readAtom 3 (some .boolean) [.ref l0, .int l1] ω n (FB_X3_readAtom Θ rcA l0 l1 ω n) := by
  refine Ok.of (by decide +kernel) (Nat.le_of_ble_eq_true rfl) (fun r h => ?_)
  unfold FB_X3_readAtom at h
  show GR Θ yX3_readAtom cX3_readAtom 3 (some .boolean) (dA + 24) (0, 0) 0 [(0, .ref l0), (1, .int l1)] [] ω n r
  refine g_aload_n dX3_readAtom_0 rfl 0 rfl ?_
  refine g_rA fl_X3_33 dX3_readAtom_1 h (fun a18 h => ?_)
  refine g_ldc2_w (v := 7237492) wd_1013 dX3_readAtom_4 ?_
  refine g_cI (ci := 8) (As := [.long 7237492]) mv_X3_101 dX3_readAtom_7 rfl (ok_X8_isWord Θ a18 7237492 _ _) rfl rfl (Nat.le_of_ble_eq_true rfl) (by omega) (by decide) (by decide) h (fun x19 ω n h => ?_)
  refine G.less (B' := (0, 0)) (by decide) (by decide) ?_
  refine g_istore_n (lv' := [(2, .int x19), (0, .ref l0), (1, .int l1)]) dX3_readAtom_10 rfl (by decide) rfl ?_
  refine g_iload_n dX3_readAtom_11 rfl 0 rfl ?_
  refine g_if_ne (tgt := 27) dX3_readAtom_12 (by decide) (fun c20 => ?_) (fun c20 => ?_)
  · rw [if_neg c20] at h
    refine G.lsub [1, 2, 0] rfl ?_
    exact ok_J_X3_readAtom_27 Θ rcA dA hA l0 l1 x19 _ _ r h
  · rw [if_pos c20] at h
    refine g_aload_n dX3_readAtom_15 rfl 1 rfl ?_
    refine g_rA fl_X3_33 dX3_readAtom_16 h (fun a21 h => ?_)
    refine g_bipush (v := 40) dX3_readAtom_19 (by decide) ?_
    refine g_cI (ci := 8) (As := [.int 40]) mv_X3_104 dX3_readAtom_21 rfl (ok_X8_isSign Θ a21 40 _ _) rfl rfl (Nat.le_of_ble_eq_true rfl) (by omega) (by decide) (by decide) h (fun x22 ω n h => ?_)
    refine G.less (B' := (0, 0)) (by decide) (by decide) ?_
    refine g_if_eq (tgt := 98) dX3_readAtom_24 (by decide) (fun c23 => ?_) (fun c23 => ?_)
    · rw [if_pos c23] at h
      refine g_aload_n dX3_readAtom_98 rfl 1 rfl ?_
      refine g_rA fl_X3_33 dX3_readAtom_99 h (fun a24 h => ?_)
      refine g_ldc2_w (v := 461414299507) wd_1021 dX3_readAtom_102 ?_
      refine g_cI (ci := 8) (As := [.long 461414299507]) mv_X3_69 dX3_readAtom_105 rfl (ok_X8_takeWord Θ a24 461414299507 _ _) rfl rfl (Nat.le_of_ble_eq_true rfl) (by omega) (by decide) (by decide) h (fun x25 ω n h => ?_)
      refine G.less (B' := (0, 0)) (by decide) (by decide) ?_
      refine g_if_eq (tgt := 134) dX3_readAtom_108 (by decide) (fun c26 => ?_) (fun c26 => ?_)
      · rw [if_pos c26] at h
        refine g_aload_n dX3_readAtom_134 rfl 1 rfl ?_
        refine g_rA fl_X3_33 dX3_readAtom_135 h (fun a27 h => ?_)
        refine g_ldc2_w (v := 113753977549945) wd_1022 dX3_readAtom_138 ?_
        refine g_cI (ci := 8) (As := [.long 113753977549945]) mv_X3_69 dX3_readAtom_141 rfl (ok_X8_takeWord Θ a27 113753977549945 _ _) rfl rfl (Nat.le_of_ble_eq_true rfl) (by omega) (by decide) (by decide) h (fun x28 ω n h => ?_)
        refine G.less (B' := (0, 0)) (by decide) (by decide) ?_
        refine g_if_eq (tgt := 170) dX3_readAtom_144 (by decide) (fun c29 => ?_) (fun c29 => ?_)
        · rw [if_pos c29] at h
          refine g_aload_n dX3_readAtom_170 rfl 1 rfl ?_
          refine g_cI (ci := 3) (As := []) mv_X3_111 dX3_readAtom_171 rfl (ok_X3_readComparison Θ l0 _ _) rfl rfl (Nat.le_of_ble_eq_true rfl) (by omega) (by decide) (by decide) h (fun x30 ω n h => ?_)
          refine G.less (B' := (0, 0)) (by decide) (by decide) ?_
          obtain ⟨z31, h⟩ := bz_inv h
          cases h
          exact g_zret rfl z31 dX3_readAtom_174 rfl
        · rw [if_neg c29] at h
          refine g_aload_n dX3_readAtom_147 rfl 1 rfl ?_
          refine g_iconst (v := 3) dX3_readAtom_148 (by decide) ?_
          refine g_cI (ci := 3) (As := [.int 3]) mv_X3_94 dX3_readAtom_149 rfl (ok_X3_write Θ l0 3 _ _) rfl rfl (Nat.le_of_ble_eq_true rfl) (by omega) (by decide) (by decide) h (fun x32 ω n h => ?_)
          refine G.less (B' := (0, 0)) (by decide) (by decide) ?_
          refine g_if_eq (tgt := 168) dX3_readAtom_152 (by decide) (fun c33 => ?_) (fun c33 => ?_)
          · rw [if_pos c33] at h
            refine G.lsub [] rfl ?_
            exact ok_J_X3_readAtom_168 Θ rcA dA hA _ _ r h
          · rw [if_neg c33] at h
            refine g_aload_n dX3_readAtom_155 rfl 1 rfl ?_
            refine g_bipush (v := 7) dX3_readAtom_156 (by decide) ?_
            refine g_cI (ci := 3) (As := [.int 7]) mv_X3_94 dX3_readAtom_158 rfl (ok_X3_write Θ l0 7 _ _) rfl rfl (Nat.le_of_ble_eq_true rfl) (by omega) (by decide) (by decide) h (fun x34 ω n h => ?_)
            refine G.less (B' := (0, 0)) (by decide) (by decide) ?_
            refine g_if_eq (tgt := 168) dX3_readAtom_161 (by decide) (fun c35 => ?_) (fun c35 => ?_)
            · rw [if_pos c35] at h
              refine G.lsub [] rfl ?_
              exact ok_J_X3_readAtom_168 Θ rcA dA hA _ _ r h
            · rw [if_neg c35] at h
              refine g_iconst (v := 1) dX3_readAtom_164 (by decide) ?_
              refine g_goto (tgt := 169) dX3_readAtom_165 (by decide) ?_
              refine G.lsub [] rfl ?_
              exact ok_J_X3_readAtom_169 Θ rcA dA hA 1 _ _ r h
      · rw [if_neg c26] at h
        refine g_aload_n dX3_readAtom_111 rfl 1 rfl ?_
        refine g_iconst (v := 3) dX3_readAtom_112 (by decide) ?_
        refine g_cI (ci := 3) (As := [.int 3]) mv_X3_94 dX3_readAtom_113 rfl (ok_X3_write Θ l0 3 _ _) rfl rfl (Nat.le_of_ble_eq_true rfl) (by omega) (by decide) (by decide) h (fun x36 ω n h => ?_)
        refine G.less (B' := (0, 0)) (by decide) (by decide) ?_
        refine g_if_eq (tgt := 132) dX3_readAtom_116 (by decide) (fun c37 => ?_) (fun c37 => ?_)
        · rw [if_pos c37] at h
          refine G.lsub [] rfl ?_
          exact ok_J_X3_readAtom_132 Θ rcA dA hA _ _ r h
        · rw [if_neg c37] at h
          refine g_aload_n dX3_readAtom_119 rfl 1 rfl ?_
          refine g_bipush (v := 6) dX3_readAtom_120 (by decide) ?_
          refine g_cI (ci := 3) (As := [.int 6]) mv_X3_94 dX3_readAtom_122 rfl (ok_X3_write Θ l0 6 _ _) rfl rfl (Nat.le_of_ble_eq_true rfl) (by omega) (by decide) (by decide) h (fun x38 ω n h => ?_)
          refine G.less (B' := (0, 0)) (by decide) (by decide) ?_
          refine g_if_eq (tgt := 132) dX3_readAtom_125 (by decide) (fun c39 => ?_) (fun c39 => ?_)
          · rw [if_pos c39] at h
            refine G.lsub [] rfl ?_
            exact ok_J_X3_readAtom_132 Θ rcA dA hA _ _ r h
          · rw [if_neg c39] at h
            refine g_iconst (v := 1) dX3_readAtom_128 (by decide) ?_
            refine g_goto (tgt := 133) dX3_readAtom_129 (by decide) ?_
            refine G.lsub [] rfl ?_
            exact ok_J_X3_readAtom_133 Θ rcA dA hA 1 _ _ r h
    · rw [if_neg c23] at h
      refine G.lsub [1, 2, 0] rfl ?_
      exact ok_J_X3_readAtom_27 Θ rcA dA hA l0 l1 x19 _ _ r h
theorem ok_X3_readAtom (Θ : GP) : ∀ (f : Nat) (l0 : Nat) (l1 : Int32) (ω : OW) (n : Nat), Ok Θ (24 * f) 0 0 yX3_readAtom cX3_readAtom 3 (some .boolean) [.ref l0, .int l1] ω n (F_X3_readAtom Θ f l0 l1 ω n) := by
  intro f
  induction f with
  | zero =>
    intro l0 l1 ω n r h
    unfold F_X3_readAtom at h
    cases h
  | succ f ih =>
    intro l0 l1 ω n r h
    unfold F_X3_readAtom at h
    exact ok_FB_X3_readAtom Θ (F_X3_readAtom Θ f) (24 * f) ih l0 l1 ω n r h
def J_X3_readLine_129 (Θ : GP) (s0 : Int32) (ω : OW) (n : Nat) : RO := bz s0 (some (.inl (some (.int s0), ω, n)))
def J_X3_readLine_124 (Θ : GP) (ω : OW) (n : Nat) : RO := J_X3_readLine_129 Θ 1 ω n
def J_X3_readLine_71 (Θ : GP) (l0 : Nat) (l1 : Int32) (ω : OW) (n : Nat) : RO := rA ω l0 3 0 (fun a2 => cO ω a2 8 (kI (F_X8_number Θ a2 0 30 ω n) (fun x3 ω n => if x3 = (-1) then (some (.inl (some (.int 0), ω, n))) else (rA ω l0 3 4 (fun a5 => sI ω (gI Θ) a5 l1 x3 (fun ω => rA ω l0 3 0 (fun a6 => cO ω a6 8 (kV (F_X8_advance Θ a6 ω n) (fun ω n => rA ω l0 3 0 (fun a8 => cO ω a8 8 (kI (F_X8_takeWord Θ a8 26982 ω n) (fun x9 ω n => if x9 = 0 then (J_X3_readLine_124 Θ ω n) else (cO ω l0 3 (kI (F_X3_readCondition Θ (F_X3_readAtom Θ 8) l0 0 ω n) (fun x11 ω n => if x11 = 0 then (J_X3_readLine_129 Θ 0 ω n) else (J_X3_readLine_124 Θ ω n))))))))))))))))
def F_X3_readLine (Θ : GP) (l0 : Nat) (l1 : Int32) (ω : OW) (n : Nat) : RO := rA ω l0 3 0 (fun a13 => cO ω a13 8 (kI (F_X8_takeWord Θ a13 112641580689524 ω n) (fun x14 ω n => if x14 = 0 then (rA ω l0 3 0 (fun a16 => cO ω a16 8 (kI (F_X8_takeWord Θ a16 1700885349 ω n) (fun x17 ω n => if x17 = 0 then (rA ω l0 3 0 (fun a19 => cO ω a19 8 (kI (F_X8_takeWord Θ a19 2003132786 ω n) (fun x20 ω n => if x20 = 0 then (some (.inl (some (.int 0), ω, n))) else (rA ω l0 3 3 (fun a22 => sI ω (gI Θ) a22 l1 2 (fun ω => J_X3_readLine_71 Θ l0 l1 ω n))))))) else (rA ω l0 3 3 (fun a23 => sI ω (gI Θ) a23 l1 1 (fun ω => J_X3_readLine_71 Θ l0 l1 ω n))))))) else (rA ω l0 3 3 (fun a24 => sI ω (gI Θ) a24 l1 0 (fun ω => J_X3_readLine_71 Θ l0 l1 ω n))))))
theorem ok_J_X3_readLine_129 (Θ : GP) (s0 : Int32) (ω : OW) (n : Nat) (r : Out) (h : J_X3_readLine_129 Θ s0 ω n = some r) : GR Θ yX3_readLine cX3_readLine 3 (some .boolean) 205 (0, 0) 129 [] [.int s0] ω n r := by
  unfold J_X3_readLine_129 at h
  obtain ⟨z1, h⟩ := bz_inv h
  cases h
  exact g_zret rfl z1 dX3_readLine_129 rfl
theorem ok_J_X3_readLine_124 (Θ : GP) (ω : OW) (n : Nat) (r : Out) (h : J_X3_readLine_124 Θ ω n = some r) : GR Θ yX3_readLine cX3_readLine 3 (some .boolean) 205 (0, 0) 124 [] [] ω n r := by
  unfold J_X3_readLine_124 at h
  refine g_iconst (v := 1) dX3_readLine_124 (by decide) ?_
  refine g_goto (tgt := 129) dX3_readLine_125 (by decide) ?_
  exact ok_J_X3_readLine_129 Θ 1 _ _ r h
theorem ok_J_X3_readLine_71 (Θ : GP) (l0 : Nat) (l1 : Int32) (ω : OW) (n : Nat) (r : Out) (h : J_X3_readLine_71 Θ l0 l1 ω n = some r) : GR Θ yX3_readLine cX3_readLine 3 (some .boolean) 205 (0, 0) 71 [(0, .ref l0), (1, .int l1)] [] ω n r := by
  unfold J_X3_readLine_71 at h
  refine g_aload_n dX3_readLine_71 rfl 0 rfl ?_
  refine g_rA fl_X3_33 dX3_readLine_72 h (fun a2 h => ?_)
  refine g_iconst (v := 0) dX3_readLine_75 (by decide) ?_
  refine g_bipush (v := 30) dX3_readLine_76 (by decide) ?_
  refine g_cI (ci := 8) (As := [.int 0, .int 30]) mv_X3_77 dX3_readLine_78 rfl (ok_X8_number Θ a2 0 30 _ _) rfl rfl (Nat.le_of_ble_eq_true rfl) (by decide) (by decide) (by decide) h (fun x3 ω n h => ?_)
  refine G.less (B' := (0, 0)) (by decide) (by decide) ?_
  refine g_istore_n (lv' := [(2, .int x3), (0, .ref l0), (1, .int l1)]) dX3_readLine_81 rfl (by decide) rfl ?_
  refine g_iload_n dX3_readLine_82 rfl 0 rfl ?_
  refine g_iconst (v := (-1)) dX3_readLine_83 (by decide) ?_
  refine g_icmp_ne (tgt := 89) dX3_readLine_84 (by decide) (fun c4 => ?_) (fun c4 => ?_)
  · rw [if_neg c4] at h
    refine g_aload_n dX3_readLine_89 rfl 1 rfl ?_
    refine g_rA fl_X3_24 dX3_readLine_90 h (fun a5 h => ?_)
    refine g_iload_n dX3_readLine_93 rfl 2 rfl ?_
    refine g_iload_n dX3_readLine_94 rfl 0 rfl ?_
    refine g_sIi dX3_readLine_95 h (fun ω h => ?_)
    refine g_aload_n dX3_readLine_96 rfl 1 rfl ?_
    refine g_rA fl_X3_33 dX3_readLine_97 h (fun a6 h => ?_)
    refine g_cV (ci := 8) (As := []) mv_X3_81 dX3_readLine_100 rfl (ok_X8_advance Θ a6 _ _) rfl rfl (Nat.le_of_ble_eq_true rfl) (by decide) (by decide) (by decide) h (fun ω n h => ?_)
    refine G.less (B' := (0, 0)) (by decide) (by decide) ?_
    refine g_aload_n dX3_readLine_103 rfl 1 rfl ?_
    refine g_rA fl_X3_33 dX3_readLine_104 h (fun a8 h => ?_)
    refine g_ldc2_w (v := 26982) wd_1004 dX3_readLine_107 ?_
    refine g_cI (ci := 8) (As := [.long 26982]) mv_X3_69 dX3_readLine_110 rfl (ok_X8_takeWord Θ a8 26982 _ _) rfl rfl (Nat.le_of_ble_eq_true rfl) (by decide) (by decide) (by decide) h (fun x9 ω n h => ?_)
    refine G.less (B' := (0, 0)) (by decide) (by decide) ?_
    refine g_if_eq (tgt := 124) dX3_readLine_113 (by decide) (fun c10 => ?_) (fun c10 => ?_)
    · rw [if_pos c10] at h
      refine G.lsub [] rfl ?_
      exact ok_J_X3_readLine_124 Θ _ _ r h
    · rw [if_neg c10] at h
      refine g_aload_n dX3_readLine_116 rfl 1 rfl ?_
      refine g_iconst (v := 0) dX3_readLine_117 (by decide) ?_
      refine g_cI (ci := 3) (As := [.int 0]) mv_X3_86 dX3_readLine_118 rfl (ok_X3_readCondition Θ (F_X3_readAtom Θ 8) 192 (ok_X3_readAtom Θ 8) l0 0 _ _) rfl rfl (Nat.le_of_ble_eq_true rfl) (by decide) (by decide) (by decide) h (fun x11 ω n h => ?_)
      refine G.less (B' := (0, 0)) (by decide) (by decide) ?_
      refine g_if_eq (tgt := 128) dX3_readLine_121 (by decide) (fun c12 => ?_) (fun c12 => ?_)
      · rw [if_pos c12] at h
        refine g_iconst (v := 0) dX3_readLine_128 (by decide) ?_
        refine G.lsub [] rfl ?_
        exact ok_J_X3_readLine_129 Θ 0 _ _ r h
      · rw [if_neg c12] at h
        refine G.lsub [] rfl ?_
        exact ok_J_X3_readLine_124 Θ _ _ r h
  · rw [if_pos c4] at h
    refine g_iconst (v := 0) dX3_readLine_87 (by decide) ?_
    cases h
    exact g_zret rfl rfl dX3_readLine_88 rfl
theorem ok_X3_readLine (Θ : GP) (l0 : Nat) (l1 : Int32) (ω : OW) (n : Nat) : Ok Θ 205 0 0 yX3_readLine cX3_readLine 3 (some .boolean) [.ref l0, .int l1] ω n (F_X3_readLine Θ l0 l1 ω n) := by
  refine Ok.of (by decide +kernel) (Nat.le_of_ble_eq_true rfl) (fun r h => ?_)
  unfold F_X3_readLine at h
  show GR Θ yX3_readLine cX3_readLine 3 (some .boolean) 205 (0, 0) 0 [(0, .ref l0), (1, .int l1)] [] ω n r
  refine g_aload_n dX3_readLine_0 rfl 0 rfl ?_
  refine g_rA fl_X3_33 dX3_readLine_1 h (fun a13 h => ?_)
  refine g_ldc2_w (v := 112641580689524) wd_998 dX3_readLine_4 ?_
  refine g_cI (ci := 8) (As := [.long 112641580689524]) mv_X3_69 dX3_readLine_7 rfl (ok_X8_takeWord Θ a13 112641580689524 _ _) rfl rfl (Nat.le_of_ble_eq_true rfl) (by decide) (by decide) (by decide) h (fun x14 ω n h => ?_)
  refine G.less (B' := (0, 0)) (by decide) (by decide) ?_
  refine g_if_eq (tgt := 23) dX3_readLine_10 (by decide) (fun c15 => ?_) (fun c15 => ?_)
  · rw [if_pos c15] at h
    refine g_aload_n dX3_readLine_23 rfl 0 rfl ?_
    refine g_rA fl_X3_33 dX3_readLine_24 h (fun a16 h => ?_)
    refine g_ldc2_w (v := 1700885349) wd_1000 dX3_readLine_27 ?_
    refine g_cI (ci := 8) (As := [.long 1700885349]) mv_X3_69 dX3_readLine_30 rfl (ok_X8_takeWord Θ a16 1700885349 _ _) rfl rfl (Nat.le_of_ble_eq_true rfl) (by decide) (by decide) (by decide) h (fun x17 ω n h => ?_)
    refine G.less (B' := (0, 0)) (by decide) (by decide) ?_
    refine g_if_eq (tgt := 46) dX3_readLine_33 (by decide) (fun c18 => ?_) (fun c18 => ?_)
    · rw [if_pos c18] at h
      refine g_aload_n dX3_readLine_46 rfl 0 rfl ?_
      refine g_rA fl_X3_33 dX3_readLine_47 h (fun a19 h => ?_)
      refine g_ldc2_w (v := 2003132786) wd_1001 dX3_readLine_50 ?_
      refine g_cI (ci := 8) (As := [.long 2003132786]) mv_X3_69 dX3_readLine_53 rfl (ok_X8_takeWord Θ a19 2003132786 _ _) rfl rfl (Nat.le_of_ble_eq_true rfl) (by decide) (by decide) (by decide) h (fun x20 ω n h => ?_)
      refine G.less (B' := (0, 0)) (by decide) (by decide) ?_
      refine g_if_eq (tgt := 69) dX3_readLine_56 (by decide) (fun c21 => ?_) (fun c21 => ?_)
      · rw [if_pos c21] at h
        refine g_iconst (v := 0) dX3_readLine_69 (by decide) ?_
        cases h
        exact g_zret rfl rfl dX3_readLine_70 rfl
      · rw [if_neg c21] at h
        refine g_aload_n dX3_readLine_59 rfl 0 rfl ?_
        refine g_rA fl_X3_20 dX3_readLine_60 h (fun a22 h => ?_)
        refine g_iload_n dX3_readLine_63 rfl 1 rfl ?_
        refine g_iconst (v := 2) dX3_readLine_64 (by decide) ?_
        refine g_sIi dX3_readLine_65 h (fun ω h => ?_)
        refine g_goto (tgt := 71) dX3_readLine_66 (by decide) ?_
        exact ok_J_X3_readLine_71 Θ l0 l1 _ _ r h
    · rw [if_neg c18] at h
      refine g_aload_n dX3_readLine_36 rfl 0 rfl ?_
      refine g_rA fl_X3_20 dX3_readLine_37 h (fun a23 h => ?_)
      refine g_iload_n dX3_readLine_40 rfl 1 rfl ?_
      refine g_iconst (v := 1) dX3_readLine_41 (by decide) ?_
      refine g_sIi dX3_readLine_42 h (fun ω h => ?_)
      refine g_goto (tgt := 71) dX3_readLine_43 (by decide) ?_
      exact ok_J_X3_readLine_71 Θ l0 l1 _ _ r h
  · rw [if_neg c15] at h
    refine g_aload_n dX3_readLine_13 rfl 0 rfl ?_
    refine g_rA fl_X3_20 dX3_readLine_14 h (fun a24 h => ?_)
    refine g_iload_n dX3_readLine_17 rfl 1 rfl ?_
    refine g_iconst (v := 0) dX3_readLine_18 (by decide) ?_
    refine g_sIi dX3_readLine_19 h (fun ω h => ?_)
    refine g_goto (tgt := 71) dX3_readLine_20 (by decide) ?_
    exact ok_J_X3_readLine_71 Θ l0 l1 _ _ r h
