def J_X11_isWord_67 (Θ : GP) (l2 : Int32) (ω : OW) (n : Nat) : RO := bz l2 (some (.inl (some (.int l2), ω, n)))
def J_X11_isWord_60 (Θ : GP) (k_24 : Nat → Nat → Int32 → Int32 → OW → Nat → RO) (l0 : Nat) (l1 : Nat) (l3 : Int32) (s0 : Int32) (ω : OW) (n : Nat) : RO := k_24 l0 l1 s0 (l3 + 1) ω n
def B_X11_isWord_24 (Θ : GP) (k_24 : Nat → Nat → Int32 → Int32 → OW → Nat → RO) (l0 : Nat) (l1 : Nat) (l2 : Int32) (l3 : Int32) (ω : OW) (n : Nat) : RO := if l2 = 0 then (J_X11_isWord_67 Θ l2 ω n) else (sL l1 (fun x3 => if x3 ≤ l3 then (J_X11_isWord_67 Θ l2 ω n) else (rA ω l0 11 8 (fun a5 => rI ω l0 11 12 (fun x6 => lI ω (gB Θ) a5 (x6 + l3) (fun x7 => sC l1 l3 (fun x8 => if x7 = x8 then (J_X11_isWord_60 Θ k_24 l0 l1 l3 1 ω n) else (J_X11_isWord_60 Θ k_24 l0 l1 l3 0 ω n))))))))
def L_X11_isWord_24 (Θ : GP) : Nat → Nat → Nat → Int32 → Int32 → OW → Nat → RO
  | 0, _, _, _, _, _, _ => none
  | f + 1, l0, l1, l2, l3, ω, n => B_X11_isWord_24 Θ (L_X11_isWord_24 Θ f) l0 l1 l2 l3 ω n
def J_X11_isWord_21 (Θ : GP) (l0 : Nat) (l1 : Nat) (s0 : Int32) (ω : OW) (n : Nat) : RO := L_X11_isWord_24 Θ 5000 l0 l1 s0 0 ω n
def F_X11_isWord (Θ : GP) (l0 : Nat) (l1 : Nat) (ω : OW) (n : Nat) : RO := rI ω l0 11 10 (fun x10 => rI ω l0 11 12 (fun x11 => sL l1 (fun x12 => if (x10 - x11) = x12 then (J_X11_isWord_21 Θ l0 l1 1 ω n) else (J_X11_isWord_21 Θ l0 l1 0 ω n))))
theorem ok_J_X11_isWord_67 (Θ : GP) (l2 : Int32) (ω : OW) (n : Nat) (r : Out) (h : J_X11_isWord_67 Θ l2 ω n = some r) : GR Θ yX11_isWord cX11_isWord 4 (some .boolean) 6 (0, 0) 67 [(2, .int l2)] [] ω n r := by
  unfold J_X11_isWord_67 at h
  refine g_iload_n dX11_isWord_67 rfl 0 rfl ?_
  obtain ⟨z1, h⟩ := bz_inv h
  cases h
  exact g_zret rfl z1 dX11_isWord_68 rfl
theorem ok_J_X11_isWord_60 (Θ : GP) (k_24 : Nat → Nat → Int32 → Int32 → OW → Nat → RO) (hk_24 : ∀ l0 l1 l2 l3 ω n r, k_24 l0 l1 l2 l3 ω n = some r → GR Θ yX11_isWord cX11_isWord 4 (some .boolean) 6 (0, 0) 24 [(0, .ref l0), (1, .ref (gK Θ l1)), (2, .int l2), (3, .int l3)] [] ω n r) (l0 : Nat) (l1 : Nat) (l3 : Int32) (s0 : Int32) (ω : OW) (n : Nat) (r : Out) (h : J_X11_isWord_60 Θ k_24 l0 l1 l3 s0 ω n = some r) : GR Θ yX11_isWord cX11_isWord 4 (some .boolean) 6 (0, 0) 60 [(0, .ref l0), (1, .ref (gK Θ l1)), (3, .int l3)] [.int s0] ω n r := by
  unfold J_X11_isWord_60 at h
  refine g_istore_n (lv' := [(2, .int s0), (0, .ref l0), (1, .ref (gK Θ l1)), (3, .int l3)]) dX11_isWord_60 rfl (by decide) rfl ?_
  refine g_iinc (j := 3) (v := l3 + 1) (lv' := [(3, .int (l3 + 1)), (2, .int s0), (0, .ref l0), (1, .ref (gK Θ l1))]) dX11_isWord_61 rfl rfl (by decide) rfl ?_
  refine g_goto (tgt := 24) dX11_isWord_64 (by decide) ?_
  refine G.lsub [2, 3, 1, 0] rfl ?_
  exact hk_24 l0 l1 s0 (l3 + 1) _ _ r h
theorem ok_B_X11_isWord_24 (Θ : GP) (k_24 : Nat → Nat → Int32 → Int32 → OW → Nat → RO) (hk_24 : ∀ l0 l1 l2 l3 ω n r, k_24 l0 l1 l2 l3 ω n = some r → GR Θ yX11_isWord cX11_isWord 4 (some .boolean) 6 (0, 0) 24 [(0, .ref l0), (1, .ref (gK Θ l1)), (2, .int l2), (3, .int l3)] [] ω n r) (l0 : Nat) (l1 : Nat) (l2 : Int32) (l3 : Int32) (ω : OW) (n : Nat) (r : Out) (h : B_X11_isWord_24 Θ k_24 l0 l1 l2 l3 ω n = some r) : GR Θ yX11_isWord cX11_isWord 4 (some .boolean) 6 (0, 0) 24 [(0, .ref l0), (1, .ref (gK Θ l1)), (2, .int l2), (3, .int l3)] [] ω n r := by
  unfold B_X11_isWord_24 at h
  refine g_iload_n dX11_isWord_24 rfl 2 rfl ?_
  refine g_if_eq (tgt := 67) dX11_isWord_25 (by decide) (fun c2 => ?_) (fun c2 => ?_)
  · rw [if_pos c2] at h
    refine G.lsub [2] rfl ?_
    exact ok_J_X11_isWord_67 Θ l2 _ _ r h
  · rw [if_neg c2] at h
    refine g_iload_n dX11_isWord_28 rfl 3 rfl ?_
    refine g_aload_n dX11_isWord_29 rfl 1 rfl ?_
    refine g_sLn mv_X11_118 dX11_isWord_30 (by decide) (Nat.le_of_ble_eq_true rfl) h (fun x3 h => ?_)
    refine g_icmp_ge (tgt := 67) dX11_isWord_33 (by decide) (fun c4 => ?_) (fun c4 => ?_)
    · rw [if_pos c4] at h
      refine G.lsub [2] rfl ?_
      exact ok_J_X11_isWord_67 Θ l2 _ _ r h
    · rw [if_neg c4] at h
      refine g_aload_n dX11_isWord_36 rfl 0 rfl ?_
      refine g_rA fl_X11_29 dX11_isWord_37 h (fun a5 h => ?_)
      refine g_aload_n dX11_isWord_40 rfl 0 rfl ?_
      refine g_rI fl_X11_112 dX11_isWord_41 h (fun x6 h => ?_)
      refine g_iload_n dX11_isWord_44 rfl 3 rfl ?_
      refine g_iadd dX11_isWord_45 ?_
      refine g_lIb dX11_isWord_46 h (fun x7 h => ?_)
      refine g_aload_n dX11_isWord_47 rfl 1 rfl ?_
      refine g_iload_n dX11_isWord_48 rfl 3 rfl ?_
      refine g_sCh mv_X11_123 dX11_isWord_49 (by decide) (Nat.le_of_ble_eq_true rfl) h (fun x8 h => ?_)
      refine g_icmp_ne (tgt := 59) dX11_isWord_52 (by decide) (fun c9 => ?_) (fun c9 => ?_)
      · rw [if_neg c9] at h
        refine g_iconst (v := 0) dX11_isWord_59 (by decide) ?_
        refine G.lsub [0, 1, 3] rfl ?_
        exact ok_J_X11_isWord_60 Θ k_24 hk_24 l0 l1 l3 0 _ _ r h
      · rw [if_pos c9] at h
        refine g_iconst (v := 1) dX11_isWord_55 (by decide) ?_
        refine g_goto (tgt := 60) dX11_isWord_56 (by decide) ?_
        refine G.lsub [0, 1, 3] rfl ?_
        exact ok_J_X11_isWord_60 Θ k_24 hk_24 l0 l1 l3 1 _ _ r h
theorem ok_L_X11_isWord_24 (Θ : GP) : ∀ (f : Nat) (l0 : Nat) (l1 : Nat) (l2 : Int32) (l3 : Int32) (ω : OW) (n : Nat) (r : Out), L_X11_isWord_24 Θ f l0 l1 l2 l3 ω n = some r → GR Θ yX11_isWord cX11_isWord 4 (some .boolean) 6 (0, 0) 24 [(0, .ref l0), (1, .ref (gK Θ l1)), (2, .int l2), (3, .int l3)] [] ω n r := by
  intro f
  induction f with
  | zero =>
    intro l0 l1 l2 l3 ω n r h
    unfold L_X11_isWord_24 at h
    cases h
  | succ f ih =>
    intro l0 l1 l2 l3 ω n r h
    unfold L_X11_isWord_24 at h
    exact ok_B_X11_isWord_24 Θ (L_X11_isWord_24 Θ f) ih l0 l1 l2 l3 ω n r h
theorem ok_J_X11_isWord_21 (Θ : GP) (l0 : Nat) (l1 : Nat) (s0 : Int32) (ω : OW) (n : Nat) (r : Out) (h : J_X11_isWord_21 Θ l0 l1 s0 ω n = some r) : GR Θ yX11_isWord cX11_isWord 4 (some .boolean) 6 (0, 0) 21 [(0, .ref l0), (1, .ref (gK Θ l1))] [.int s0] ω n r := by
  unfold J_X11_isWord_21 at h
  refine g_istore_n (lv' := [(2, .int s0), (0, .ref l0), (1, .ref (gK Θ l1))]) dX11_isWord_21 rfl (by decide) rfl ?_
  refine g_iconst (v := 0) dX11_isWord_22 (by decide) ?_
  refine g_istore_n (lv' := [(3, .int 0), (2, .int s0), (0, .ref l0), (1, .ref (gK Θ l1))]) dX11_isWord_23 rfl (by decide) rfl ?_
  refine G.lsub [2, 3, 1, 0] rfl ?_
  exact ok_L_X11_isWord_24 Θ 5000 l0 l1 s0 0 _ _ r h
theorem ok_X11_isWord (Θ : GP) (l0 : Nat) (l1 : Nat) (ω : OW) (n : Nat) : Ok Θ 6 0 0 yX11_isWord cX11_isWord 4 (some .boolean) [.ref l0, .ref (gK Θ l1)] ω n (F_X11_isWord Θ l0 l1 ω n) := by
  refine Ok.of (by decide +kernel) (Nat.le_of_ble_eq_true rfl) (fun r h => ?_)
  unfold F_X11_isWord at h
  show GR Θ yX11_isWord cX11_isWord 4 (some .boolean) 6 (0, 0) 0 [(0, .ref l0), (1, .ref (gK Θ l1))] [] ω n r
  refine g_aload_n dX11_isWord_0 rfl 0 rfl ?_
  refine g_rI fl_X11_102 dX11_isWord_1 h (fun x10 h => ?_)
  refine g_aload_n dX11_isWord_4 rfl 0 rfl ?_
  refine g_rI fl_X11_112 dX11_isWord_5 h (fun x11 h => ?_)
  refine g_isub dX11_isWord_8 ?_
  refine g_aload_n dX11_isWord_9 rfl 1 rfl ?_
  refine g_sLn mv_X11_118 dX11_isWord_10 (by decide) (Nat.le_of_ble_eq_true rfl) h (fun x12 h => ?_)
  refine g_icmp_ne (tgt := 20) dX11_isWord_13 (by decide) (fun c13 => ?_) (fun c13 => ?_)
  · rw [if_neg c13] at h
    refine g_iconst (v := 0) dX11_isWord_20 (by decide) ?_
    exact ok_J_X11_isWord_21 Θ l0 l1 0 _ _ r h
  · rw [if_pos c13] at h
    refine g_iconst (v := 1) dX11_isWord_16 (by decide) ?_
    refine g_goto (tgt := 21) dX11_isWord_17 (by decide) ?_
    exact ok_J_X11_isWord_21 Θ l0 l1 1 _ _ r h
def F_X11_passes (Θ : GP) (l0 : Nat) (l1 : Nat) (ω : OW) (n : Nat) : RO := cO ω l0 11 (kV (F_X11_letters Θ l0 ω n) (fun ω n => cO ω l0 11 (kI (F_X11_isWord Θ l0 l1 ω n) (fun x2 ω n => if x2 = 0 then (rI ω l0 11 12 (fun x4 => wF ω l0 11 10 (.int x4) (fun ω => some (.inl (some (.int 0), ω, n))))) else (some (.inl (some (.int 1), ω, n)))))))
theorem ok_X11_passes (Θ : GP) (l0 : Nat) (l1 : Nat) (ω : OW) (n : Nat) : Ok Θ 7 0 0 yX11_passes cX11_passes 2 (some .boolean) [.ref l0, .ref (gK Θ l1)] ω n (F_X11_passes Θ l0 l1 ω n) := by
  refine Ok.of (by decide +kernel) (Nat.le_of_ble_eq_true rfl) (fun r h => ?_)
  unfold F_X11_passes at h
  show GR Θ yX11_passes cX11_passes 2 (some .boolean) 7 (0, 0) 0 [(0, .ref l0), (1, .ref (gK Θ l1))] [] ω n r
  refine g_aload_n dX11_passes_0 rfl 0 rfl ?_
  refine g_cV (ci := 11) (As := []) mv_X11_127 dX11_passes_1 rfl (ok_X11_letters Θ l0 _ _) rfl rfl (Nat.le_of_ble_eq_true rfl) (by decide) (by decide) (by decide) h (fun ω n h => ?_)
  refine G.less (B' := (0, 0)) (by decide) (by decide) ?_
  refine g_aload_n dX11_passes_4 rfl 0 rfl ?_
  refine g_aload_n dX11_passes_5 rfl 1 rfl ?_
  refine g_cI (ci := 11) (As := [.ref (gK Θ l1)]) mv_X11_130 dX11_passes_6 rfl (ok_X11_isWord Θ l0 l1 _ _) rfl rfl (Nat.le_of_ble_eq_true rfl) (by decide) (by decide) (by decide) h (fun x2 ω n h => ?_)
  refine G.less (B' := (0, 0)) (by decide) (by decide) ?_
  refine g_if_eq (tgt := 14) dX11_passes_9 (by decide) (fun c3 => ?_) (fun c3 => ?_)
  · rw [if_pos c3] at h
    refine g_aload_n dX11_passes_14 rfl 0 rfl ?_
    refine g_aload_n dX11_passes_15 rfl 0 rfl ?_
    refine g_rI fl_X11_112 dX11_passes_16 h (fun x4 h => ?_)
    refine g_wF fl_X11_102 dX11_passes_19 (rfl) rfl h (fun ω h => ?_)
    refine g_iconst (v := 0) dX11_passes_22 (by decide) ?_
    cases h
    exact g_zret rfl rfl dX11_passes_23 rfl
  · rw [if_neg c3] at h
    refine g_iconst (v := 1) dX11_passes_12 (by decide) ?_
    cases h
    exact g_zret rfl rfl dX11_passes_13 rfl
def J_X11_after_22 (Θ : GP) (s0 : Int32) (ω : OW) (n : Nat) : RO := some (.inl (some (.int s0), ω, n))
def F_X11_after (Θ : GP) (l0 : Nat) (l1 : Nat) (l2 : Int32) (l3 : Int32) (ω : OW) (n : Nat) : RO := cO ω l0 11 (kV (F_X11_letters Θ l0 ω n) (fun ω n => cO ω l0 11 (kI (F_X11_isWord Θ l0 l1 ω n) (fun x2 ω n => if x2 = 0 then (J_X11_after_22 Θ (-1) ω n) else (cO ω l0 11 (kI (F_X11_number Θ l0 l2 l3 ω n) (fun x4 ω n => J_X11_after_22 Θ x4 ω n)))))))
theorem ok_J_X11_after_22 (Θ : GP) (s0 : Int32) (ω : OW) (n : Nat) (r : Out) (h : J_X11_after_22 Θ s0 ω n = some r) : GR Θ yX11_after cX11_after 4 (some .int) 7 (0, 0) 22 [] [.int s0] ω n r := by
  unfold J_X11_after_22 at h
  cases h
  exact g_iret rfl dX11_after_22 rfl
theorem ok_X11_after (Θ : GP) (l0 : Nat) (l1 : Nat) (l2 : Int32) (l3 : Int32) (ω : OW) (n : Nat) : Ok Θ 7 0 0 yX11_after cX11_after 4 (some .int) [.ref l0, .ref (gK Θ l1), .int l2, .int l3] ω n (F_X11_after Θ l0 l1 l2 l3 ω n) := by
  refine Ok.of (by decide +kernel) (Nat.le_of_ble_eq_true rfl) (fun r h => ?_)
  unfold F_X11_after at h
  show GR Θ yX11_after cX11_after 4 (some .int) 7 (0, 0) 0 [(0, .ref l0), (1, .ref (gK Θ l1)), (2, .int l2), (3, .int l3)] [] ω n r
  refine g_aload_n dX11_after_0 rfl 0 rfl ?_
  refine g_cV (ci := 11) (As := []) mv_X11_127 dX11_after_1 rfl (ok_X11_letters Θ l0 _ _) rfl rfl (Nat.le_of_ble_eq_true rfl) (by decide) (by decide) (by decide) h (fun ω n h => ?_)
  refine G.less (B' := (0, 0)) (by decide) (by decide) ?_
  refine g_aload_n dX11_after_4 rfl 0 rfl ?_
  refine g_aload_n dX11_after_5 rfl 1 rfl ?_
  refine g_cI (ci := 11) (As := [.ref (gK Θ l1)]) mv_X11_130 dX11_after_6 rfl (ok_X11_isWord Θ l0 l1 _ _) rfl rfl (Nat.le_of_ble_eq_true rfl) (by decide) (by decide) (by decide) h (fun x2 ω n h => ?_)
  refine G.less (B' := (0, 0)) (by decide) (by decide) ?_
  refine g_if_eq (tgt := 21) dX11_after_9 (by decide) (fun c3 => ?_) (fun c3 => ?_)
  · rw [if_pos c3] at h
    refine g_iconst (v := (-1)) dX11_after_21 (by decide) ?_
    refine G.lsub [] rfl ?_
    exact ok_J_X11_after_22 Θ (-1) _ _ r h
  · rw [if_neg c3] at h
    refine g_aload_n dX11_after_12 rfl 0 rfl ?_
    refine g_iload_n dX11_after_13 rfl 2 rfl ?_
    refine g_iload_n dX11_after_14 rfl 3 rfl ?_
    refine g_cI (ci := 11) (As := [.int l2, .int l3]) mv_X11_134 dX11_after_15 rfl (ok_X11_number Θ l0 l2 l3 _ _) rfl rfl (Nat.le_of_ble_eq_true rfl) (by decide) (by decide) (by decide) h (fun x4 ω n h => ?_)
    refine G.less (B' := (0, 0)) (by decide) (by decide) ?_
    refine g_goto (tgt := 22) dX11_after_18 (by decide) ?_
    refine G.lsub [] rfl ?_
    exact ok_J_X11_after_22 Θ x4 _ _ r h
def J_X11_readPart_129 (Θ : GP) (s0 : Int32) (ω : OW) (n : Nat) : RO := bz s0 (some (.inl (some (.int s0), ω, n)))
def J_X11_readPart_120 (Θ : GP) (l1 : Int32) (ω : OW) (n : Nat) : RO := if l1 < 0 then (J_X11_readPart_129 Θ 0 ω n) else (J_X11_readPart_129 Θ 1 ω n)
def J_X11_readPart_113 (Θ : GP) (l0 : Nat) (s0 : Int32) (ω : OW) (n : Nat) : RO := cO ω l0 11 (kV (F_X11_emits Θ l0 s0 0 ω n) (fun ω n => J_X11_readPart_120 Θ s0 ω n))
def F_X11_readPart (Θ : GP) (l0 : Nat) (ω : OW) (n : Nat) : RO := cO ω l0 11 (kV (F_X11_letters Θ l0 ω n) (fun ω n => rI ω l0 11 10 (fun x5 => rI ω l0 11 12 (fun x6 => if x5 = x6 then (cO ω l0 11 (kI (F_X11_number Θ l0 0 999 ω n) (fun x20 ω n => cO ω l0 11 (kV (F_X11_emits Θ l0 8 x20 ω n) (fun ω n => J_X11_readPart_120 Θ x20 ω n))))) else (cO ω l0 11 (kI (F_X11_isWord Θ l0 6 ω n) (fun x8 ω n => if x8 = 0 then (cO ω l0 11 (kI (F_X11_isWord Θ l0 11 ω n) (fun x10 ω n => if x10 = 0 then (cO ω l0 11 (kI (F_X11_isWord Θ l0 0 ω n) (fun x12 ω n => if x12 = 0 then (cO ω l0 11 (kI (F_X11_isWord Θ l0 2 ω n) (fun x14 ω n => if x14 = 0 then (cO ω l0 11 (kI (F_X11_isWord Θ l0 12 ω n) (fun x16 ω n => if x16 = 0 then (cO ω l0 11 (kI (F_X11_isWord Θ l0 3 ω n) (fun x18 ω n => if x18 = 0 then (J_X11_readPart_113 Θ l0 (-1) ω n) else (J_X11_readPart_113 Θ l0 5 ω n)))) else (J_X11_readPart_113 Θ l0 4 ω n)))) else (J_X11_readPart_113 Θ l0 3 ω n)))) else (J_X11_readPart_113 Θ l0 2 ω n)))) else (J_X11_readPart_113 Θ l0 1 ω n)))) else (J_X11_readPart_113 Θ l0 0 ω n))))))))
theorem ok_J_X11_readPart_129 (Θ : GP) (s0 : Int32) (ω : OW) (n : Nat) (r : Out) (h : J_X11_readPart_129 Θ s0 ω n = some r) : GR Θ yX11_readPart cX11_readPart 2 (some .boolean) 7 (0, 0) 129 [] [.int s0] ω n r := by
  unfold J_X11_readPart_129 at h
  obtain ⟨z1, h⟩ := bz_inv h
  cases h
  exact g_zret rfl z1 dX11_readPart_129 rfl
theorem ok_J_X11_readPart_120 (Θ : GP) (l1 : Int32) (ω : OW) (n : Nat) (r : Out) (h : J_X11_readPart_120 Θ l1 ω n = some r) : GR Θ yX11_readPart cX11_readPart 2 (some .boolean) 7 (0, 0) 120 [(1, .int l1)] [] ω n r := by
  unfold J_X11_readPart_120 at h
  refine g_iload_n dX11_readPart_120 rfl 0 rfl ?_
  refine g_if_lt (tgt := 128) dX11_readPart_121 (by decide) (fun c2 => ?_) (fun c2 => ?_)
  · rw [if_pos c2] at h
    refine g_iconst (v := 0) dX11_readPart_128 (by decide) ?_
    refine G.lsub [] rfl ?_
    exact ok_J_X11_readPart_129 Θ 0 _ _ r h
  · rw [if_neg c2] at h
    refine g_iconst (v := 1) dX11_readPart_124 (by decide) ?_
    refine g_goto (tgt := 129) dX11_readPart_125 (by decide) ?_
    refine G.lsub [] rfl ?_
    exact ok_J_X11_readPart_129 Θ 1 _ _ r h
theorem ok_J_X11_readPart_113 (Θ : GP) (l0 : Nat) (s0 : Int32) (ω : OW) (n : Nat) (r : Out) (h : J_X11_readPart_113 Θ l0 s0 ω n = some r) : GR Θ yX11_readPart cX11_readPart 2 (some .boolean) 7 (0, 0) 113 [(0, .ref l0)] [.int s0] ω n r := by
  unfold J_X11_readPart_113 at h
  refine g_istore_n (lv' := [(1, .int s0), (0, .ref l0)]) dX11_readPart_113 rfl (by decide) rfl ?_
  refine g_aload_n dX11_readPart_114 rfl 1 rfl ?_
  refine g_iload_n dX11_readPart_115 rfl 0 rfl ?_
  refine g_iconst (v := 0) dX11_readPart_116 (by decide) ?_
  refine g_cV (ci := 11) (As := [.int s0, .int 0]) mv_X11_197 dX11_readPart_117 rfl (ok_X11_emits Θ l0 s0 0 _ _) rfl rfl (Nat.le_of_ble_eq_true rfl) (by decide) (by decide) (by decide) h (fun ω n h => ?_)
  refine G.less (B' := (0, 0)) (by decide) (by decide) ?_
  refine G.lsub [0] rfl ?_
  exact ok_J_X11_readPart_120 Θ s0 _ _ r h
theorem ok_X11_readPart (Θ : GP) (l0 : Nat) (ω : OW) (n : Nat) : Ok Θ 7 0 0 yX11_readPart cX11_readPart 2 (some .boolean) [.ref l0] ω n (F_X11_readPart Θ l0 ω n) := by
  refine Ok.of (by decide +kernel) (Nat.le_of_ble_eq_true rfl) (fun r h => ?_)
  unfold F_X11_readPart at h
  show GR Θ yX11_readPart cX11_readPart 2 (some .boolean) 7 (0, 0) 0 [(0, .ref l0)] [] ω n r
  refine g_aload_n dX11_readPart_0 rfl 0 rfl ?_
  refine g_cV (ci := 11) (As := []) mv_X11_127 dX11_readPart_1 rfl (ok_X11_letters Θ l0 _ _) rfl rfl (Nat.le_of_ble_eq_true rfl) (by decide) (by decide) (by decide) h (fun ω n h => ?_)
  refine G.less (B' := (0, 0)) (by decide) (by decide) ?_
  refine g_aload_n dX11_readPart_4 rfl 0 rfl ?_
  refine g_rI fl_X11_102 dX11_readPart_5 h (fun x5 h => ?_)
  refine g_aload_n dX11_readPart_8 rfl 0 rfl ?_
  refine g_rI fl_X11_112 dX11_readPart_9 h (fun x6 h => ?_)
  refine g_icmp_ne (tgt := 34) dX11_readPart_12 (by decide) (fun c7 => ?_) (fun c7 => ?_)
  · rw [if_neg c7] at h
    refine g_aload_n dX11_readPart_34 rfl 0 rfl ?_
    refine g_ldcS (q := 6) rfl dX11_readPart_35 ?_
    refine g_cI (ci := 11) (As := [.ref (gK Θ 6)]) mv_X11_130 dX11_readPart_37 rfl (ok_X11_isWord Θ l0 6 _ _) rfl rfl (Nat.le_of_ble_eq_true rfl) (by decide) (by decide) (by decide) h (fun x8 ω n h => ?_)
    refine G.less (B' := (0, 0)) (by decide) (by decide) ?_
    refine g_if_eq (tgt := 47) dX11_readPart_40 (by decide) (fun c9 => ?_) (fun c9 => ?_)
    · rw [if_pos c9] at h
      refine g_aload_n dX11_readPart_47 rfl 0 rfl ?_
      refine g_ldcS (q := 11) rfl dX11_readPart_48 ?_
      refine g_cI (ci := 11) (As := [.ref (gK Θ 11)]) mv_X11_130 dX11_readPart_50 rfl (ok_X11_isWord Θ l0 11 _ _) rfl rfl (Nat.le_of_ble_eq_true rfl) (by decide) (by decide) (by decide) h (fun x10 ω n h => ?_)
      refine G.less (B' := (0, 0)) (by decide) (by decide) ?_
      refine g_if_eq (tgt := 60) dX11_readPart_53 (by decide) (fun c11 => ?_) (fun c11 => ?_)
      · rw [if_pos c11] at h
        refine g_aload_n dX11_readPart_60 rfl 0 rfl ?_
        refine g_ldcS (q := 0) rfl dX11_readPart_61 ?_
        refine g_cI (ci := 11) (As := [.ref (gK Θ 0)]) mv_X11_130 dX11_readPart_63 rfl (ok_X11_isWord Θ l0 0 _ _) rfl rfl (Nat.le_of_ble_eq_true rfl) (by decide) (by decide) (by decide) h (fun x12 ω n h => ?_)
        refine G.less (B' := (0, 0)) (by decide) (by decide) ?_
        refine g_if_eq (tgt := 73) dX11_readPart_66 (by decide) (fun c13 => ?_) (fun c13 => ?_)
        · rw [if_pos c13] at h
          refine g_aload_n dX11_readPart_73 rfl 0 rfl ?_
          refine g_ldcS (q := 2) rfl dX11_readPart_74 ?_
          refine g_cI (ci := 11) (As := [.ref (gK Θ 2)]) mv_X11_130 dX11_readPart_76 rfl (ok_X11_isWord Θ l0 2 _ _) rfl rfl (Nat.le_of_ble_eq_true rfl) (by decide) (by decide) (by decide) h (fun x14 ω n h => ?_)
          refine G.less (B' := (0, 0)) (by decide) (by decide) ?_
          refine g_if_eq (tgt := 86) dX11_readPart_79 (by decide) (fun c15 => ?_) (fun c15 => ?_)
          · rw [if_pos c15] at h
            refine g_aload_n dX11_readPart_86 rfl 0 rfl ?_
            refine g_ldcS (q := 12) rfl dX11_readPart_87 ?_
            refine g_cI (ci := 11) (As := [.ref (gK Θ 12)]) mv_X11_130 dX11_readPart_89 rfl (ok_X11_isWord Θ l0 12 _ _) rfl rfl (Nat.le_of_ble_eq_true rfl) (by decide) (by decide) (by decide) h (fun x16 ω n h => ?_)
            refine G.less (B' := (0, 0)) (by decide) (by decide) ?_
            refine g_if_eq (tgt := 99) dX11_readPart_92 (by decide) (fun c17 => ?_) (fun c17 => ?_)
            · rw [if_pos c17] at h
              refine g_aload_n dX11_readPart_99 rfl 0 rfl ?_
              refine g_ldcS (q := 3) rfl dX11_readPart_100 ?_
              refine g_cI (ci := 11) (As := [.ref (gK Θ 3)]) mv_X11_130 dX11_readPart_102 rfl (ok_X11_isWord Θ l0 3 _ _) rfl rfl (Nat.le_of_ble_eq_true rfl) (by decide) (by decide) (by decide) h (fun x18 ω n h => ?_)
              refine G.less (B' := (0, 0)) (by decide) (by decide) ?_
              refine g_if_eq (tgt := 112) dX11_readPart_105 (by decide) (fun c19 => ?_) (fun c19 => ?_)
              · rw [if_pos c19] at h
                refine g_iconst (v := (-1)) dX11_readPart_112 (by decide) ?_
                exact ok_J_X11_readPart_113 Θ l0 (-1) _ _ r h
              · rw [if_neg c19] at h
                refine g_iconst (v := 5) dX11_readPart_108 (by decide) ?_
                refine g_goto (tgt := 113) dX11_readPart_109 (by decide) ?_
                exact ok_J_X11_readPart_113 Θ l0 5 _ _ r h
            · rw [if_neg c17] at h
              refine g_iconst (v := 4) dX11_readPart_95 (by decide) ?_
              refine g_goto (tgt := 113) dX11_readPart_96 (by decide) ?_
              exact ok_J_X11_readPart_113 Θ l0 4 _ _ r h
          · rw [if_neg c15] at h
            refine g_iconst (v := 3) dX11_readPart_82 (by decide) ?_
            refine g_goto (tgt := 113) dX11_readPart_83 (by decide) ?_
            exact ok_J_X11_readPart_113 Θ l0 3 _ _ r h
        · rw [if_neg c13] at h
          refine g_iconst (v := 2) dX11_readPart_69 (by decide) ?_
          refine g_goto (tgt := 113) dX11_readPart_70 (by decide) ?_
          exact ok_J_X11_readPart_113 Θ l0 2 _ _ r h
      · rw [if_neg c11] at h
        refine g_iconst (v := 1) dX11_readPart_56 (by decide) ?_
        refine g_goto (tgt := 113) dX11_readPart_57 (by decide) ?_
        exact ok_J_X11_readPart_113 Θ l0 1 _ _ r h
    · rw [if_neg c9] at h
      refine g_iconst (v := 0) dX11_readPart_43 (by decide) ?_
      refine g_goto (tgt := 113) dX11_readPart_44 (by decide) ?_
      exact ok_J_X11_readPart_113 Θ l0 0 _ _ r h
  · rw [if_pos c7] at h
    refine g_aload_n dX11_readPart_15 rfl 0 rfl ?_
    refine g_iconst (v := 0) dX11_readPart_16 (by decide) ?_
    refine g_sipush (v := 999) dX11_readPart_17 (by decide) ?_
    refine g_cI (ci := 11) (As := [.int 0, .int 999]) mv_X11_134 dX11_readPart_20 rfl (ok_X11_number Θ l0 0 999 _ _) rfl rfl (Nat.le_of_ble_eq_true rfl) (by decide) (by decide) (by decide) h (fun x20 ω n h => ?_)
    refine G.less (B' := (0, 0)) (by decide) (by decide) ?_
    refine g_istore_n (lv' := [(1, .int x20), (0, .ref l0)]) dX11_readPart_23 rfl (by decide) rfl ?_
    refine g_aload_n dX11_readPart_24 rfl 1 rfl ?_
    refine g_bipush (v := 8) dX11_readPart_25 (by decide) ?_
    refine g_iload_n dX11_readPart_27 rfl 0 rfl ?_
    refine g_cV (ci := 11) (As := [.int 8, .int x20]) mv_X11_197 dX11_readPart_28 rfl (ok_X11_emits Θ l0 8 x20 _ _) rfl rfl (Nat.le_of_ble_eq_true rfl) (by decide) (by decide) (by decide) h (fun ω n h => ?_)
    refine G.less (B' := (0, 0)) (by decide) (by decide) ?_
    refine g_goto (tgt := 120) dX11_readPart_31 (by decide) ?_
    refine G.lsub [0] rfl ?_
    exact ok_J_X11_readPart_120 Θ x20 _ _ r h
def B_X11_readSum_9 (Θ : GP) (k_9 : Nat → OW → Nat → RO) (l0 : Nat) (ω : OW) (n : Nat) : RO := cO ω l0 11 (kI (F_X11_sign Θ l0 43 ω n) (fun x1 ω n => if x1 = 0 then (some (.inl (some (.int 1), ω, n))) else (cO ω l0 11 (kI (F_X11_readPart Θ l0 ω n) (fun x3 ω n => if x3 = 0 then (some (.inl (some (.int 0), ω, n))) else (cO ω l0 11 (kV (F_X11_emits Θ l0 9 0 ω n) (fun ω n => k_9 l0 ω n))))))))
def L_X11_readSum_9 (Θ : GP) : Nat → Nat → OW → Nat → RO
  | 0, _, _, _ => none
  | f + 1, l0, ω, n => B_X11_readSum_9 Θ (L_X11_readSum_9 Θ f) l0 ω n
def F_X11_readSum (Θ : GP) (l0 : Nat) (ω : OW) (n : Nat) : RO := cO ω l0 11 (kI (F_X11_readPart Θ l0 ω n) (fun x6 ω n => if x6 = 0 then (some (.inl (some (.int 0), ω, n))) else (L_X11_readSum_9 Θ 5000 l0 ω n)))
theorem ok_B_X11_readSum_9 (Θ : GP) (k_9 : Nat → OW → Nat → RO) (hk_9 : ∀ l0 ω n r, k_9 l0 ω n = some r → GR Θ yX11_readSum cX11_readSum 1 (some .boolean) 8 (0, 0) 9 [(0, .ref l0)] [] ω n r) (l0 : Nat) (ω : OW) (n : Nat) (r : Out) (h : B_X11_readSum_9 Θ k_9 l0 ω n = some r) : GR Θ yX11_readSum cX11_readSum 1 (some .boolean) 8 (0, 0) 9 [(0, .ref l0)] [] ω n r := by
  unfold B_X11_readSum_9 at h
  refine g_aload_n dX11_readSum_9 rfl 0 rfl ?_
  refine g_bipush (v := 43) dX11_readSum_10 (by decide) ?_
  refine g_cI (ci := 11) (As := [.int 43]) mv_X11_208 dX11_readSum_12 rfl (ok_X11_sign Θ l0 43 _ _) rfl rfl (Nat.le_of_ble_eq_true rfl) (by decide) (by decide) (by decide) h (fun x1 ω n h => ?_)
  refine G.less (B' := (0, 0)) (by decide) (by decide) ?_
  refine g_if_eq (tgt := 37) dX11_readSum_15 (by decide) (fun c2 => ?_) (fun c2 => ?_)
  · rw [if_pos c2] at h
    refine g_iconst (v := 1) dX11_readSum_37 (by decide) ?_
    cases h
    exact g_zret rfl rfl dX11_readSum_38 rfl
  · rw [if_neg c2] at h
    refine g_aload_n dX11_readSum_18 rfl 0 rfl ?_
    refine g_cI (ci := 11) (As := []) mv_X11_205 dX11_readSum_19 rfl (ok_X11_readPart Θ l0 _ _) rfl rfl (Nat.le_of_ble_eq_true rfl) (by decide) (by decide) (by decide) h (fun x3 ω n h => ?_)
    refine G.less (B' := (0, 0)) (by decide) (by decide) ?_
    refine g_if_ne (tgt := 27) dX11_readSum_22 (by decide) (fun c4 => ?_) (fun c4 => ?_)
    · rw [if_neg c4] at h
      refine g_aload_n dX11_readSum_27 rfl 0 rfl ?_
      refine g_bipush (v := 9) dX11_readSum_28 (by decide) ?_
      refine g_iconst (v := 0) dX11_readSum_30 (by decide) ?_
      refine g_cV (ci := 11) (As := [.int 9, .int 0]) mv_X11_197 dX11_readSum_31 rfl (ok_X11_emits Θ l0 9 0 _ _) rfl rfl (Nat.le_of_ble_eq_true rfl) (by decide) (by decide) (by decide) h (fun ω n h => ?_)
      refine G.less (B' := (0, 0)) (by decide) (by decide) ?_
      refine g_goto (tgt := 9) dX11_readSum_34 (by decide) ?_
      exact hk_9 l0 _ _ r h
    · rw [if_pos c4] at h
      refine g_iconst (v := 0) dX11_readSum_25 (by decide) ?_
      cases h
      exact g_zret rfl rfl dX11_readSum_26 rfl
theorem ok_L_X11_readSum_9 (Θ : GP) : ∀ (f : Nat) (l0 : Nat) (ω : OW) (n : Nat) (r : Out), L_X11_readSum_9 Θ f l0 ω n = some r → GR Θ yX11_readSum cX11_readSum 1 (some .boolean) 8 (0, 0) 9 [(0, .ref l0)] [] ω n r := by
  intro f
  induction f with
  | zero =>
    intro l0 ω n r h
    unfold L_X11_readSum_9 at h
    cases h
  | succ f ih =>
    intro l0 ω n r h
    unfold L_X11_readSum_9 at h
    exact ok_B_X11_readSum_9 Θ (L_X11_readSum_9 Θ f) ih l0 ω n r h
theorem ok_X11_readSum (Θ : GP) (l0 : Nat) (ω : OW) (n : Nat) : Ok Θ 8 0 0 yX11_readSum cX11_readSum 1 (some .boolean) [.ref l0] ω n (F_X11_readSum Θ l0 ω n) := by
  refine Ok.of (by decide +kernel) (Nat.le_of_ble_eq_true rfl) (fun r h => ?_)
  unfold F_X11_readSum at h
  show GR Θ yX11_readSum cX11_readSum 1 (some .boolean) 8 (0, 0) 0 [(0, .ref l0)] [] ω n r
  refine g_aload_n dX11_readSum_0 rfl 0 rfl ?_
  refine g_cI (ci := 11) (As := []) mv_X11_205 dX11_readSum_1 rfl (ok_X11_readPart Θ l0 _ _) rfl rfl (Nat.le_of_ble_eq_true rfl) (by decide) (by decide) (by decide) h (fun x6 ω n h => ?_)
  refine G.less (B' := (0, 0)) (by decide) (by decide) ?_
  refine g_if_ne (tgt := 9) dX11_readSum_4 (by decide) (fun c7 => ?_) (fun c7 => ?_)
  · rw [if_neg c7] at h
    exact ok_L_X11_readSum_9 Θ 5000 l0 _ _ r h
  · rw [if_pos c7] at h
    refine g_iconst (v := 0) dX11_readSum_7 (by decide) ?_
    cases h
    exact g_zret rfl rfl dX11_readSum_8 rfl
def J_X11_readTag_64 (Θ : GP) (s0 : Int32) (ω : OW) (n : Nat) : RO := bz s0 (some (.inl (some (.int s0), ω, n)))
def J_X11_readTag_55 (Θ : GP) (l1 : Int32) (ω : OW) (n : Nat) : RO := if l1 < 0 then (J_X11_readTag_64 Θ 0 ω n) else (J_X11_readTag_64 Θ 1 ω n)
def J_X11_readTag_33 (Θ : GP) (l0 : Nat) (s0 : Int32) (ω : OW) (n : Nat) : RO := if s0 < 0 then (rI ω l0 11 12 (fun x4 => wF ω l0 11 10 (.int x4) (fun ω => J_X11_readTag_55 Θ s0 ω n))) else (cO ω l0 11 (kV (F_X11_emits Θ l0 s0 0 ω n) (fun ω n => J_X11_readTag_55 Θ s0 ω n)))
def F_X11_readTag (Θ : GP) (l0 : Nat) (ω : OW) (n : Nat) : RO := cO ω l0 11 (kV (F_X11_letters Θ l0 ω n) (fun ω n => cO ω l0 11 (kI (F_X11_isWord Θ l0 5 ω n) (fun x7 ω n => if x7 = 0 then (cO ω l0 11 (kI (F_X11_isWord Θ l0 13 ω n) (fun x9 ω n => if x9 = 0 then (J_X11_readTag_33 Θ l0 (-1) ω n) else (J_X11_readTag_33 Θ l0 7 ω n)))) else (J_X11_readTag_33 Θ l0 6 ω n)))))
theorem ok_J_X11_readTag_64 (Θ : GP) (s0 : Int32) (ω : OW) (n : Nat) (r : Out) (h : J_X11_readTag_64 Θ s0 ω n = some r) : GR Θ yX11_readTag cX11_readTag 2 (some .boolean) 7 (0, 0) 64 [] [.int s0] ω n r := by
  unfold J_X11_readTag_64 at h
  obtain ⟨z1, h⟩ := bz_inv h
  cases h
  exact g_zret rfl z1 dX11_readTag_64 rfl
theorem ok_J_X11_readTag_55 (Θ : GP) (l1 : Int32) (ω : OW) (n : Nat) (r : Out) (h : J_X11_readTag_55 Θ l1 ω n = some r) : GR Θ yX11_readTag cX11_readTag 2 (some .boolean) 7 (0, 0) 55 [(1, .int l1)] [] ω n r := by
  unfold J_X11_readTag_55 at h
  refine g_iload_n dX11_readTag_55 rfl 0 rfl ?_
  refine g_if_lt (tgt := 63) dX11_readTag_56 (by decide) (fun c2 => ?_) (fun c2 => ?_)
  · rw [if_pos c2] at h
    refine g_iconst (v := 0) dX11_readTag_63 (by decide) ?_
    refine G.lsub [] rfl ?_
    exact ok_J_X11_readTag_64 Θ 0 _ _ r h
  · rw [if_neg c2] at h
    refine g_iconst (v := 1) dX11_readTag_59 (by decide) ?_
    refine g_goto (tgt := 64) dX11_readTag_60 (by decide) ?_
    refine G.lsub [] rfl ?_
    exact ok_J_X11_readTag_64 Θ 1 _ _ r h
theorem ok_J_X11_readTag_33 (Θ : GP) (l0 : Nat) (s0 : Int32) (ω : OW) (n : Nat) (r : Out) (h : J_X11_readTag_33 Θ l0 s0 ω n = some r) : GR Θ yX11_readTag cX11_readTag 2 (some .boolean) 7 (0, 0) 33 [(0, .ref l0)] [.int s0] ω n r := by
  unfold J_X11_readTag_33 at h
  refine g_istore_n (lv' := [(1, .int s0), (0, .ref l0)]) dX11_readTag_33 rfl (by decide) rfl ?_
  refine g_iload_n dX11_readTag_34 rfl 0 rfl ?_
  refine g_if_lt (tgt := 47) dX11_readTag_35 (by decide) (fun c3 => ?_) (fun c3 => ?_)
  · rw [if_pos c3] at h
    refine g_aload_n dX11_readTag_47 rfl 1 rfl ?_
    refine g_aload_n dX11_readTag_48 rfl 1 rfl ?_
    refine g_rI fl_X11_112 dX11_readTag_49 h (fun x4 h => ?_)
    refine g_wF fl_X11_102 dX11_readTag_52 (rfl) rfl h (fun ω h => ?_)
    refine G.lsub [0] rfl ?_
    exact ok_J_X11_readTag_55 Θ s0 _ _ r h
  · rw [if_neg c3] at h
    refine g_aload_n dX11_readTag_38 rfl 1 rfl ?_
    refine g_iload_n dX11_readTag_39 rfl 0 rfl ?_
    refine g_iconst (v := 0) dX11_readTag_40 (by decide) ?_
    refine g_cV (ci := 11) (As := [.int s0, .int 0]) mv_X11_197 dX11_readTag_41 rfl (ok_X11_emits Θ l0 s0 0 _ _) rfl rfl (Nat.le_of_ble_eq_true rfl) (by decide) (by decide) (by decide) h (fun ω n h => ?_)
    refine G.less (B' := (0, 0)) (by decide) (by decide) ?_
    refine g_goto (tgt := 55) dX11_readTag_44 (by decide) ?_
    refine G.lsub [0] rfl ?_
    exact ok_J_X11_readTag_55 Θ s0 _ _ r h
theorem ok_X11_readTag (Θ : GP) (l0 : Nat) (ω : OW) (n : Nat) : Ok Θ 7 0 0 yX11_readTag cX11_readTag 2 (some .boolean) [.ref l0] ω n (F_X11_readTag Θ l0 ω n) := by
  refine Ok.of (by decide +kernel) (Nat.le_of_ble_eq_true rfl) (fun r h => ?_)
  unfold F_X11_readTag at h
  show GR Θ yX11_readTag cX11_readTag 2 (some .boolean) 7 (0, 0) 0 [(0, .ref l0)] [] ω n r
  refine g_aload_n dX11_readTag_0 rfl 0 rfl ?_
  refine g_cV (ci := 11) (As := []) mv_X11_127 dX11_readTag_1 rfl (ok_X11_letters Θ l0 _ _) rfl rfl (Nat.le_of_ble_eq_true rfl) (by decide) (by decide) (by decide) h (fun ω n h => ?_)
  refine G.less (B' := (0, 0)) (by decide) (by decide) ?_
  refine g_aload_n dX11_readTag_4 rfl 0 rfl ?_
  refine g_ldcS (q := 5) rfl dX11_readTag_5 ?_
  refine g_cI (ci := 11) (As := [.ref (gK Θ 5)]) mv_X11_130 dX11_readTag_7 rfl (ok_X11_isWord Θ l0 5 _ _) rfl rfl (Nat.le_of_ble_eq_true rfl) (by decide) (by decide) (by decide) h (fun x7 ω n h => ?_)
  refine G.less (B' := (0, 0)) (by decide) (by decide) ?_
  refine g_if_eq (tgt := 18) dX11_readTag_10 (by decide) (fun c8 => ?_) (fun c8 => ?_)
  · rw [if_pos c8] at h
    refine g_aload_n dX11_readTag_18 rfl 0 rfl ?_
    refine g_ldcS (q := 13) rfl dX11_readTag_19 ?_
    refine g_cI (ci := 11) (As := [.ref (gK Θ 13)]) mv_X11_130 dX11_readTag_21 rfl (ok_X11_isWord Θ l0 13 _ _) rfl rfl (Nat.le_of_ble_eq_true rfl) (by decide) (by decide) (by decide) h (fun x9 ω n h => ?_)
    refine G.less (B' := (0, 0)) (by decide) (by decide) ?_
    refine g_if_eq (tgt := 32) dX11_readTag_24 (by decide) (fun c10 => ?_) (fun c10 => ?_)
    · rw [if_pos c10] at h
      refine g_iconst (v := (-1)) dX11_readTag_32 (by decide) ?_
      exact ok_J_X11_readTag_33 Θ l0 (-1) _ _ r h
    · rw [if_neg c10] at h
      refine g_bipush (v := 7) dX11_readTag_27 (by decide) ?_
      refine g_goto (tgt := 33) dX11_readTag_29 (by decide) ?_
      exact ok_J_X11_readTag_33 Θ l0 7 _ _ r h
  · rw [if_neg c8] at h
    refine g_bipush (v := 6) dX11_readTag_13 (by decide) ?_
    refine g_goto (tgt := 33) dX11_readTag_15 (by decide) ?_
    exact ok_J_X11_readTag_33 Θ l0 6 _ _ r h
def B_X11_readAllOf_9 (Θ : GP) (rcA : Nat → OW → Nat → RO) (k_9 : Nat → OW → Nat → RO) (l0 : Nat) (ω : OW) (n : Nat) : RO := cO ω l0 11 (kI (F_X11_passes Θ l0 15 ω n) (fun x1 ω n => if x1 = 0 then (some (.inl (some (.int 1), ω, n))) else (cO ω l0 11 (kI (rcA l0 ω n) (fun x3 ω n => if x3 = 0 then (some (.inl (some (.int 0), ω, n))) else (cO ω l0 11 (kV (F_X11_emits Θ l0 13 0 ω n) (fun ω n => k_9 l0 ω n))))))))
def L_X11_readAllOf_9 (Θ : GP) (rcA : Nat → OW → Nat → RO) : Nat → Nat → OW → Nat → RO
  | 0, _, _, _ => none
  | f + 1, l0, ω, n => B_X11_readAllOf_9 Θ rcA (L_X11_readAllOf_9 Θ rcA f) l0 ω n
def F_X11_readAllOf (Θ : GP) (rcA : Nat → OW → Nat → RO) (l0 : Nat) (ω : OW) (n : Nat) : RO := cO ω l0 11 (kI (rcA l0 ω n) (fun x6 ω n => if x6 = 0 then (some (.inl (some (.int 0), ω, n))) else (L_X11_readAllOf_9 Θ rcA 5000 l0 ω n)))
theorem ok_B_X11_readAllOf_9 (Θ : GP) (rcA : Nat → OW → Nat → RO) (dA : Nat) (hA : ∀ l0 ω n, Ok Θ dA 0 0 yX11_readAtom cX11_readAtom 2 (some .boolean) [.ref l0] ω n (rcA l0 ω n)) (k_9 : Nat → OW → Nat → RO) (hk_9 : ∀ l0 ω n r, k_9 l0 ω n = some r → GR Θ yX11_readAllOf cX11_readAllOf 1 (some .boolean) (dA + 12) (0, 0) 9 [(0, .ref l0)] [] ω n r) (l0 : Nat) (ω : OW) (n : Nat) (r : Out) (h : B_X11_readAllOf_9 Θ rcA k_9 l0 ω n = some r) : GR Θ yX11_readAllOf cX11_readAllOf 1 (some .boolean) (dA + 12) (0, 0) 9 [(0, .ref l0)] [] ω n r := by
  unfold B_X11_readAllOf_9 at h
  refine g_aload_n dX11_readAllOf_9 rfl 0 rfl ?_
  refine g_ldcS (q := 15) rfl dX11_readAllOf_10 ?_
  refine g_cI (ci := 11) (As := [.ref (gK Θ 15)]) mv_X11_157 dX11_readAllOf_12 rfl (ok_X11_passes Θ l0 15 _ _) rfl rfl (Nat.le_of_ble_eq_true rfl) (by omega) (by decide) (by decide) h (fun x1 ω n h => ?_)
  refine G.less (B' := (0, 0)) (by decide) (by decide) ?_
  refine g_if_eq (tgt := 37) dX11_readAllOf_15 (by decide) (fun c2 => ?_) (fun c2 => ?_)
  · rw [if_pos c2] at h
    refine g_iconst (v := 1) dX11_readAllOf_37 (by decide) ?_
    cases h
    exact g_zret rfl rfl dX11_readAllOf_38 rfl
  · rw [if_neg c2] at h
    refine g_aload_n dX11_readAllOf_18 rfl 0 rfl ?_
    refine g_cI (ci := 11) (As := []) mv_X11_221 dX11_readAllOf_19 rfl (hA l0 _ _) rfl rfl (Nat.le_of_ble_eq_true rfl) (by omega) (by decide) (by decide) h (fun x3 ω n h => ?_)
    refine G.less (B' := (0, 0)) (by decide) (by decide) ?_
    refine g_if_ne (tgt := 27) dX11_readAllOf_22 (by decide) (fun c4 => ?_) (fun c4 => ?_)
    · rw [if_neg c4] at h
      refine g_aload_n dX11_readAllOf_27 rfl 0 rfl ?_
      refine g_bipush (v := 13) dX11_readAllOf_28 (by decide) ?_
      refine g_iconst (v := 0) dX11_readAllOf_30 (by decide) ?_
      refine g_cV (ci := 11) (As := [.int 13, .int 0]) mv_X11_197 dX11_readAllOf_31 rfl (ok_X11_emits Θ l0 13 0 _ _) rfl rfl (Nat.le_of_ble_eq_true rfl) (by omega) (by decide) (by decide) h (fun ω n h => ?_)
      refine G.less (B' := (0, 0)) (by decide) (by decide) ?_
      refine g_goto (tgt := 9) dX11_readAllOf_34 (by decide) ?_
      exact hk_9 l0 _ _ r h
    · rw [if_pos c4] at h
      refine g_iconst (v := 0) dX11_readAllOf_25 (by decide) ?_
      cases h
      exact g_zret rfl rfl dX11_readAllOf_26 rfl
theorem ok_L_X11_readAllOf_9 (Θ : GP) (rcA : Nat → OW → Nat → RO) (dA : Nat) (hA : ∀ l0 ω n, Ok Θ dA 0 0 yX11_readAtom cX11_readAtom 2 (some .boolean) [.ref l0] ω n (rcA l0 ω n)) : ∀ (f : Nat) (l0 : Nat) (ω : OW) (n : Nat) (r : Out), L_X11_readAllOf_9 Θ rcA f l0 ω n = some r → GR Θ yX11_readAllOf cX11_readAllOf 1 (some .boolean) (dA + 12) (0, 0) 9 [(0, .ref l0)] [] ω n r := by
  intro f
  induction f with
  | zero =>
    intro l0 ω n r h
    unfold L_X11_readAllOf_9 at h
    cases h
  | succ f ih =>
    intro l0 ω n r h
    unfold L_X11_readAllOf_9 at h
    exact ok_B_X11_readAllOf_9 Θ rcA dA hA (L_X11_readAllOf_9 Θ rcA f) ih l0 ω n r h
theorem ok_X11_readAllOf (Θ : GP) (rcA : Nat → OW → Nat → RO) (dA : Nat) (hA : ∀ l0 ω n, Ok Θ dA 0 0 yX11_readAtom cX11_readAtom 2 (some .boolean) [.ref l0] ω n (rcA l0 ω n)) (l0 : Nat) (ω : OW) (n : Nat) : Ok Θ (dA + 12) 0 0 yX11_readAllOf cX11_readAllOf 1 (some .boolean) [.ref l0] ω n (F_X11_readAllOf Θ rcA l0 ω n) := by
  refine Ok.of (by decide +kernel) (Nat.le_of_ble_eq_true rfl) (fun r h => ?_)
  unfold F_X11_readAllOf at h
  show GR Θ yX11_readAllOf cX11_readAllOf 1 (some .boolean) (dA + 12) (0, 0) 0 [(0, .ref l0)] [] ω n r
  refine g_aload_n dX11_readAllOf_0 rfl 0 rfl ?_
  refine g_cI (ci := 11) (As := []) mv_X11_221 dX11_readAllOf_1 rfl (hA l0 _ _) rfl rfl (Nat.le_of_ble_eq_true rfl) (by omega) (by decide) (by decide) h (fun x6 ω n h => ?_)
  refine G.less (B' := (0, 0)) (by decide) (by decide) ?_
  refine g_if_ne (tgt := 9) dX11_readAllOf_4 (by decide) (fun c7 => ?_) (fun c7 => ?_)
  · rw [if_neg c7] at h
    exact ok_L_X11_readAllOf_9 Θ rcA dA hA 5000 l0 _ _ r h
  · rw [if_pos c7] at h
    refine g_iconst (v := 0) dX11_readAllOf_7 (by decide) ?_
    cases h
    exact g_zret rfl rfl dX11_readAllOf_8 rfl
def B_X11_readCond_9 (Θ : GP) (rcA : Nat → OW → Nat → RO) (k_9 : Nat → OW → Nat → RO) (l0 : Nat) (ω : OW) (n : Nat) : RO := cO ω l0 11 (kI (F_X11_passes Θ l0 16 ω n) (fun x1 ω n => if x1 = 0 then (some (.inl (some (.int 1), ω, n))) else (cO ω l0 11 (kI (F_X11_readAllOf Θ rcA l0 ω n) (fun x3 ω n => if x3 = 0 then (some (.inl (some (.int 0), ω, n))) else (cO ω l0 11 (kV (F_X11_emits Θ l0 14 0 ω n) (fun ω n => k_9 l0 ω n))))))))
def L_X11_readCond_9 (Θ : GP) (rcA : Nat → OW → Nat → RO) : Nat → Nat → OW → Nat → RO
  | 0, _, _, _ => none
  | f + 1, l0, ω, n => B_X11_readCond_9 Θ rcA (L_X11_readCond_9 Θ rcA f) l0 ω n
def F_X11_readCond (Θ : GP) (rcA : Nat → OW → Nat → RO) (l0 : Nat) (ω : OW) (n : Nat) : RO := cO ω l0 11 (kI (F_X11_readAllOf Θ rcA l0 ω n) (fun x6 ω n => if x6 = 0 then (some (.inl (some (.int 0), ω, n))) else (L_X11_readCond_9 Θ rcA 5000 l0 ω n)))
theorem ok_B_X11_readCond_9 (Θ : GP) (rcA : Nat → OW → Nat → RO) (dA : Nat) (hA : ∀ l0 ω n, Ok Θ dA 0 0 yX11_readAtom cX11_readAtom 2 (some .boolean) [.ref l0] ω n (rcA l0 ω n)) (k_9 : Nat → OW → Nat → RO) (hk_9 : ∀ l0 ω n r, k_9 l0 ω n = some r → GR Θ yX11_readCond cX11_readCond 1 (some .boolean) (dA + 18) (0, 0) 9 [(0, .ref l0)] [] ω n r) (l0 : Nat) (ω : OW) (n : Nat) (r : Out) (h : B_X11_readCond_9 Θ rcA k_9 l0 ω n = some r) : GR Θ yX11_readCond cX11_readCond 1 (some .boolean) (dA + 18) (0, 0) 9 [(0, .ref l0)] [] ω n r := by
  unfold B_X11_readCond_9 at h
  refine g_aload_n dX11_readCond_9 rfl 0 rfl ?_
  refine g_ldcS (q := 16) rfl dX11_readCond_10 ?_
  refine g_cI (ci := 11) (As := [.ref (gK Θ 16)]) mv_X11_157 dX11_readCond_12 rfl (ok_X11_passes Θ l0 16 _ _) rfl rfl (Nat.le_of_ble_eq_true rfl) (by omega) (by decide) (by decide) h (fun x1 ω n h => ?_)
  refine G.less (B' := (0, 0)) (by decide) (by decide) ?_
  refine g_if_eq (tgt := 37) dX11_readCond_15 (by decide) (fun c2 => ?_) (fun c2 => ?_)
  · rw [if_pos c2] at h
    refine g_iconst (v := 1) dX11_readCond_37 (by decide) ?_
    cases h
    exact g_zret rfl rfl dX11_readCond_38 rfl
  · rw [if_neg c2] at h
    refine g_aload_n dX11_readCond_18 rfl 0 rfl ?_
    refine g_cI (ci := 11) (As := []) mv_X11_232 dX11_readCond_19 rfl (ok_X11_readAllOf Θ rcA dA hA l0 _ _) rfl rfl (Nat.le_of_ble_eq_true rfl) (by omega) (by decide) (by decide) h (fun x3 ω n h => ?_)
    refine G.less (B' := (0, 0)) (by decide) (by decide) ?_
    refine g_if_ne (tgt := 27) dX11_readCond_22 (by decide) (fun c4 => ?_) (fun c4 => ?_)
    · rw [if_neg c4] at h
      refine g_aload_n dX11_readCond_27 rfl 0 rfl ?_
      refine g_bipush (v := 14) dX11_readCond_28 (by decide) ?_
      refine g_iconst (v := 0) dX11_readCond_30 (by decide) ?_
      refine g_cV (ci := 11) (As := [.int 14, .int 0]) mv_X11_197 dX11_readCond_31 rfl (ok_X11_emits Θ l0 14 0 _ _) rfl rfl (Nat.le_of_ble_eq_true rfl) (by omega) (by decide) (by decide) h (fun ω n h => ?_)
      refine G.less (B' := (0, 0)) (by decide) (by decide) ?_
      refine g_goto (tgt := 9) dX11_readCond_34 (by decide) ?_
      exact hk_9 l0 _ _ r h
    · rw [if_pos c4] at h
      refine g_iconst (v := 0) dX11_readCond_25 (by decide) ?_
      cases h
      exact g_zret rfl rfl dX11_readCond_26 rfl
theorem ok_L_X11_readCond_9 (Θ : GP) (rcA : Nat → OW → Nat → RO) (dA : Nat) (hA : ∀ l0 ω n, Ok Θ dA 0 0 yX11_readAtom cX11_readAtom 2 (some .boolean) [.ref l0] ω n (rcA l0 ω n)) : ∀ (f : Nat) (l0 : Nat) (ω : OW) (n : Nat) (r : Out), L_X11_readCond_9 Θ rcA f l0 ω n = some r → GR Θ yX11_readCond cX11_readCond 1 (some .boolean) (dA + 18) (0, 0) 9 [(0, .ref l0)] [] ω n r := by
  intro f
  induction f with
  | zero =>
    intro l0 ω n r h
    unfold L_X11_readCond_9 at h
    cases h
  | succ f ih =>
    intro l0 ω n r h
    unfold L_X11_readCond_9 at h
    exact ok_B_X11_readCond_9 Θ rcA dA hA (L_X11_readCond_9 Θ rcA f) ih l0 ω n r h
theorem ok_X11_readCond (Θ : GP) (rcA : Nat → OW → Nat → RO) (dA : Nat) (hA : ∀ l0 ω n, Ok Θ dA 0 0 yX11_readAtom cX11_readAtom 2 (some .boolean) [.ref l0] ω n (rcA l0 ω n)) (l0 : Nat) (ω : OW) (n : Nat) : Ok Θ (dA + 18) 0 0 yX11_readCond cX11_readCond 1 (some .boolean) [.ref l0] ω n (F_X11_readCond Θ rcA l0 ω n) := by
  refine Ok.of (by decide +kernel) (Nat.le_of_ble_eq_true rfl) (fun r h => ?_)
  unfold F_X11_readCond at h
  show GR Θ yX11_readCond cX11_readCond 1 (some .boolean) (dA + 18) (0, 0) 0 [(0, .ref l0)] [] ω n r
  refine g_aload_n dX11_readCond_0 rfl 0 rfl ?_
  refine g_cI (ci := 11) (As := []) mv_X11_232 dX11_readCond_1 rfl (ok_X11_readAllOf Θ rcA dA hA l0 _ _) rfl rfl (Nat.le_of_ble_eq_true rfl) (by omega) (by decide) (by decide) h (fun x6 ω n h => ?_)
  refine G.less (B' := (0, 0)) (by decide) (by decide) ?_
  refine g_if_ne (tgt := 9) dX11_readCond_4 (by decide) (fun c7 => ?_) (fun c7 => ?_)
  · rw [if_neg c7] at h
    exact ok_L_X11_readCond_9 Θ rcA dA hA 5000 l0 _ _ r h
  · rw [if_pos c7] at h
    refine g_iconst (v := 0) dX11_readCond_7 (by decide) ?_
    cases h
    exact g_zret rfl rfl dX11_readCond_8 rfl
def J_X11_readAtom_173 (Θ : GP) (rcA : Nat → OW → Nat → RO) (s0 : Int32) (s1 : Nat) (ω : OW) (n : Nat) : RO := cO ω s1 11 (kV (F_X11_emits Θ s1 s0 0 ω n) (fun ω n => some (.inl (some (.int 1), ω, n))))
def J_X11_readAtom_159 (Θ : GP) (rcA : Nat → OW → Nat → RO) (ω : OW) (n : Nat) : RO := some (.inl (some (.int 0), ω, n))
def J_X11_readAtom_152 (Θ : GP) (rcA : Nat → OW → Nat → RO) (l0 : Nat) (l1 : Int32) (ω : OW) (n : Nat) : RO := cO ω l0 11 (kI (F_X11_readSum Θ l0 ω n) (fun x2 ω n => if x2 = 0 then (J_X11_readAtom_159 Θ rcA ω n) else (if l1 = 0 then (J_X11_readAtom_173 Θ rcA 11 l0 ω n) else (J_X11_readAtom_173 Θ rcA 10 l0 ω n))))
def FB_X11_readAtom (Θ : GP) (rcA : Nat → OW → Nat → RO) (l0 : Nat) (ω : OW) (n : Nat) : RO := cO ω l0 11 (kI (F_X11_sign Θ l0 40 ω n) (fun x5 ω n => if x5 = 0 then (cO ω l0 11 (kI (F_X11_passes Θ l0 14 ω n) (fun x7 ω n => if x7 = 0 then (cO ω l0 11 (kI (F_X11_readTag Θ l0 ω n) (fun x9 ω n => if x9 = 0 then (cO ω l0 11 (kI (F_X11_readSum Θ l0 ω n) (fun x11 ω n => if x11 = 0 then (some (.inl (some (.int 0), ω, n))) else (cO ω l0 11 (kI (F_X11_sign Θ l0 60 ω n) (fun x13 ω n => if x13 = 0 then (cO ω l0 11 (kI (F_X11_sign Θ l0 62 ω n) (fun x15 ω n => if x15 = 0 then (J_X11_readAtom_159 Θ rcA ω n) else (J_X11_readAtom_152 Θ rcA l0 x13 ω n)))) else (J_X11_readAtom_152 Θ rcA l0 x13 ω n))))))) else (some (.inl (some (.int 1), ω, n)))))) else (rI ω l0 11 13 (fun x17 => if x17 = 6 then (some (.inl (some (.int 0), ω, n))) else (rI ω l0 11 13 (fun x19 => wF ω l0 11 13 (.int (x19 + 1)) (fun ω => cO ω l0 11 (kI (rcA l0 ω n) (fun x20 ω n => if x20 = 0 then (some (.inl (some (.int 0), ω, n))) else (rI ω l0 11 13 (fun x22 => wF ω l0 11 13 (.int (x22 - 1)) (fun ω => cO ω l0 11 (kV (F_X11_emits Θ l0 12 0 ω n) (fun ω n => some (.inl (some (.int 1), ω, n))))))))))))))))) else (rI ω l0 11 13 (fun x24 => if x24 = 6 then (some (.inl (some (.int 0), ω, n))) else (rI ω l0 11 13 (fun x26 => wF ω l0 11 13 (.int (x26 + 1)) (fun ω => cO ω l0 11 (kI (F_X11_readCond Θ rcA l0 ω n) (fun x27 ω n => if x27 = 0 then (some (.inl (some (.int 0), ω, n))) else (rI ω l0 11 13 (fun x29 => wF ω l0 11 13 (.int (x29 - 1)) (fun ω => cO ω l0 11 (kI (F_X11_sign Θ l0 41 ω n) (fun x30 ω n => bz x30 (some (.inl (some (.int x30), ω, n)))))))))))))))))
def F_X11_readAtom (Θ : GP) : Nat → Nat → OW → Nat → RO
  | 0, _, _, _ => none
  | f + 1, l0, ω, n => FB_X11_readAtom Θ (F_X11_readAtom Θ f) l0 ω n
theorem ok_J_X11_readAtom_173 (Θ : GP) (rcA : Nat → OW → Nat → RO) (dA : Nat) (hA : ∀ l0 ω n, Ok Θ dA 0 0 yX11_readAtom cX11_readAtom 2 (some .boolean) [.ref l0] ω n (rcA l0 ω n)) (s0 : Int32) (s1 : Nat) (ω : OW) (n : Nat) (r : Out) (h : J_X11_readAtom_173 Θ rcA s0 s1 ω n = some r) : GR Θ yX11_readAtom cX11_readAtom 2 (some .boolean) (dA + 24) (0, 0) 173 [] [.int s0, .ref s1] ω n r := by
  unfold J_X11_readAtom_173 at h
  refine g_iconst (v := 0) dX11_readAtom_173 (by decide) ?_
  refine g_cV (ci := 11) (As := [.int s0, .int 0]) mv_X11_197 dX11_readAtom_174 rfl (ok_X11_emits Θ s1 s0 0 _ _) rfl rfl (Nat.le_of_ble_eq_true rfl) (by omega) (by decide) (by decide) h (fun ω n h => ?_)
  refine G.less (B' := (0, 0)) (by decide) (by decide) ?_
  refine g_iconst (v := 1) dX11_readAtom_177 (by decide) ?_
  cases h
  exact g_zret rfl rfl dX11_readAtom_178 rfl
theorem ok_J_X11_readAtom_159 (Θ : GP) (rcA : Nat → OW → Nat → RO) (dA : Nat) (hA : ∀ l0 ω n, Ok Θ dA 0 0 yX11_readAtom cX11_readAtom 2 (some .boolean) [.ref l0] ω n (rcA l0 ω n)) (ω : OW) (n : Nat) (r : Out) (h : J_X11_readAtom_159 Θ rcA ω n = some r) : GR Θ yX11_readAtom cX11_readAtom 2 (some .boolean) (dA + 24) (0, 0) 159 [] [] ω n r := by
  unfold J_X11_readAtom_159 at h
  refine g_iconst (v := 0) dX11_readAtom_159 (by decide) ?_
  cases h
  exact g_zret rfl rfl dX11_readAtom_160 rfl
theorem ok_J_X11_readAtom_152 (Θ : GP) (rcA : Nat → OW → Nat → RO) (dA : Nat) (hA : ∀ l0 ω n, Ok Θ dA 0 0 yX11_readAtom cX11_readAtom 2 (some .boolean) [.ref l0] ω n (rcA l0 ω n)) (l0 : Nat) (l1 : Int32) (ω : OW) (n : Nat) (r : Out) (h : J_X11_readAtom_152 Θ rcA l0 l1 ω n = some r) : GR Θ yX11_readAtom cX11_readAtom 2 (some .boolean) (dA + 24) (0, 0) 152 [(0, .ref l0), (1, .int l1)] [] ω n r := by
  unfold J_X11_readAtom_152 at h
  refine g_aload_n dX11_readAtom_152 rfl 0 rfl ?_
  refine g_cI (ci := 11) (As := []) mv_X11_227 dX11_readAtom_153 rfl (ok_X11_readSum Θ l0 _ _) rfl rfl (Nat.le_of_ble_eq_true rfl) (by omega) (by decide) (by decide) h (fun x2 ω n h => ?_)
  refine G.less (B' := (0, 0)) (by decide) (by decide) ?_
  refine g_if_ne (tgt := 161) dX11_readAtom_156 (by decide) (fun c3 => ?_) (fun c3 => ?_)
  · rw [if_neg c3] at h
    refine g_aload_n dX11_readAtom_161 rfl 0 rfl ?_
    refine g_iload_n dX11_readAtom_162 rfl 1 rfl ?_
    refine g_if_eq (tgt := 171) dX11_readAtom_163 (by decide) (fun c4 => ?_) (fun c4 => ?_)
    · rw [if_pos c4] at h
      refine g_bipush (v := 11) dX11_readAtom_171 (by decide) ?_
      refine G.lsub [] rfl ?_
      exact ok_J_X11_readAtom_173 Θ rcA dA hA 11 l0 _ _ r h
    · rw [if_neg c4] at h
      refine g_bipush (v := 10) dX11_readAtom_166 (by decide) ?_
      refine g_goto (tgt := 173) dX11_readAtom_168 (by decide) ?_
      refine G.lsub [] rfl ?_
      exact ok_J_X11_readAtom_173 Θ rcA dA hA 10 l0 _ _ r h
  · rw [if_pos c3] at h
    refine G.lsub [] rfl ?_
    exact ok_J_X11_readAtom_159 Θ rcA dA hA _ _ r h
theorem ok_FB_X11_readAtom (Θ : GP) (rcA : Nat → OW → Nat → RO) (dA : Nat) (hA : ∀ l0 ω n, Ok Θ dA 0 0 yX11_readAtom cX11_readAtom 2 (some .boolean) [.ref l0] ω n (rcA l0 ω n)) (l0 : Nat) (ω : OW) (n : Nat) : Ok Θ (dA + 24) 0 0 yX11_readAtom cX11_readAtom 2 (some .boolean) [.ref l0] ω n (FB_X11_readAtom Θ rcA l0 ω n) := by
  refine Ok.of (by decide +kernel) (Nat.le_of_ble_eq_true rfl) (fun r h => ?_)
  unfold FB_X11_readAtom at h
  show GR Θ yX11_readAtom cX11_readAtom 2 (some .boolean) (dA + 24) (0, 0) 0 [(0, .ref l0)] [] ω n r
  refine g_aload_n dX11_readAtom_0 rfl 0 rfl ?_
  refine g_bipush (v := 40) dX11_readAtom_1 (by decide) ?_
  refine g_cI (ci := 11) (As := [.int 40]) mv_X11_208 dX11_readAtom_3 rfl (ok_X11_sign Θ l0 40 _ _) rfl rfl (Nat.le_of_ble_eq_true rfl) (by omega) (by decide) (by decide) h (fun x5 ω n h => ?_)
  refine G.less (B' := (0, 0)) (by decide) (by decide) ?_
  refine g_if_eq (tgt := 56) dX11_readAtom_6 (by decide) (fun c6 => ?_) (fun c6 => ?_)
  · rw [if_pos c6] at h
    refine g_aload_n dX11_readAtom_56 rfl 0 rfl ?_
    refine g_ldcS (q := 14) rfl dX11_readAtom_57 ?_
    refine g_cI (ci := 11) (As := [.ref (gK Θ 14)]) mv_X11_157 dX11_readAtom_59 rfl (ok_X11_passes Θ l0 14 _ _) rfl rfl (Nat.le_of_ble_eq_true rfl) (by omega) (by decide) (by decide) h (fun x7 ω n h => ?_)
    refine G.less (B' := (0, 0)) (by decide) (by decide) ?_
    refine g_if_eq (tgt := 114) dX11_readAtom_62 (by decide) (fun c8 => ?_) (fun c8 => ?_)
    · rw [if_pos c8] at h
      refine g_aload_n dX11_readAtom_114 rfl 0 rfl ?_
      refine g_cI (ci := 11) (As := []) mv_X11_224 dX11_readAtom_115 rfl (ok_X11_readTag Θ l0 _ _) rfl rfl (Nat.le_of_ble_eq_true rfl) (by omega) (by decide) (by decide) h (fun x9 ω n h => ?_)
      refine G.less (B' := (0, 0)) (by decide) (by decide) ?_
      refine g_if_eq (tgt := 123) dX11_readAtom_118 (by decide) (fun c10 => ?_) (fun c10 => ?_)
      · rw [if_pos c10] at h
        refine g_aload_n dX11_readAtom_123 rfl 0 rfl ?_
        refine g_cI (ci := 11) (As := []) mv_X11_227 dX11_readAtom_124 rfl (ok_X11_readSum Θ l0 _ _) rfl rfl (Nat.le_of_ble_eq_true rfl) (by omega) (by decide) (by decide) h (fun x11 ω n h => ?_)
        refine G.less (B' := (0, 0)) (by decide) (by decide) ?_
        refine g_if_ne (tgt := 132) dX11_readAtom_127 (by decide) (fun c12 => ?_) (fun c12 => ?_)
        · rw [if_neg c12] at h
          refine g_aload_n dX11_readAtom_132 rfl 0 rfl ?_
          refine g_bipush (v := 60) dX11_readAtom_133 (by decide) ?_
          refine g_cI (ci := 11) (As := [.int 60]) mv_X11_208 dX11_readAtom_135 rfl (ok_X11_sign Θ l0 60 _ _) rfl rfl (Nat.le_of_ble_eq_true rfl) (by omega) (by decide) (by decide) h (fun x13 ω n h => ?_)
          refine G.less (B' := (0, 0)) (by decide) (by decide) ?_
          refine g_istore_n (lv' := [(1, .int x13), (0, .ref l0)]) dX11_readAtom_138 rfl (by decide) rfl ?_
          refine g_iload_n dX11_readAtom_139 rfl 0 rfl ?_
          refine g_if_ne (tgt := 152) dX11_readAtom_140 (by decide) (fun c14 => ?_) (fun c14 => ?_)
          · rw [if_neg c14] at h
            refine G.lsub [1, 0] rfl ?_
            exact ok_J_X11_readAtom_152 Θ rcA dA hA l0 x13 _ _ r h
          · rw [if_pos c14] at h
            refine g_aload_n dX11_readAtom_143 rfl 1 rfl ?_
            refine g_bipush (v := 62) dX11_readAtom_144 (by decide) ?_
            refine g_cI (ci := 11) (As := [.int 62]) mv_X11_208 dX11_readAtom_146 rfl (ok_X11_sign Θ l0 62 _ _) rfl rfl (Nat.le_of_ble_eq_true rfl) (by omega) (by decide) (by decide) h (fun x15 ω n h => ?_)
            refine G.less (B' := (0, 0)) (by decide) (by decide) ?_
            refine g_if_eq (tgt := 159) dX11_readAtom_149 (by decide) (fun c16 => ?_) (fun c16 => ?_)
            · rw [if_pos c16] at h
              refine G.lsub [] rfl ?_
              exact ok_J_X11_readAtom_159 Θ rcA dA hA _ _ r h
            · rw [if_neg c16] at h
              refine G.lsub [1, 0] rfl ?_
              exact ok_J_X11_readAtom_152 Θ rcA dA hA l0 x13 _ _ r h
        · rw [if_pos c12] at h
          refine g_iconst (v := 0) dX11_readAtom_130 (by decide) ?_
          cases h
          exact g_zret rfl rfl dX11_readAtom_131 rfl
      · rw [if_neg c10] at h
        refine g_iconst (v := 1) dX11_readAtom_121 (by decide) ?_
        cases h
        exact g_zret rfl rfl dX11_readAtom_122 rfl
    · rw [if_neg c8] at h
      refine g_aload_n dX11_readAtom_65 rfl 0 rfl ?_
      refine g_rI fl_X11_213 dX11_readAtom_66 h (fun x17 h => ?_)
      refine g_bipush (v := 6) dX11_readAtom_69 (by decide) ?_
      refine g_icmp_ne (tgt := 76) dX11_readAtom_71 (by decide) (fun c18 => ?_) (fun c18 => ?_)
      · rw [if_neg c18] at h
        refine g_aload_n dX11_readAtom_76 rfl 0 rfl ?_
        refine g_dup dX11_readAtom_77 rfl ?_
        refine g_rI fl_X11_213 dX11_readAtom_78 h (fun x19 h => ?_)
        refine g_iconst (v := 1) dX11_readAtom_81 (by decide) ?_
        refine g_iadd dX11_readAtom_82 ?_
        refine g_wF fl_X11_213 dX11_readAtom_83 (rfl) rfl h (fun ω h => ?_)
        refine g_aload_n dX11_readAtom_86 rfl 0 rfl ?_
        refine g_cI (ci := 11) (As := []) mv_X11_221 dX11_readAtom_87 rfl (hA l0 _ _) rfl rfl (Nat.le_of_ble_eq_true rfl) (by omega) (by decide) (by decide) h (fun x20 ω n h => ?_)
        refine G.less (B' := (0, 0)) (by decide) (by decide) ?_
        refine g_if_ne (tgt := 95) dX11_readAtom_90 (by decide) (fun c21 => ?_) (fun c21 => ?_)
        · rw [if_neg c21] at h
          refine g_aload_n dX11_readAtom_95 rfl 0 rfl ?_
          refine g_dup dX11_readAtom_96 rfl ?_
          refine g_rI fl_X11_213 dX11_readAtom_97 h (fun x22 h => ?_)
          refine g_iconst (v := 1) dX11_readAtom_100 (by decide) ?_
          refine g_isub dX11_readAtom_101 ?_
          refine g_wF fl_X11_213 dX11_readAtom_102 (rfl) rfl h (fun ω h => ?_)
          refine g_aload_n dX11_readAtom_105 rfl 0 rfl ?_
          refine g_bipush (v := 12) dX11_readAtom_106 (by decide) ?_
          refine g_iconst (v := 0) dX11_readAtom_108 (by decide) ?_
          refine g_cV (ci := 11) (As := [.int 12, .int 0]) mv_X11_197 dX11_readAtom_109 rfl (ok_X11_emits Θ l0 12 0 _ _) rfl rfl (Nat.le_of_ble_eq_true rfl) (by omega) (by decide) (by decide) h (fun ω n h => ?_)
          refine G.less (B' := (0, 0)) (by decide) (by decide) ?_
          refine g_iconst (v := 1) dX11_readAtom_112 (by decide) ?_
          cases h
          exact g_zret rfl rfl dX11_readAtom_113 rfl
        · rw [if_pos c21] at h
          refine g_iconst (v := 0) dX11_readAtom_93 (by decide) ?_
          cases h
          exact g_zret rfl rfl dX11_readAtom_94 rfl
      · rw [if_pos c18] at h
        refine g_iconst (v := 0) dX11_readAtom_74 (by decide) ?_
        cases h
        exact g_zret rfl rfl dX11_readAtom_75 rfl
  · rw [if_neg c6] at h
    refine g_aload_n dX11_readAtom_9 rfl 0 rfl ?_
    refine g_rI fl_X11_213 dX11_readAtom_10 h (fun x24 h => ?_)
    refine g_bipush (v := 6) dX11_readAtom_13 (by decide) ?_
    refine g_icmp_ne (tgt := 20) dX11_readAtom_15 (by decide) (fun c25 => ?_) (fun c25 => ?_)
    · rw [if_neg c25] at h
      refine g_aload_n dX11_readAtom_20 rfl 0 rfl ?_
      refine g_dup dX11_readAtom_21 rfl ?_
      refine g_rI fl_X11_213 dX11_readAtom_22 h (fun x26 h => ?_)
      refine g_iconst (v := 1) dX11_readAtom_25 (by decide) ?_
      refine g_iadd dX11_readAtom_26 ?_
      refine g_wF fl_X11_213 dX11_readAtom_27 (rfl) rfl h (fun ω h => ?_)
      refine g_aload_n dX11_readAtom_30 rfl 0 rfl ?_
      refine g_cI (ci := 11) (As := []) mv_X11_216 dX11_readAtom_31 rfl (ok_X11_readCond Θ rcA dA hA l0 _ _) rfl rfl (Nat.le_of_ble_eq_true rfl) (by omega) (by decide) (by decide) h (fun x27 ω n h => ?_)
      refine G.less (B' := (0, 0)) (by decide) (by decide) ?_
      refine g_if_ne (tgt := 39) dX11_readAtom_34 (by decide) (fun c28 => ?_) (fun c28 => ?_)
      · rw [if_neg c28] at h
        refine g_aload_n dX11_readAtom_39 rfl 0 rfl ?_
        refine g_dup dX11_readAtom_40 rfl ?_
        refine g_rI fl_X11_213 dX11_readAtom_41 h (fun x29 h => ?_)
        refine g_iconst (v := 1) dX11_readAtom_44 (by decide) ?_
        refine g_isub dX11_readAtom_45 ?_
        refine g_wF fl_X11_213 dX11_readAtom_46 (rfl) rfl h (fun ω h => ?_)
        refine g_aload_n dX11_readAtom_49 rfl 0 rfl ?_
        refine g_bipush (v := 41) dX11_readAtom_50 (by decide) ?_
        refine g_cI (ci := 11) (As := [.int 41]) mv_X11_208 dX11_readAtom_52 rfl (ok_X11_sign Θ l0 41 _ _) rfl rfl (Nat.le_of_ble_eq_true rfl) (by omega) (by decide) (by decide) h (fun x30 ω n h => ?_)
        refine G.less (B' := (0, 0)) (by decide) (by decide) ?_
        obtain ⟨z31, h⟩ := bz_inv h
        cases h
        exact g_zret rfl z31 dX11_readAtom_55 rfl
      · rw [if_pos c28] at h
        refine g_iconst (v := 0) dX11_readAtom_37 (by decide) ?_
        cases h
        exact g_zret rfl rfl dX11_readAtom_38 rfl
    · rw [if_pos c25] at h
      refine g_iconst (v := 0) dX11_readAtom_18 (by decide) ?_
      cases h
      exact g_zret rfl rfl dX11_readAtom_19 rfl
theorem ok_X11_readAtom (Θ : GP) : ∀ (f : Nat) (l0 : Nat) (ω : OW) (n : Nat), Ok Θ (24 * f) 0 0 yX11_readAtom cX11_readAtom 2 (some .boolean) [.ref l0] ω n (F_X11_readAtom Θ f l0 ω n) := by
  intro f
  induction f with
  | zero =>
    intro l0 ω n r h
    unfold F_X11_readAtom at h
    cases h
  | succ f ih =>
    intro l0 ω n r h
    unfold F_X11_readAtom at h
    exact ok_FB_X11_readAtom Θ (F_X11_readAtom Θ f) (24 * f) ih l0 ω n r h
def J_X11_readProp_106 (Θ : GP) (l0 : Nat) (l1 : Int32) (l2 : Int32) (l3 : Int32) (l4 : Int32) (s0 : Int32) (ω : OW) (n : Nat) : RO := if 0 ≤ s0 then (rA ω l0 11 1 (fun a2 => kI (F_X11_propAt Θ l1 0 ω n) (fun x3 ω n => kI (F_J6_numberOfTrailingZeros_0f7a4 Θ l2 ω n) (fun x4 ω n => sI ω (gI Θ) a2 x3 x4 (fun ω => rA ω l0 11 1 (fun a5 => kI (F_X11_propAt Θ l1 1 ω n) (fun x6 ω n => sI ω (gI Θ) a5 x6 l3 (fun ω => rA ω l0 11 1 (fun a7 => kI (F_X11_propAt Θ l1 2 ω n) (fun x8 ω n => sI ω (gI Θ) a7 x8 s0 (fun ω => rA ω l0 11 1 (fun a9 => kI (F_X11_propAt Θ l1 3 ω n) (fun x10 ω n => sI ω (gI Θ) a9 x10 l4 (fun ω => rA ω l0 11 1 (fun a11 => lI ω (gI Θ) a11 0 (fun x12 => sI ω (gI Θ) a11 0 (x12 + 1) (fun ω => some (.inl (some (.int 1), ω, n))))))))))))))))))) else (some (.inl (some (.int 0), ω, n)))
def J_X11_readProp_86 (Θ : GP) (l0 : Nat) (l1 : Int32) (l2 : Int32) (l3 : Int32) (l4 : Int32) (ω : OW) (n : Nat) : RO := cO ω l0 11 (kI (F_X11_passes Θ l0 2 ω n) (fun x13 ω n => if x13 = 0 then (J_X11_readProp_106 Θ l0 l1 l2 l3 l4 0 ω n) else (cO ω l0 11 (kI (F_X11_number Θ l0 0 99 ω n) (fun x15 ω n => J_X11_readProp_106 Θ l0 l1 l2 l3 l4 x15 ω n)))))
def J_X11_readProp_84 (Θ : GP) (ω : OW) (n : Nat) : RO := some (.inl (some (.int 0), ω, n))
def J_X11_readProp_30 (Θ : GP) (ω : OW) (n : Nat) : RO := some (.inl (some (.int 0), ω, n))
def F_X11_readProp (Θ : GP) (l0 : Nat) (ω : OW) (n : Nat) : RO := cO ω l0 11 (kI (F_X11_props Θ l0 ω n) (fun x16 ω n => if x16 = 8 then (some (.inl (some (.int 0), ω, n))) else (cO ω l0 11 (kI (F_X11_deedsTold Θ l0 ω n) (fun x18 ω n => if x18 < 0 then (J_X11_readProp_30 Θ ω n) else (kI (F_J6_bitCount_0f7a4 Θ x18 ω n) (fun x20 ω n => if x20 = 1 then (cO ω l0 11 (kI (F_X11_after Θ l0 0 0 20 ω n) (fun x22 ω n => if 0 ≤ x22 then (cO ω l0 11 (kI (F_X11_passes Θ l0 1 ω n) (fun x24 ω n => if x24 = 0 then (J_X11_readProp_86 Θ l0 x16 x18 x22 (-1) ω n) else (cO ω l0 11 (kI (F_X11_number Θ l0 0 9 ω n) (fun x26 ω n => if x26 < 0 then (J_X11_readProp_84 Θ ω n) else (cO ω l0 11 (kI (F_X11_propIn Θ l0 x26 ω n) (fun x28 ω n => if x28 = (-1) then (J_X11_readProp_86 Θ l0 x16 x18 x22 x26 ω n) else (J_X11_readProp_84 Θ ω n)))))))))) else (some (.inl (some (.int 0), ω, n)))))) else (J_X11_readProp_30 Θ ω n))))))))
theorem ok_J_X11_readProp_106 (Θ : GP) (l0 : Nat) (l1 : Int32) (l2 : Int32) (l3 : Int32) (l4 : Int32) (s0 : Int32) (ω : OW) (n : Nat) (r : Out) (h : J_X11_readProp_106 Θ l0 l1 l2 l3 l4 s0 ω n = some r) : GR Θ yX11_readProp cX11_readProp 6 (some .boolean) 8 (0, 0) 106 [(0, .ref l0), (1, .int l1), (2, .int l2), (3, .int l3), (4, .int l4)] [.int s0] ω n r := by
  unfold J_X11_readProp_106 at h
  refine g_istore (lv' := [(5, .int s0), (0, .ref l0), (1, .int l1), (2, .int l2), (3, .int l3), (4, .int l4)]) dX11_readProp_106 (by decide) rfl ?_
  refine g_iload dX11_readProp_108 0 rfl ?_
  refine g_if_ge (tgt := 115) dX11_readProp_110 (by decide) (fun c1 => ?_) (fun c1 => ?_)
  · rw [if_pos c1] at h
    refine g_aload_n dX11_readProp_115 rfl 1 rfl ?_
    refine g_rA fl_X11_13 dX11_readProp_116 h (fun a2 h => ?_)
    refine g_iload_n dX11_readProp_119 rfl 2 rfl ?_
    refine g_iconst (v := 0) dX11_readProp_120 (by decide) ?_
    refine g_sI (As := [.int l1, .int 0]) ms_X11_70 dX11_readProp_121 (ok_X11_propAt Θ l1 0 _ _) rfl rfl (Nat.le_of_ble_eq_true rfl) (by decide) (by decide) (by decide) h (fun x3 ω n h => ?_)
    refine G.less (B' := (0, 0)) (by decide) (by decide) ?_
    refine g_iload_n dX11_readProp_124 rfl 3 rfl ?_
    refine g_sI (As := [.int l2]) ms_X11_165 dX11_readProp_125 (ok_J6_numberOfTrailingZeros_0f7a4 Θ l2 _ _) rfl rfl (Nat.le_of_ble_eq_true rfl) (by decide) (by decide) (by decide) h (fun x4 ω n h => ?_)
    refine G.less (B' := (0, 0)) (by decide) (by decide) ?_
    refine g_sIi dX11_readProp_128 h (fun ω h => ?_)
    refine g_aload_n dX11_readProp_129 rfl 1 rfl ?_
    refine g_rA fl_X11_13 dX11_readProp_130 h (fun a5 h => ?_)
    refine g_iload_n dX11_readProp_133 rfl 2 rfl ?_
    refine g_iconst (v := 1) dX11_readProp_134 (by decide) ?_
    refine g_sI (As := [.int l1, .int 1]) ms_X11_70 dX11_readProp_135 (ok_X11_propAt Θ l1 1 _ _) rfl rfl (Nat.le_of_ble_eq_true rfl) (by decide) (by decide) (by decide) h (fun x6 ω n h => ?_)
    refine G.less (B' := (0, 0)) (by decide) (by decide) ?_
    refine g_iload_n dX11_readProp_138 rfl 4 rfl ?_
    refine g_sIi dX11_readProp_139 h (fun ω h => ?_)
    refine g_aload_n dX11_readProp_140 rfl 1 rfl ?_
    refine g_rA fl_X11_13 dX11_readProp_141 h (fun a7 h => ?_)
    refine g_iload_n dX11_readProp_144 rfl 2 rfl ?_
    refine g_iconst (v := 2) dX11_readProp_145 (by decide) ?_
    refine g_sI (As := [.int l1, .int 2]) ms_X11_70 dX11_readProp_146 (ok_X11_propAt Θ l1 2 _ _) rfl rfl (Nat.le_of_ble_eq_true rfl) (by decide) (by decide) (by decide) h (fun x8 ω n h => ?_)
    refine G.less (B' := (0, 0)) (by decide) (by decide) ?_
    refine g_iload dX11_readProp_149 0 rfl ?_
    refine g_sIi dX11_readProp_151 h (fun ω h => ?_)
    refine g_aload_n dX11_readProp_152 rfl 1 rfl ?_
    refine g_rA fl_X11_13 dX11_readProp_153 h (fun a9 h => ?_)
    refine g_iload_n dX11_readProp_156 rfl 2 rfl ?_
    refine g_iconst (v := 3) dX11_readProp_157 (by decide) ?_
    refine g_sI (As := [.int l1, .int 3]) ms_X11_70 dX11_readProp_158 (ok_X11_propAt Θ l1 3 _ _) rfl rfl (Nat.le_of_ble_eq_true rfl) (by decide) (by decide) (by decide) h (fun x10 ω n h => ?_)
    refine G.less (B' := (0, 0)) (by decide) (by decide) ?_
    refine g_iload dX11_readProp_161 5 rfl ?_
    refine g_sIi dX11_readProp_163 h (fun ω h => ?_)
    refine g_aload_n dX11_readProp_164 rfl 1 rfl ?_
    refine g_rA fl_X11_13 dX11_readProp_165 h (fun a11 h => ?_)
    refine g_iconst (v := 0) dX11_readProp_168 (by decide) ?_
    refine g_dup2 dX11_readProp_169 rfl rfl ?_
    refine g_lIi dX11_readProp_170 h (fun x12 h => ?_)
    refine g_iconst (v := 1) dX11_readProp_171 (by decide) ?_
    refine g_iadd dX11_readProp_172 ?_
    refine g_sIi dX11_readProp_173 h (fun ω h => ?_)
    refine g_iconst (v := 1) dX11_readProp_174 (by decide) ?_
    cases h
    exact g_zret rfl rfl dX11_readProp_175 rfl
  · rw [if_neg c1] at h
    refine g_iconst (v := 0) dX11_readProp_113 (by decide) ?_
    cases h
    exact g_zret rfl rfl dX11_readProp_114 rfl
theorem ok_J_X11_readProp_86 (Θ : GP) (l0 : Nat) (l1 : Int32) (l2 : Int32) (l3 : Int32) (l4 : Int32) (ω : OW) (n : Nat) (r : Out) (h : J_X11_readProp_86 Θ l0 l1 l2 l3 l4 ω n = some r) : GR Θ yX11_readProp cX11_readProp 6 (some .boolean) 8 (0, 0) 86 [(0, .ref l0), (1, .int l1), (2, .int l2), (3, .int l3), (4, .int l4)] [] ω n r := by
  unfold J_X11_readProp_86 at h
  refine g_aload_n dX11_readProp_86 rfl 0 rfl ?_
  refine g_ldcS (q := 2) rfl dX11_readProp_87 ?_
  refine g_cI (ci := 11) (As := [.ref (gK Θ 2)]) mv_X11_157 dX11_readProp_89 rfl (ok_X11_passes Θ l0 2 _ _) rfl rfl (Nat.le_of_ble_eq_true rfl) (by decide) (by decide) (by decide) h (fun x13 ω n h => ?_)
  refine G.less (B' := (0, 0)) (by decide) (by decide) ?_
  refine g_if_eq (tgt := 105) dX11_readProp_92 (by decide) (fun c14 => ?_) (fun c14 => ?_)
  · rw [if_pos c14] at h
    refine g_iconst (v := 0) dX11_readProp_105 (by decide) ?_
    exact ok_J_X11_readProp_106 Θ l0 l1 l2 l3 l4 0 _ _ r h
  · rw [if_neg c14] at h
    refine g_aload_n dX11_readProp_95 rfl 0 rfl ?_
    refine g_iconst (v := 0) dX11_readProp_96 (by decide) ?_
    refine g_bipush (v := 99) dX11_readProp_97 (by decide) ?_
    refine g_cI (ci := 11) (As := [.int 0, .int 99]) mv_X11_134 dX11_readProp_99 rfl (ok_X11_number Θ l0 0 99 _ _) rfl rfl (Nat.le_of_ble_eq_true rfl) (by decide) (by decide) (by decide) h (fun x15 ω n h => ?_)
    refine G.less (B' := (0, 0)) (by decide) (by decide) ?_
    refine g_goto (tgt := 106) dX11_readProp_102 (by decide) ?_
    exact ok_J_X11_readProp_106 Θ l0 l1 l2 l3 l4 x15 _ _ r h
theorem ok_J_X11_readProp_84 (Θ : GP) (ω : OW) (n : Nat) (r : Out) (h : J_X11_readProp_84 Θ ω n = some r) : GR Θ yX11_readProp cX11_readProp 6 (some .boolean) 8 (0, 0) 84 [] [] ω n r := by
  unfold J_X11_readProp_84 at h
  refine g_iconst (v := 0) dX11_readProp_84 (by decide) ?_
  cases h
  exact g_zret rfl rfl dX11_readProp_85 rfl
theorem ok_J_X11_readProp_30 (Θ : GP) (ω : OW) (n : Nat) (r : Out) (h : J_X11_readProp_30 Θ ω n = some r) : GR Θ yX11_readProp cX11_readProp 6 (some .boolean) 8 (0, 0) 30 [] [] ω n r := by
  unfold J_X11_readProp_30 at h
  refine g_iconst (v := 0) dX11_readProp_30 (by decide) ?_
  cases h
  exact g_zret rfl rfl dX11_readProp_31 rfl
theorem ok_X11_readProp (Θ : GP) (l0 : Nat) (ω : OW) (n : Nat) : Ok Θ 8 0 0 yX11_readProp cX11_readProp 6 (some .boolean) [.ref l0] ω n (F_X11_readProp Θ l0 ω n) := by
  refine Ok.of (by decide +kernel) (Nat.le_of_ble_eq_true rfl) (fun r h => ?_)
  unfold F_X11_readProp at h
  show GR Θ yX11_readProp cX11_readProp 6 (some .boolean) 8 (0, 0) 0 [(0, .ref l0)] [] ω n r
  refine g_aload_n dX11_readProp_0 rfl 0 rfl ?_
  refine g_cI (ci := 11) (As := []) mv_X11_83 dX11_readProp_1 rfl (ok_X11_props Θ l0 _ _) rfl rfl (Nat.le_of_ble_eq_true rfl) (by decide) (by decide) (by decide) h (fun x16 ω n h => ?_)
  refine G.less (B' := (0, 0)) (by decide) (by decide) ?_
  refine g_istore_n (lv' := [(1, .int x16), (0, .ref l0)]) dX11_readProp_4 rfl (by decide) rfl ?_
  refine g_iload_n dX11_readProp_5 rfl 0 rfl ?_
  refine g_bipush (v := 8) dX11_readProp_6 (by decide) ?_
  refine g_icmp_ne (tgt := 13) dX11_readProp_8 (by decide) (fun c17 => ?_) (fun c17 => ?_)
  · rw [if_neg c17] at h
    refine g_aload_n dX11_readProp_13 rfl 1 rfl ?_
    refine g_cI (ci := 11) (As := []) mv_X11_140 dX11_readProp_14 rfl (ok_X11_deedsTold Θ l0 _ _) rfl rfl (Nat.le_of_ble_eq_true rfl) (by decide) (by decide) (by decide) h (fun x18 ω n h => ?_)
    refine G.less (B' := (0, 0)) (by decide) (by decide) ?_
    refine g_istore_n (lv' := [(2, .int x18), (1, .int x16), (0, .ref l0)]) dX11_readProp_17 rfl (by decide) rfl ?_
    refine g_iload_n dX11_readProp_18 rfl 0 rfl ?_
    refine g_if_lt (tgt := 30) dX11_readProp_19 (by decide) (fun c19 => ?_) (fun c19 => ?_)
    · rw [if_pos c19] at h
      refine G.lsub [] rfl ?_
      exact ok_J_X11_readProp_30 Θ _ _ r h
    · rw [if_neg c19] at h
      refine g_iload_n dX11_readProp_22 rfl 0 rfl ?_
      refine g_sI (As := [.int x18]) ms_X11_143 dX11_readProp_23 (ok_J6_bitCount_0f7a4 Θ x18 _ _) rfl rfl (Nat.le_of_ble_eq_true rfl) (by decide) (by decide) (by decide) h (fun x20 ω n h => ?_)
      refine G.less (B' := (0, 0)) (by decide) (by decide) ?_
      refine g_iconst (v := 1) dX11_readProp_26 (by decide) ?_
      refine g_icmp_eq (tgt := 32) dX11_readProp_27 (by decide) (fun c21 => ?_) (fun c21 => ?_)
      · rw [if_pos c21] at h
        refine g_aload_n dX11_readProp_32 rfl 2 rfl ?_
        refine g_ldcS (q := 0) rfl dX11_readProp_33 ?_
        refine g_iconst (v := 0) dX11_readProp_35 (by decide) ?_
        refine g_bipush (v := 20) dX11_readProp_36 (by decide) ?_
        refine g_cI (ci := 11) (As := [.ref (gK Θ 0), .int 0, .int 20]) mv_X11_151 dX11_readProp_38 rfl (ok_X11_after Θ l0 0 0 20 _ _) rfl rfl (Nat.le_of_ble_eq_true rfl) (by decide) (by decide) (by decide) h (fun x22 ω n h => ?_)
        refine G.less (B' := (0, 0)) (by decide) (by decide) ?_
        refine g_istore_n (lv' := [(3, .int x22), (2, .int x18), (1, .int x16), (0, .ref l0)]) dX11_readProp_41 rfl (by decide) rfl ?_
        refine g_iload_n dX11_readProp_42 rfl 0 rfl ?_
        refine g_if_ge (tgt := 48) dX11_readProp_43 (by decide) (fun c23 => ?_) (fun c23 => ?_)
        · rw [if_pos c23] at h
          refine g_iconst (v := (-1)) dX11_readProp_48 (by decide) ?_
          refine g_istore (lv' := [(4, .int (-1)), (3, .int x22), (2, .int x18), (1, .int x16), (0, .ref l0)]) dX11_readProp_49 (by decide) rfl ?_
          refine g_aload_n dX11_readProp_51 rfl 4 rfl ?_
          refine g_ldcS (q := 1) rfl dX11_readProp_52 ?_
          refine g_cI (ci := 11) (As := [.ref (gK Θ 1)]) mv_X11_157 dX11_readProp_54 rfl (ok_X11_passes Θ l0 1 _ _) rfl rfl (Nat.le_of_ble_eq_true rfl) (by decide) (by decide) (by decide) h (fun x24 ω n h => ?_)
          refine G.less (B' := (0, 0)) (by decide) (by decide) ?_
          refine g_if_eq (tgt := 86) dX11_readProp_57 (by decide) (fun c25 => ?_) (fun c25 => ?_)
          · rw [if_pos c25] at h
            refine G.lsub [4, 3, 2, 1, 0] rfl ?_
            exact ok_J_X11_readProp_86 Θ l0 x16 x18 x22 (-1) _ _ r h
          · rw [if_neg c25] at h
            refine g_aload_n dX11_readProp_60 rfl 4 rfl ?_
            refine g_iconst (v := 0) dX11_readProp_61 (by decide) ?_
            refine g_bipush (v := 9) dX11_readProp_62 (by decide) ?_
            refine g_cI (ci := 11) (As := [.int 0, .int 9]) mv_X11_134 dX11_readProp_64 rfl (ok_X11_number Θ l0 0 9 _ _) rfl rfl (Nat.le_of_ble_eq_true rfl) (by decide) (by decide) (by decide) h (fun x26 ω n h => ?_)
            refine G.less (B' := (0, 0)) (by decide) (by decide) ?_
            refine g_istore (lv' := [(4, .int x26), (3, .int x22), (2, .int x18), (1, .int x16), (0, .ref l0)]) dX11_readProp_67 (by decide) rfl ?_
            refine g_iload dX11_readProp_69 0 rfl ?_
            refine g_if_lt (tgt := 84) dX11_readProp_71 (by decide) (fun c27 => ?_) (fun c27 => ?_)
            · rw [if_pos c27] at h
              refine G.lsub [] rfl ?_
              exact ok_J_X11_readProp_84 Θ _ _ r h
            · rw [if_neg c27] at h
              refine g_aload_n dX11_readProp_74 rfl 4 rfl ?_
              refine g_iload dX11_readProp_75 0 rfl ?_
              refine g_cI (ci := 11) (As := [.int x26]) mv_X11_160 dX11_readProp_77 rfl (ok_X11_propIn Θ l0 x26 _ _) rfl rfl (Nat.le_of_ble_eq_true rfl) (by decide) (by decide) (by decide) h (fun x28 ω n h => ?_)
              refine G.less (B' := (0, 0)) (by decide) (by decide) ?_
              refine g_iconst (v := (-1)) dX11_readProp_80 (by decide) ?_
              refine g_icmp_eq (tgt := 86) dX11_readProp_81 (by decide) (fun c29 => ?_) (fun c29 => ?_)
              · rw [if_pos c29] at h
                refine G.lsub [4, 3, 2, 1, 0] rfl ?_
                exact ok_J_X11_readProp_86 Θ l0 x16 x18 x22 x26 _ _ r h
              · rw [if_neg c29] at h
                refine G.lsub [] rfl ?_
                exact ok_J_X11_readProp_84 Θ _ _ r h
        · rw [if_neg c23] at h
          refine g_iconst (v := 0) dX11_readProp_46 (by decide) ?_
          cases h
          exact g_zret rfl rfl dX11_readProp_47 rfl
      · rw [if_neg c21] at h
        refine G.lsub [] rfl ?_
        exact ok_J_X11_readProp_30 Θ _ _ r h
  · rw [if_pos c17] at h
    refine g_iconst (v := 0) dX11_readProp_11 (by decide) ?_
    cases h
    exact g_zret rfl rfl dX11_readProp_12 rfl
def J_X11_readAccused_91 (Θ : GP) (l0 : Nat) (l1 : Int32) (l2 : Int32) (l3 : Int32) (l4 : Int32) (ω : OW) (n : Nat) : RO := rA ω l0 11 1 (fun a1 => kI (F_X11_oneAt Θ l1 0 ω n) (fun x2 ω n => sI ω (gI Θ) a1 x2 l3 (fun ω => rA ω l0 11 1 (fun a3 => kI (F_X11_oneAt Θ l1 1 ω n) (fun x4 ω n => sI ω (gI Θ) a3 x4 l2 (fun ω => rA ω l0 11 1 (fun a5 => kI (F_X11_oneAt Θ l1 2 ω n) (fun x6 ω n => sI ω (gI Θ) a5 x6 l4 (fun ω => rA ω l0 11 1 (fun a7 => kI (F_X11_oneAt Θ l1 3 ω n) (fun x8 ω n => sI ω (gI Θ) a7 x8 0 (fun ω => rA ω l0 11 1 (fun a9 => lI ω (gI Θ) a9 1 (fun x10 => sI ω (gI Θ) a9 1 (x10 + 1) (fun ω => some (.inl (some (.int 1), ω, n)))))))))))))))))
def J_X11_readAccused_46 (Θ : GP) (l0 : Nat) (l1 : Int32) (l2 : Int32) (s0 : Int32) (ω : OW) (n : Nat) : RO := if 0 ≤ s0 then (cO ω l0 11 (kI (F_X11_passes Θ l0 5 ω n) (fun x12 ω n => if x12 = 0 then (J_X11_readAccused_91 Θ l0 l1 l2 s0 0 ω n) else (cO ω l0 11 (kI (F_X11_props Θ l0 ω n) (fun x14 ω n => cO ω l0 11 (kI (F_X11_number Θ l0 0 (x14 - 1) ω n) (fun x15 ω n => if 0 ≤ x15 then (J_X11_readAccused_91 Θ l0 l1 l2 s0 (1 <<< ((x15 : Int32) &&& 31)) ω n) else (some (.inl (some (.int 0), ω, n))))))))))) else (some (.inl (some (.int 0), ω, n)))
def F_X11_readAccused (Θ : GP) (l0 : Nat) (ω : OW) (n : Nat) : RO := cO ω l0 11 (kI (F_X11_oneCount Θ l0 ω n) (fun x17 ω n => if x17 = 6 then (some (.inl (some (.int 0), ω, n))) else (cO ω l0 11 (kI (F_X11_after Θ l0 3 1 60 ω n) (fun x19 ω n => if 0 ≤ x19 then (cO ω l0 11 (kI (F_X11_passes Θ l0 4 ω n) (fun x21 ω n => if x21 = 0 then (J_X11_readAccused_46 Θ l0 x17 x19 0 ω n) else (cO ω l0 11 (kI (F_X11_deedsTold Θ l0 ω n) (fun x23 ω n => J_X11_readAccused_46 Θ l0 x17 x19 x23 ω n)))))) else (some (.inl (some (.int 0), ω, n))))))))
theorem ok_J_X11_readAccused_91 (Θ : GP) (l0 : Nat) (l1 : Int32) (l2 : Int32) (l3 : Int32) (l4 : Int32) (ω : OW) (n : Nat) (r : Out) (h : J_X11_readAccused_91 Θ l0 l1 l2 l3 l4 ω n = some r) : GR Θ yX11_readAccused cX11_readAccused 6 (some .boolean) 8 (0, 0) 91 [(0, .ref l0), (1, .int l1), (2, .int l2), (3, .int l3), (4, .int l4)] [] ω n r := by
  unfold J_X11_readAccused_91 at h
  refine g_aload_n dX11_readAccused_91 rfl 0 rfl ?_
  refine g_rA fl_X11_13 dX11_readAccused_92 h (fun a1 h => ?_)
  refine g_iload_n dX11_readAccused_95 rfl 1 rfl ?_
  refine g_iconst (v := 0) dX11_readAccused_96 (by decide) ?_
  refine g_sI (As := [.int l1, .int 0]) ms_X11_77 dX11_readAccused_97 (ok_X11_oneAt Θ l1 0 _ _) rfl rfl (Nat.le_of_ble_eq_true rfl) (by decide) (by decide) (by decide) h (fun x2 ω n h => ?_)
  refine G.less (B' := (0, 0)) (by decide) (by decide) ?_
  refine g_iload_n dX11_readAccused_100 rfl 3 rfl ?_
  refine g_sIi dX11_readAccused_101 h (fun ω h => ?_)
  refine g_aload_n dX11_readAccused_102 rfl 0 rfl ?_
  refine g_rA fl_X11_13 dX11_readAccused_103 h (fun a3 h => ?_)
  refine g_iload_n dX11_readAccused_106 rfl 1 rfl ?_
  refine g_iconst (v := 1) dX11_readAccused_107 (by decide) ?_
  refine g_sI (As := [.int l1, .int 1]) ms_X11_77 dX11_readAccused_108 (ok_X11_oneAt Θ l1 1 _ _) rfl rfl (Nat.le_of_ble_eq_true rfl) (by decide) (by decide) (by decide) h (fun x4 ω n h => ?_)
  refine G.less (B' := (0, 0)) (by decide) (by decide) ?_
  refine g_iload_n dX11_readAccused_111 rfl 2 rfl ?_
  refine g_sIi dX11_readAccused_112 h (fun ω h => ?_)
  refine g_aload_n dX11_readAccused_113 rfl 0 rfl ?_
  refine g_rA fl_X11_13 dX11_readAccused_114 h (fun a5 h => ?_)
  refine g_iload_n dX11_readAccused_117 rfl 1 rfl ?_
  refine g_iconst (v := 2) dX11_readAccused_118 (by decide) ?_
  refine g_sI (As := [.int l1, .int 2]) ms_X11_77 dX11_readAccused_119 (ok_X11_oneAt Θ l1 2 _ _) rfl rfl (Nat.le_of_ble_eq_true rfl) (by decide) (by decide) (by decide) h (fun x6 ω n h => ?_)
  refine G.less (B' := (0, 0)) (by decide) (by decide) ?_
  refine g_iload dX11_readAccused_122 4 rfl ?_
  refine g_sIi dX11_readAccused_124 h (fun ω h => ?_)
  refine g_aload_n dX11_readAccused_125 rfl 0 rfl ?_
  refine g_rA fl_X11_13 dX11_readAccused_126 h (fun a7 h => ?_)
  refine g_iload_n dX11_readAccused_129 rfl 1 rfl ?_
  refine g_iconst (v := 3) dX11_readAccused_130 (by decide) ?_
  refine g_sI (As := [.int l1, .int 3]) ms_X11_77 dX11_readAccused_131 (ok_X11_oneAt Θ l1 3 _ _) rfl rfl (Nat.le_of_ble_eq_true rfl) (by decide) (by decide) (by decide) h (fun x8 ω n h => ?_)
  refine G.less (B' := (0, 0)) (by decide) (by decide) ?_
  refine g_iconst (v := 0) dX11_readAccused_134 (by decide) ?_
  refine g_sIi dX11_readAccused_135 h (fun ω h => ?_)
  refine g_aload_n dX11_readAccused_136 rfl 0 rfl ?_
  refine g_rA fl_X11_13 dX11_readAccused_137 h (fun a9 h => ?_)
  refine g_iconst (v := 1) dX11_readAccused_140 (by decide) ?_
  refine g_dup2 dX11_readAccused_141 rfl rfl ?_
  refine g_lIi dX11_readAccused_142 h (fun x10 h => ?_)
  refine g_iconst (v := 1) dX11_readAccused_143 (by decide) ?_
  refine g_iadd dX11_readAccused_144 ?_
  refine g_sIi dX11_readAccused_145 h (fun ω h => ?_)
  refine g_iconst (v := 1) dX11_readAccused_146 (by decide) ?_
  cases h
  exact g_zret rfl rfl dX11_readAccused_147 rfl
theorem ok_J_X11_readAccused_46 (Θ : GP) (l0 : Nat) (l1 : Int32) (l2 : Int32) (s0 : Int32) (ω : OW) (n : Nat) (r : Out) (h : J_X11_readAccused_46 Θ l0 l1 l2 s0 ω n = some r) : GR Θ yX11_readAccused cX11_readAccused 6 (some .boolean) 8 (0, 0) 46 [(0, .ref l0), (1, .int l1), (2, .int l2)] [.int s0] ω n r := by
  unfold J_X11_readAccused_46 at h
  refine g_istore_n (lv' := [(3, .int s0), (0, .ref l0), (1, .int l1), (2, .int l2)]) dX11_readAccused_46 rfl (by decide) rfl ?_
  refine g_iload_n dX11_readAccused_47 rfl 0 rfl ?_
  refine g_if_ge (tgt := 53) dX11_readAccused_48 (by decide) (fun c11 => ?_) (fun c11 => ?_)
  · rw [if_pos c11] at h
    refine g_iconst (v := 0) dX11_readAccused_53 (by decide) ?_
    refine g_istore (lv' := [(4, .int 0), (3, .int s0), (0, .ref l0), (1, .int l1), (2, .int l2)]) dX11_readAccused_54 (by decide) rfl ?_
    refine g_aload_n dX11_readAccused_56 rfl 2 rfl ?_
    refine g_ldcS (q := 5) rfl dX11_readAccused_57 ?_
    refine g_cI (ci := 11) (As := [.ref (gK Θ 5)]) mv_X11_157 dX11_readAccused_59 rfl (ok_X11_passes Θ l0 5 _ _) rfl rfl (Nat.le_of_ble_eq_true rfl) (by decide) (by decide) (by decide) h (fun x12 ω n h => ?_)
    refine G.less (B' := (0, 0)) (by decide) (by decide) ?_
    refine g_if_eq (tgt := 91) dX11_readAccused_62 (by decide) (fun c13 => ?_) (fun c13 => ?_)
    · rw [if_pos c13] at h
      refine G.lsub [2, 3, 4, 1, 0] rfl ?_
      exact ok_J_X11_readAccused_91 Θ l0 l1 l2 s0 0 _ _ r h
    · rw [if_neg c13] at h
      refine g_aload_n dX11_readAccused_65 rfl 2 rfl ?_
      refine g_iconst (v := 0) dX11_readAccused_66 (by decide) ?_
      refine g_aload_n dX11_readAccused_67 rfl 2 rfl ?_
      refine g_cI (ci := 11) (As := []) mv_X11_83 dX11_readAccused_68 rfl (ok_X11_props Θ l0 _ _) rfl rfl (Nat.le_of_ble_eq_true rfl) (by decide) (by decide) (by decide) h (fun x14 ω n h => ?_)
      refine G.less (B' := (0, 0)) (by decide) (by decide) ?_
      refine g_iconst (v := 1) dX11_readAccused_71 (by decide) ?_
      refine g_isub dX11_readAccused_72 ?_
      refine g_cI (ci := 11) (As := [.int 0, .int (x14 - 1)]) mv_X11_134 dX11_readAccused_73 rfl (ok_X11_number Θ l0 0 (x14 - 1) _ _) rfl rfl (Nat.le_of_ble_eq_true rfl) (by decide) (by decide) (by decide) h (fun x15 ω n h => ?_)
      refine G.less (B' := (0, 0)) (by decide) (by decide) ?_
      refine g_istore (lv' := [(5, .int x15), (4, .int 0), (3, .int s0), (0, .ref l0), (1, .int l1), (2, .int l2)]) dX11_readAccused_76 (by decide) rfl ?_
      refine g_iload dX11_readAccused_78 0 rfl ?_
      refine g_if_ge (tgt := 85) dX11_readAccused_80 (by decide) (fun c16 => ?_) (fun c16 => ?_)
      · rw [if_pos c16] at h
        refine g_iconst (v := 1) dX11_readAccused_85 (by decide) ?_
        refine g_iload dX11_readAccused_86 0 rfl ?_
        refine g_ishl dX11_readAccused_88 ?_
        refine g_istore (lv' := [(4, .int (1 <<< ((x15 : Int32) &&& 31))), (5, .int x15), (3, .int s0), (0, .ref l0), (1, .int l1), (2, .int l2)]) dX11_readAccused_89 (by decide) rfl ?_
        refine G.lsub [3, 4, 5, 2, 0] rfl ?_
        exact ok_J_X11_readAccused_91 Θ l0 l1 l2 s0 (1 <<< ((x15 : Int32) &&& 31)) _ _ r h
      · rw [if_neg c16] at h
        refine g_iconst (v := 0) dX11_readAccused_83 (by decide) ?_
        cases h
        exact g_zret rfl rfl dX11_readAccused_84 rfl
  · rw [if_neg c11] at h
    refine g_iconst (v := 0) dX11_readAccused_51 (by decide) ?_
    cases h
    exact g_zret rfl rfl dX11_readAccused_52 rfl
theorem ok_X11_readAccused (Θ : GP) (l0 : Nat) (ω : OW) (n : Nat) : Ok Θ 8 0 0 yX11_readAccused cX11_readAccused 6 (some .boolean) [.ref l0] ω n (F_X11_readAccused Θ l0 ω n) := by
  refine Ok.of (by decide +kernel) (Nat.le_of_ble_eq_true rfl) (fun r h => ?_)
  unfold F_X11_readAccused at h
  show GR Θ yX11_readAccused cX11_readAccused 6 (some .boolean) 8 (0, 0) 0 [(0, .ref l0)] [] ω n r
  refine g_aload_n dX11_readAccused_0 rfl 0 rfl ?_
  refine g_cI (ci := 11) (As := []) mv_X11_91 dX11_readAccused_1 rfl (ok_X11_oneCount Θ l0 _ _) rfl rfl (Nat.le_of_ble_eq_true rfl) (by decide) (by decide) (by decide) h (fun x17 ω n h => ?_)
  refine G.less (B' := (0, 0)) (by decide) (by decide) ?_
  refine g_istore_n (lv' := [(1, .int x17), (0, .ref l0)]) dX11_readAccused_4 rfl (by decide) rfl ?_
  refine g_iload_n dX11_readAccused_5 rfl 0 rfl ?_
  refine g_bipush (v := 6) dX11_readAccused_6 (by decide) ?_
  refine g_icmp_ne (tgt := 13) dX11_readAccused_8 (by decide) (fun c18 => ?_) (fun c18 => ?_)
  · rw [if_neg c18] at h
    refine g_aload_n dX11_readAccused_13 rfl 1 rfl ?_
    refine g_ldcS (q := 3) rfl dX11_readAccused_14 ?_
    refine g_iconst (v := 1) dX11_readAccused_16 (by decide) ?_
    refine g_bipush (v := 60) dX11_readAccused_17 (by decide) ?_
    refine g_cI (ci := 11) (As := [.ref (gK Θ 3), .int 1, .int 60]) mv_X11_151 dX11_readAccused_19 rfl (ok_X11_after Θ l0 3 1 60 _ _) rfl rfl (Nat.le_of_ble_eq_true rfl) (by decide) (by decide) (by decide) h (fun x19 ω n h => ?_)
    refine G.less (B' := (0, 0)) (by decide) (by decide) ?_
    refine g_istore_n (lv' := [(2, .int x19), (1, .int x17), (0, .ref l0)]) dX11_readAccused_22 rfl (by decide) rfl ?_
    refine g_iload_n dX11_readAccused_23 rfl 0 rfl ?_
    refine g_if_ge (tgt := 29) dX11_readAccused_24 (by decide) (fun c20 => ?_) (fun c20 => ?_)
    · rw [if_pos c20] at h
      refine g_aload_n dX11_readAccused_29 rfl 2 rfl ?_
      refine g_ldcS (q := 4) rfl dX11_readAccused_30 ?_
      refine g_cI (ci := 11) (As := [.ref (gK Θ 4)]) mv_X11_157 dX11_readAccused_32 rfl (ok_X11_passes Θ l0 4 _ _) rfl rfl (Nat.le_of_ble_eq_true rfl) (by decide) (by decide) (by decide) h (fun x21 ω n h => ?_)
      refine G.less (B' := (0, 0)) (by decide) (by decide) ?_
      refine g_if_eq (tgt := 45) dX11_readAccused_35 (by decide) (fun c22 => ?_) (fun c22 => ?_)
      · rw [if_pos c22] at h
        refine g_iconst (v := 0) dX11_readAccused_45 (by decide) ?_
        refine G.lsub [2, 1, 0] rfl ?_
        exact ok_J_X11_readAccused_46 Θ l0 x17 x19 0 _ _ r h
      · rw [if_neg c22] at h
        refine g_aload_n dX11_readAccused_38 rfl 2 rfl ?_
        refine g_cI (ci := 11) (As := []) mv_X11_140 dX11_readAccused_39 rfl (ok_X11_deedsTold Θ l0 _ _) rfl rfl (Nat.le_of_ble_eq_true rfl) (by decide) (by decide) (by decide) h (fun x23 ω n h => ?_)
        refine G.less (B' := (0, 0)) (by decide) (by decide) ?_
        refine g_goto (tgt := 46) dX11_readAccused_42 (by decide) ?_
        refine G.lsub [2, 1, 0] rfl ?_
        exact ok_J_X11_readAccused_46 Θ l0 x17 x19 x23 _ _ r h
    · rw [if_neg c20] at h
      refine g_iconst (v := 0) dX11_readAccused_27 (by decide) ?_
      cases h
      exact g_zret rfl rfl dX11_readAccused_28 rfl
  · rw [if_pos c18] at h
    refine g_iconst (v := 0) dX11_readAccused_11 (by decide) ?_
    cases h
    exact g_zret rfl rfl dX11_readAccused_12 rfl
def J_X11_readCourtLine_91 (Θ : GP) (s0 : Int32) (ω : OW) (n : Nat) : RO := bz s0 (some (.inl (some (.int s0), ω, n)))
def J_X11_readCourtLine_90 (Θ : GP) (ω : OW) (n : Nat) : RO := J_X11_readCourtLine_91 Θ 0 ω n
def F_X11_readCourtLine (Θ : GP) (l0 : Nat) (ω : OW) (n : Nat) : RO := cO ω l0 11 (kI (F_X11_isWord Θ l0 6 ω n) (fun x2 ω n => if x2 = 0 then (cO ω l0 11 (kI (F_X11_isWord Θ l0 7 ω n) (fun x4 ω n => if x4 = 0 then (cO ω l0 11 (kI (F_X11_isWord Θ l0 8 ω n) (fun x6 ω n => if x6 = 0 then (cO ω l0 11 (kI (F_X11_isWord Θ l0 9 ω n) (fun x8 ω n => if x8 = 0 then (cO ω l0 11 (kI (F_X11_isWord Θ l0 10 ω n) (fun x10 ω n => if x10 = 0 then (J_X11_readCourtLine_90 Θ ω n) else (cO ω l0 11 (kI (F_X11_readNumber Θ l0 4 0 999 ω n) (fun x12 ω n => if x12 = 0 then (J_X11_readCourtLine_90 Θ ω n) else (J_X11_readCourtLine_91 Θ 1 ω n))))))) else (cO ω l0 11 (kI (F_X11_readNumber Θ l0 6 0 20 ω n) (fun x14 ω n => bz x14 (some (.inl (some (.int x14), ω, n))))))))) else (cO ω l0 11 (kI (F_X11_readNumber Θ l0 5 0 9 ω n) (fun x16 ω n => bz x16 (some (.inl (some (.int x16), ω, n))))))))) else (cO ω l0 11 (kI (F_X11_readAccused Θ l0 ω n) (fun x18 ω n => bz x18 (some (.inl (some (.int x18), ω, n))))))))) else (cO ω l0 11 (kI (F_X11_readProp Θ l0 ω n) (fun x20 ω n => bz x20 (some (.inl (some (.int x20), ω, n))))))))
theorem ok_J_X11_readCourtLine_91 (Θ : GP) (s0 : Int32) (ω : OW) (n : Nat) (r : Out) (h : J_X11_readCourtLine_91 Θ s0 ω n = some r) : GR Θ yX11_readCourtLine cX11_readCourtLine 1 (some .boolean) 9 (0, 0) 91 [] [.int s0] ω n r := by
  unfold J_X11_readCourtLine_91 at h
  obtain ⟨z1, h⟩ := bz_inv h
  cases h
  exact g_zret rfl z1 dX11_readCourtLine_91 rfl
theorem ok_J_X11_readCourtLine_90 (Θ : GP) (ω : OW) (n : Nat) (r : Out) (h : J_X11_readCourtLine_90 Θ ω n = some r) : GR Θ yX11_readCourtLine cX11_readCourtLine 1 (some .boolean) 9 (0, 0) 90 [] [] ω n r := by
  unfold J_X11_readCourtLine_90 at h
  refine g_iconst (v := 0) dX11_readCourtLine_90 (by decide) ?_
  exact ok_J_X11_readCourtLine_91 Θ 0 _ _ r h
theorem ok_X11_readCourtLine (Θ : GP) (l0 : Nat) (ω : OW) (n : Nat) : Ok Θ 9 0 0 yX11_readCourtLine cX11_readCourtLine 1 (some .boolean) [.ref l0] ω n (F_X11_readCourtLine Θ l0 ω n) := by
  refine Ok.of (by decide +kernel) (Nat.le_of_ble_eq_true rfl) (fun r h => ?_)
  unfold F_X11_readCourtLine at h
  show GR Θ yX11_readCourtLine cX11_readCourtLine 1 (some .boolean) 9 (0, 0) 0 [(0, .ref l0)] [] ω n r
  refine g_aload_n dX11_readCourtLine_0 rfl 0 rfl ?_
  refine g_ldcS (q := 6) rfl dX11_readCourtLine_1 ?_
  refine g_cI (ci := 11) (As := [.ref (gK Θ 6)]) mv_X11_130 dX11_readCourtLine_3 rfl (ok_X11_isWord Θ l0 6 _ _) rfl rfl (Nat.le_of_ble_eq_true rfl) (by decide) (by decide) (by decide) h (fun x2 ω n h => ?_)
  refine G.less (B' := (0, 0)) (by decide) (by decide) ?_
  refine g_if_eq (tgt := 14) dX11_readCourtLine_6 (by decide) (fun c3 => ?_) (fun c3 => ?_)
  · rw [if_pos c3] at h
    refine g_aload_n dX11_readCourtLine_14 rfl 0 rfl ?_
    refine g_ldcS (q := 7) rfl dX11_readCourtLine_15 ?_
    refine g_cI (ci := 11) (As := [.ref (gK Θ 7)]) mv_X11_130 dX11_readCourtLine_17 rfl (ok_X11_isWord Θ l0 7 _ _) rfl rfl (Nat.le_of_ble_eq_true rfl) (by decide) (by decide) (by decide) h (fun x4 ω n h => ?_)
    refine G.less (B' := (0, 0)) (by decide) (by decide) ?_
    refine g_if_eq (tgt := 28) dX11_readCourtLine_20 (by decide) (fun c5 => ?_) (fun c5 => ?_)
    · rw [if_pos c5] at h
      refine g_aload_n dX11_readCourtLine_28 rfl 0 rfl ?_
      refine g_ldcS (q := 8) rfl dX11_readCourtLine_29 ?_
      refine g_cI (ci := 11) (As := [.ref (gK Θ 8)]) mv_X11_130 dX11_readCourtLine_31 rfl (ok_X11_isWord Θ l0 8 _ _) rfl rfl (Nat.le_of_ble_eq_true rfl) (by decide) (by decide) (by decide) h (fun x6 ω n h => ?_)
      refine G.less (B' := (0, 0)) (by decide) (by decide) ?_
      refine g_if_eq (tgt := 46) dX11_readCourtLine_34 (by decide) (fun c7 => ?_) (fun c7 => ?_)
      · rw [if_pos c7] at h
        refine g_aload_n dX11_readCourtLine_46 rfl 0 rfl ?_
        refine g_ldcS (q := 9) rfl dX11_readCourtLine_47 ?_
        refine g_cI (ci := 11) (As := [.ref (gK Θ 9)]) mv_X11_130 dX11_readCourtLine_49 rfl (ok_X11_isWord Θ l0 9 _ _) rfl rfl (Nat.le_of_ble_eq_true rfl) (by decide) (by decide) (by decide) h (fun x8 ω n h => ?_)
        refine G.less (B' := (0, 0)) (by decide) (by decide) ?_
        refine g_if_eq (tgt := 65) dX11_readCourtLine_52 (by decide) (fun c9 => ?_) (fun c9 => ?_)
        · rw [if_pos c9] at h
          refine g_aload_n dX11_readCourtLine_65 rfl 0 rfl ?_
          refine g_ldcS (q := 10) rfl dX11_readCourtLine_66 ?_
          refine g_cI (ci := 11) (As := [.ref (gK Θ 10)]) mv_X11_130 dX11_readCourtLine_68 rfl (ok_X11_isWord Θ l0 10 _ _) rfl rfl (Nat.le_of_ble_eq_true rfl) (by decide) (by decide) (by decide) h (fun x10 ω n h => ?_)
          refine G.less (B' := (0, 0)) (by decide) (by decide) ?_
          refine g_if_eq (tgt := 90) dX11_readCourtLine_71 (by decide) (fun c11 => ?_) (fun c11 => ?_)
          · rw [if_pos c11] at h
            refine G.lsub [] rfl ?_
            exact ok_J_X11_readCourtLine_90 Θ _ _ r h
          · rw [if_neg c11] at h
            refine g_aload_n dX11_readCourtLine_74 rfl 0 rfl ?_
            refine g_iconst (v := 4) dX11_readCourtLine_75 (by decide) ?_
            refine g_iconst (v := 0) dX11_readCourtLine_76 (by decide) ?_
            refine g_sipush (v := 999) dX11_readCourtLine_77 (by decide) ?_
            refine g_cI (ci := 11) (As := [.int 4, .int 0, .int 999]) mv_X11_187 dX11_readCourtLine_80 rfl (ok_X11_readNumber Θ l0 4 0 999 _ _) rfl rfl (Nat.le_of_ble_eq_true rfl) (by decide) (by decide) (by decide) h (fun x12 ω n h => ?_)
            refine G.less (B' := (0, 0)) (by decide) (by decide) ?_
            refine g_if_eq (tgt := 90) dX11_readCourtLine_83 (by decide) (fun c13 => ?_) (fun c13 => ?_)
            · rw [if_pos c13] at h
              refine G.lsub [] rfl ?_
              exact ok_J_X11_readCourtLine_90 Θ _ _ r h
            · rw [if_neg c13] at h
              refine g_iconst (v := 1) dX11_readCourtLine_86 (by decide) ?_
              refine g_goto (tgt := 91) dX11_readCourtLine_87 (by decide) ?_
              refine G.lsub [] rfl ?_
              exact ok_J_X11_readCourtLine_91 Θ 1 _ _ r h
        · rw [if_neg c9] at h
          refine g_aload_n dX11_readCourtLine_55 rfl 0 rfl ?_
          refine g_bipush (v := 6) dX11_readCourtLine_56 (by decide) ?_
          refine g_iconst (v := 0) dX11_readCourtLine_58 (by decide) ?_
          refine g_bipush (v := 20) dX11_readCourtLine_59 (by decide) ?_
          refine g_cI (ci := 11) (As := [.int 6, .int 0, .int 20]) mv_X11_187 dX11_readCourtLine_61 rfl (ok_X11_readNumber Θ l0 6 0 20 _ _) rfl rfl (Nat.le_of_ble_eq_true rfl) (by decide) (by decide) (by decide) h (fun x14 ω n h => ?_)
          refine G.less (B' := (0, 0)) (by decide) (by decide) ?_
          obtain ⟨z15, h⟩ := bz_inv h
          cases h
          exact g_zret rfl z15 dX11_readCourtLine_64 rfl
      · rw [if_neg c7] at h
        refine g_aload_n dX11_readCourtLine_37 rfl 0 rfl ?_
        refine g_iconst (v := 5) dX11_readCourtLine_38 (by decide) ?_
        refine g_iconst (v := 0) dX11_readCourtLine_39 (by decide) ?_
        refine g_bipush (v := 9) dX11_readCourtLine_40 (by decide) ?_
        refine g_cI (ci := 11) (As := [.int 5, .int 0, .int 9]) mv_X11_187 dX11_readCourtLine_42 rfl (ok_X11_readNumber Θ l0 5 0 9 _ _) rfl rfl (Nat.le_of_ble_eq_true rfl) (by decide) (by decide) (by decide) h (fun x16 ω n h => ?_)
        refine G.less (B' := (0, 0)) (by decide) (by decide) ?_
        obtain ⟨z17, h⟩ := bz_inv h
        cases h
        exact g_zret rfl z17 dX11_readCourtLine_45 rfl
    · rw [if_neg c5] at h
      refine g_aload_n dX11_readCourtLine_23 rfl 0 rfl ?_
      refine g_cI (ci := 11) (As := []) mv_X11_182 dX11_readCourtLine_24 rfl (ok_X11_readAccused Θ l0 _ _) rfl rfl (Nat.le_of_ble_eq_true rfl) (by decide) (by decide) (by decide) h (fun x18 ω n h => ?_)
      refine G.less (B' := (0, 0)) (by decide) (by decide) ?_
      obtain ⟨z19, h⟩ := bz_inv h
      cases h
      exact g_zret rfl z19 dX11_readCourtLine_27 rfl
  · rw [if_neg c3] at h
    refine g_aload_n dX11_readCourtLine_9 rfl 0 rfl ?_
    refine g_cI (ci := 11) (As := []) mv_X11_176 dX11_readCourtLine_10 rfl (ok_X11_readProp Θ l0 _ _) rfl rfl (Nat.le_of_ble_eq_true rfl) (by decide) (by decide) (by decide) h (fun x20 ω n h => ?_)
    refine G.less (B' := (0, 0)) (by decide) (by decide) ?_
    obtain ⟨z21, h⟩ := bz_inv h
    cases h
    exact g_zret rfl z21 dX11_readCourtLine_13 rfl
def J_X11_readLawLine_128 (Θ : GP) (l0 : Nat) (l2 : Int32) (ω : OW) (n : Nat) : RO := rA ω l0 11 1 (fun a1 => rI ω l0 11 16 (fun x2 => sI ω (gI Θ) a1 (l2 + 3) x2 (fun ω => some (.inl (some (.int 1), ω, n)))))
def J_X11_readLawLine_53 (Θ : GP) (l0 : Nat) (l2 : Int32) (s0 : Int32) (s1 : Int32) (s2 : Nat) (ω : OW) (n : Nat) : RO := sI ω (gI Θ) s2 s1 s0 (fun ω => rA ω l0 11 1 (fun a3 => lI ω (gI Θ) a3 l2 (fun x4 => if 0 ≤ x4 then (rA ω l0 11 1 (fun a6 => cO ω l0 11 (kI (F_X11_number Θ l0 0 30 ω n) (fun x7 ω n => sI ω (gI Θ) a6 (l2 + 1) x7 (fun ω => rA ω l0 11 1 (fun a8 => lI ω (gI Θ) a8 (l2 + 1) (fun x9 => if 0 ≤ x9 then (rA ω l0 11 1 (fun a11 => rI ω l0 11 16 (fun x12 => sI ω (gI Θ) a11 (l2 + 2) x12 (fun ω => wF ω l0 11 13 (.int 0) (fun ω => cO ω l0 11 (kI (F_X11_passes Θ l0 20 ω n) (fun x13 ω n => if x13 = 0 then (J_X11_readLawLine_128 Θ l0 l2 ω n) else (cO ω l0 11 (kI (F_X11_readCond Θ (F_X11_readAtom Θ 8) l0 ω n) (fun x15 ω n => if x15 = 0 then (some (.inl (some (.int 0), ω, n))) else (J_X11_readLawLine_128 Θ l0 l2 ω n))))))))))) else (some (.inl (some (.int 0), ω, n)))))))))) else (some (.inl (some (.int 0), ω, n))))))
def F_X11_readLawLine (Θ : GP) (l0 : Nat) (l1 : Int32) (ω : OW) (n : Nat) : RO := rA ω l0 11 1 (fun a17 => cO ω l0 11 (kI (F_X11_isWord Θ l0 17 ω n) (fun x18 ω n => if x18 = 0 then (cO ω l0 11 (kI (F_X11_isWord Θ l0 18 ω n) (fun x20 ω n => if x20 = 0 then (cO ω l0 11 (kI (F_X11_isWord Θ l0 19 ω n) (fun x22 ω n => if x22 = 0 then (J_X11_readLawLine_53 Θ l0 (1155 + (4 * l1)) (-1) (1155 + (4 * l1)) a17 ω n) else (J_X11_readLawLine_53 Θ l0 (1155 + (4 * l1)) 2 (1155 + (4 * l1)) a17 ω n)))) else (J_X11_readLawLine_53 Θ l0 (1155 + (4 * l1)) 1 (1155 + (4 * l1)) a17 ω n)))) else (J_X11_readLawLine_53 Θ l0 (1155 + (4 * l1)) 0 (1155 + (4 * l1)) a17 ω n))))
theorem ok_J_X11_readLawLine_128 (Θ : GP) (l0 : Nat) (l2 : Int32) (ω : OW) (n : Nat) (r : Out) (h : J_X11_readLawLine_128 Θ l0 l2 ω n = some r) : GR Θ yX11_readLawLine cX11_readLawLine 3 (some .boolean) 211 (0, 0) 128 [(0, .ref l0), (2, .int l2)] [] ω n r := by
  unfold J_X11_readLawLine_128 at h
  refine g_aload_n dX11_readLawLine_128 rfl 0 rfl ?_
  refine g_rA fl_X11_13 dX11_readLawLine_129 h (fun a1 h => ?_)
  refine g_iload_n dX11_readLawLine_132 rfl 1 rfl ?_
  refine g_iconst (v := 3) dX11_readLawLine_133 (by decide) ?_
  refine g_iadd dX11_readLawLine_134 ?_
  refine g_aload_n dX11_readLawLine_135 rfl 0 rfl ?_
  refine g_rI fl_X11_194 dX11_readLawLine_136 h (fun x2 h => ?_)
  refine g_sIi dX11_readLawLine_139 h (fun ω h => ?_)
  refine g_iconst (v := 1) dX11_readLawLine_140 (by decide) ?_
  cases h
  exact g_zret rfl rfl dX11_readLawLine_141 rfl
theorem ok_J_X11_readLawLine_53 (Θ : GP) (l0 : Nat) (l2 : Int32) (s0 : Int32) (s1 : Int32) (s2 : Nat) (ω : OW) (n : Nat) (r : Out) (h : J_X11_readLawLine_53 Θ l0 l2 s0 s1 s2 ω n = some r) : GR Θ yX11_readLawLine cX11_readLawLine 3 (some .boolean) 211 (0, 0) 53 [(0, .ref l0), (2, .int l2)] [.int s0, .int s1, .ref s2] ω n r := by
  unfold J_X11_readLawLine_53 at h
  refine g_sIi dX11_readLawLine_53 h (fun ω h => ?_)
  refine g_aload_n dX11_readLawLine_54 rfl 0 rfl ?_
  refine g_rA fl_X11_13 dX11_readLawLine_55 h (fun a3 h => ?_)
  refine g_iload_n dX11_readLawLine_58 rfl 1 rfl ?_
  refine g_lIi dX11_readLawLine_59 h (fun x4 h => ?_)
  refine g_if_ge (tgt := 65) dX11_readLawLine_60 (by decide) (fun c5 => ?_) (fun c5 => ?_)
  · rw [if_pos c5] at h
    refine g_aload_n dX11_readLawLine_65 rfl 0 rfl ?_
    refine g_rA fl_X11_13 dX11_readLawLine_66 h (fun a6 h => ?_)
    refine g_iload_n dX11_readLawLine_69 rfl 1 rfl ?_
    refine g_iconst (v := 1) dX11_readLawLine_70 (by decide) ?_
    refine g_iadd dX11_readLawLine_71 ?_
    refine g_aload_n dX11_readLawLine_72 rfl 0 rfl ?_
    refine g_iconst (v := 0) dX11_readLawLine_73 (by decide) ?_
    refine g_bipush (v := 30) dX11_readLawLine_74 (by decide) ?_
    refine g_cI (ci := 11) (As := [.int 0, .int 30]) mv_X11_134 dX11_readLawLine_76 rfl (ok_X11_number Θ l0 0 30 _ _) rfl rfl (Nat.le_of_ble_eq_true rfl) (by decide) (by decide) (by decide) h (fun x7 ω n h => ?_)
    refine G.less (B' := (0, 0)) (by decide) (by decide) ?_
    refine g_sIi dX11_readLawLine_79 h (fun ω h => ?_)
    refine g_aload_n dX11_readLawLine_80 rfl 0 rfl ?_
    refine g_rA fl_X11_13 dX11_readLawLine_81 h (fun a8 h => ?_)
    refine g_iload_n dX11_readLawLine_84 rfl 1 rfl ?_
    refine g_iconst (v := 1) dX11_readLawLine_85 (by decide) ?_
    refine g_iadd dX11_readLawLine_86 ?_
    refine g_lIi dX11_readLawLine_87 h (fun x9 h => ?_)
    refine g_if_ge (tgt := 93) dX11_readLawLine_88 (by decide) (fun c10 => ?_) (fun c10 => ?_)
    · rw [if_pos c10] at h
      refine g_aload_n dX11_readLawLine_93 rfl 0 rfl ?_
      refine g_rA fl_X11_13 dX11_readLawLine_94 h (fun a11 h => ?_)
      refine g_iload_n dX11_readLawLine_97 rfl 1 rfl ?_
      refine g_iconst (v := 2) dX11_readLawLine_98 (by decide) ?_
      refine g_iadd dX11_readLawLine_99 ?_
      refine g_aload_n dX11_readLawLine_100 rfl 0 rfl ?_
      refine g_rI fl_X11_194 dX11_readLawLine_101 h (fun x12 h => ?_)
      refine g_sIi dX11_readLawLine_104 h (fun ω h => ?_)
      refine g_aload_n dX11_readLawLine_105 rfl 0 rfl ?_
      refine g_iconst (v := 0) dX11_readLawLine_106 (by decide) ?_
      refine g_wF fl_X11_213 dX11_readLawLine_107 (rfl) rfl h (fun ω h => ?_)
      refine g_aload_n dX11_readLawLine_110 rfl 0 rfl ?_
      refine g_ldcS (q := 20) rfl dX11_readLawLine_111 ?_
      refine g_cI (ci := 11) (As := [.ref (gK Θ 20)]) mv_X11_157 dX11_readLawLine_113 rfl (ok_X11_passes Θ l0 20 _ _) rfl rfl (Nat.le_of_ble_eq_true rfl) (by decide) (by decide) (by decide) h (fun x13 ω n h => ?_)
      refine G.less (B' := (0, 0)) (by decide) (by decide) ?_
      refine g_if_eq (tgt := 128) dX11_readLawLine_116 (by decide) (fun c14 => ?_) (fun c14 => ?_)
      · rw [if_pos c14] at h
        exact ok_J_X11_readLawLine_128 Θ l0 l2 _ _ r h
      · rw [if_neg c14] at h
        refine g_aload_n dX11_readLawLine_119 rfl 0 rfl ?_
        refine g_cI (ci := 11) (As := []) mv_X11_216 dX11_readLawLine_120 rfl (ok_X11_readCond Θ (F_X11_readAtom Θ 8) 192 (ok_X11_readAtom Θ 8) l0 _ _) rfl rfl (Nat.le_of_ble_eq_true rfl) (by decide) (by decide) (by decide) h (fun x15 ω n h => ?_)
        refine G.less (B' := (0, 0)) (by decide) (by decide) ?_
        refine g_if_ne (tgt := 128) dX11_readLawLine_123 (by decide) (fun c16 => ?_) (fun c16 => ?_)
        · rw [if_neg c16] at h
          exact ok_J_X11_readLawLine_128 Θ l0 l2 _ _ r h
        · rw [if_pos c16] at h
          refine g_iconst (v := 0) dX11_readLawLine_126 (by decide) ?_
          cases h
          exact g_zret rfl rfl dX11_readLawLine_127 rfl
    · rw [if_neg c10] at h
      refine g_iconst (v := 0) dX11_readLawLine_91 (by decide) ?_
      cases h
      exact g_zret rfl rfl dX11_readLawLine_92 rfl
  · rw [if_neg c5] at h
    refine g_iconst (v := 0) dX11_readLawLine_63 (by decide) ?_
    cases h
    exact g_zret rfl rfl dX11_readLawLine_64 rfl
theorem ok_X11_readLawLine (Θ : GP) (l0 : Nat) (l1 : Int32) (ω : OW) (n : Nat) : Ok Θ 211 0 0 yX11_readLawLine cX11_readLawLine 3 (some .boolean) [.ref l0, .int l1] ω n (F_X11_readLawLine Θ l0 l1 ω n) := by
  refine Ok.of (by decide +kernel) (Nat.le_of_ble_eq_true rfl) (fun r h => ?_)
  unfold F_X11_readLawLine at h
  show GR Θ yX11_readLawLine cX11_readLawLine 3 (some .boolean) 211 (0, 0) 0 [(0, .ref l0), (1, .int l1)] [] ω n r
  refine g_sipush (v := 1155) dX11_readLawLine_0 (by decide) ?_
  refine g_iconst (v := 4) dX11_readLawLine_3 (by decide) ?_
  refine g_iload_n dX11_readLawLine_4 rfl 1 rfl ?_
  refine g_imul dX11_readLawLine_5 ?_
  refine g_iadd dX11_readLawLine_6 ?_
  refine g_istore_n (lv' := [(2, .int (1155 + (4 * l1))), (0, .ref l0), (1, .int l1)]) dX11_readLawLine_7 rfl (by decide) rfl ?_
  refine g_aload_n dX11_readLawLine_8 rfl 1 rfl ?_
  refine g_rA fl_X11_13 dX11_readLawLine_9 h (fun a17 h => ?_)
  refine g_iload_n dX11_readLawLine_12 rfl 0 rfl ?_
  refine g_aload_n dX11_readLawLine_13 rfl 1 rfl ?_
  refine g_ldcS (q := 17) rfl dX11_readLawLine_14 ?_
  refine g_cI (ci := 11) (As := [.ref (gK Θ 17)]) mv_X11_130 dX11_readLawLine_16 rfl (ok_X11_isWord Θ l0 17 _ _) rfl rfl (Nat.le_of_ble_eq_true rfl) (by decide) (by decide) (by decide) h (fun x18 ω n h => ?_)
  refine G.less (B' := (0, 0)) (by decide) (by decide) ?_
  refine g_if_eq (tgt := 26) dX11_readLawLine_19 (by decide) (fun c19 => ?_) (fun c19 => ?_)
  · rw [if_pos c19] at h
    refine g_aload_n dX11_readLawLine_26 rfl 1 rfl ?_
    refine g_ldcS (q := 18) rfl dX11_readLawLine_27 ?_
    refine g_cI (ci := 11) (As := [.ref (gK Θ 18)]) mv_X11_130 dX11_readLawLine_29 rfl (ok_X11_isWord Θ l0 18 _ _) rfl rfl (Nat.le_of_ble_eq_true rfl) (by decide) (by decide) (by decide) h (fun x20 ω n h => ?_)
    refine G.less (B' := (0, 0)) (by decide) (by decide) ?_
    refine g_if_eq (tgt := 39) dX11_readLawLine_32 (by decide) (fun c21 => ?_) (fun c21 => ?_)
    · rw [if_pos c21] at h
      refine g_aload_n dX11_readLawLine_39 rfl 1 rfl ?_
      refine g_ldcS (q := 19) rfl dX11_readLawLine_40 ?_
      refine g_cI (ci := 11) (As := [.ref (gK Θ 19)]) mv_X11_130 dX11_readLawLine_42 rfl (ok_X11_isWord Θ l0 19 _ _) rfl rfl (Nat.le_of_ble_eq_true rfl) (by decide) (by decide) (by decide) h (fun x22 ω n h => ?_)
      refine G.less (B' := (0, 0)) (by decide) (by decide) ?_
      refine g_if_eq (tgt := 52) dX11_readLawLine_45 (by decide) (fun c23 => ?_) (fun c23 => ?_)
      · rw [if_pos c23] at h
        refine g_iconst (v := (-1)) dX11_readLawLine_52 (by decide) ?_
        refine G.lsub [1, 0] rfl ?_
        exact ok_J_X11_readLawLine_53 Θ l0 (1155 + (4 * l1)) (-1) (1155 + (4 * l1)) a17 _ _ r h
      · rw [if_neg c23] at h
        refine g_iconst (v := 2) dX11_readLawLine_48 (by decide) ?_
        refine g_goto (tgt := 53) dX11_readLawLine_49 (by decide) ?_
        refine G.lsub [1, 0] rfl ?_
        exact ok_J_X11_readLawLine_53 Θ l0 (1155 + (4 * l1)) 2 (1155 + (4 * l1)) a17 _ _ r h
    · rw [if_neg c21] at h
      refine g_iconst (v := 1) dX11_readLawLine_35 (by decide) ?_
      refine g_goto (tgt := 53) dX11_readLawLine_36 (by decide) ?_
      refine G.lsub [1, 0] rfl ?_
      exact ok_J_X11_readLawLine_53 Θ l0 (1155 + (4 * l1)) 1 (1155 + (4 * l1)) a17 _ _ r h
  · rw [if_neg c19] at h
    refine g_iconst (v := 0) dX11_readLawLine_22 (by decide) ?_
    refine g_goto (tgt := 53) dX11_readLawLine_23 (by decide) ?_
    refine G.lsub [1, 0] rfl ?_
    exact ok_J_X11_readLawLine_53 Θ l0 (1155 + (4 * l1)) 0 (1155 + (4 * l1)) a17 _ _ r h
def J_X11_readLine_46 (Θ : GP) (s0 : Int32) (ω : OW) (n : Nat) : RO := bz s0 (some (.inl (some (.int s0), ω, n)))
def J_X11_readLine_45 (Θ : GP) (ω : OW) (n : Nat) : RO := J_X11_readLine_46 Θ 0 ω n
def J_X11_readLine_41 (Θ : GP) (ω : OW) (n : Nat) : RO := J_X11_readLine_46 Θ 1 ω n
def J_X11_readLine_16 (Θ : GP) (l0 : Nat) (l1 : Int32) (l2 : Int32) (s0 : Int32) (s1 : Int32) (ω : OW) (n : Nat) : RO := if s0 ≤ s1 then (J_X11_readLine_45 Θ ω n) else (if l1 = 0 then (cO ω l0 11 (kI (F_X11_readLawLine Θ l0 l2 ω n) (fun x4 ω n => if x4 = 0 then (J_X11_readLine_45 Θ ω n) else (J_X11_readLine_41 Θ ω n)))) else (cO ω l0 11 (kI (F_X11_readCourtLine Θ l0 ω n) (fun x6 ω n => if x6 = 0 then (J_X11_readLine_45 Θ ω n) else (J_X11_readLine_41 Θ ω n)))))
def F_X11_readLine (Θ : GP) (l0 : Nat) (l1 : Int32) (l2 : Int32) (ω : OW) (n : Nat) : RO := cO ω l0 11 (kV (F_X11_letters Θ l0 ω n) (fun ω n => if l1 = 0 then (J_X11_readLine_16 Θ l0 l1 l2 12 l2 ω n) else (J_X11_readLine_16 Θ l0 l1 l2 14 l2 ω n)))
theorem ok_J_X11_readLine_46 (Θ : GP) (s0 : Int32) (ω : OW) (n : Nat) (r : Out) (h : J_X11_readLine_46 Θ s0 ω n = some r) : GR Θ yX11_readLine cX11_readLine 3 (some .boolean) 212 (0, 0) 46 [] [.int s0] ω n r := by
  unfold J_X11_readLine_46 at h
  obtain ⟨z1, h⟩ := bz_inv h
  cases h
  exact g_zret rfl z1 dX11_readLine_46 rfl
theorem ok_J_X11_readLine_45 (Θ : GP) (ω : OW) (n : Nat) (r : Out) (h : J_X11_readLine_45 Θ ω n = some r) : GR Θ yX11_readLine cX11_readLine 3 (some .boolean) 212 (0, 0) 45 [] [] ω n r := by
  unfold J_X11_readLine_45 at h
  refine g_iconst (v := 0) dX11_readLine_45 (by decide) ?_
  exact ok_J_X11_readLine_46 Θ 0 _ _ r h
theorem ok_J_X11_readLine_41 (Θ : GP) (ω : OW) (n : Nat) (r : Out) (h : J_X11_readLine_41 Θ ω n = some r) : GR Θ yX11_readLine cX11_readLine 3 (some .boolean) 212 (0, 0) 41 [] [] ω n r := by
  unfold J_X11_readLine_41 at h
  refine g_iconst (v := 1) dX11_readLine_41 (by decide) ?_
  refine g_goto (tgt := 46) dX11_readLine_42 (by decide) ?_
  exact ok_J_X11_readLine_46 Θ 1 _ _ r h
theorem ok_J_X11_readLine_16 (Θ : GP) (l0 : Nat) (l1 : Int32) (l2 : Int32) (s0 : Int32) (s1 : Int32) (ω : OW) (n : Nat) (r : Out) (h : J_X11_readLine_16 Θ l0 l1 l2 s0 s1 ω n = some r) : GR Θ yX11_readLine cX11_readLine 3 (some .boolean) 212 (0, 0) 16 [(0, .ref l0), (1, .int l1), (2, .int l2)] [.int s0, .int s1] ω n r := by
  unfold J_X11_readLine_16 at h
  refine g_icmp_ge (tgt := 45) dX11_readLine_16 (by decide) (fun c2 => ?_) (fun c2 => ?_)
  · rw [if_pos c2] at h
    refine G.lsub [] rfl ?_
    exact ok_J_X11_readLine_45 Θ _ _ r h
  · rw [if_neg c2] at h
    refine g_iload_n dX11_readLine_19 rfl 1 rfl ?_
    refine g_if_eq (tgt := 33) dX11_readLine_20 (by decide) (fun c3 => ?_) (fun c3 => ?_)
    · rw [if_pos c3] at h
      refine g_aload_n dX11_readLine_33 rfl 0 rfl ?_
      refine g_iload_n dX11_readLine_34 rfl 2 rfl ?_
      refine g_cI (ci := 11) (As := [.int l2]) mv_X11_248 dX11_readLine_35 rfl (ok_X11_readLawLine Θ l0 l2 _ _) rfl rfl (Nat.le_of_ble_eq_true rfl) (by decide) (by decide) (by decide) h (fun x4 ω n h => ?_)
      refine G.less (B' := (0, 0)) (by decide) (by decide) ?_
      refine g_if_eq (tgt := 45) dX11_readLine_38 (by decide) (fun c5 => ?_) (fun c5 => ?_)
      · rw [if_pos c5] at h
        refine G.lsub [] rfl ?_
        exact ok_J_X11_readLine_45 Θ _ _ r h
      · rw [if_neg c5] at h
        refine G.lsub [] rfl ?_
        exact ok_J_X11_readLine_41 Θ _ _ r h
    · rw [if_neg c3] at h
      refine g_aload_n dX11_readLine_23 rfl 0 rfl ?_
      refine g_cI (ci := 11) (As := []) mv_X11_245 dX11_readLine_24 rfl (ok_X11_readCourtLine Θ l0 _ _) rfl rfl (Nat.le_of_ble_eq_true rfl) (by decide) (by decide) (by decide) h (fun x6 ω n h => ?_)
      refine G.less (B' := (0, 0)) (by decide) (by decide) ?_
      refine g_if_eq (tgt := 45) dX11_readLine_27 (by decide) (fun c7 => ?_) (fun c7 => ?_)
      · rw [if_pos c7] at h
        refine G.lsub [] rfl ?_
        exact ok_J_X11_readLine_45 Θ _ _ r h
      · rw [if_neg c7] at h
        refine g_goto (tgt := 41) dX11_readLine_30 (by decide) ?_
        refine G.lsub [] rfl ?_
        exact ok_J_X11_readLine_41 Θ _ _ r h
theorem ok_X11_readLine (Θ : GP) (l0 : Nat) (l1 : Int32) (l2 : Int32) (ω : OW) (n : Nat) : Ok Θ 212 0 0 yX11_readLine cX11_readLine 3 (some .boolean) [.ref l0, .int l1, .int l2] ω n (F_X11_readLine Θ l0 l1 l2 ω n) := by
  refine Ok.of (by decide +kernel) (Nat.le_of_ble_eq_true rfl) (fun r h => ?_)
  unfold F_X11_readLine at h
  show GR Θ yX11_readLine cX11_readLine 3 (some .boolean) 212 (0, 0) 0 [(0, .ref l0), (1, .int l1), (2, .int l2)] [] ω n r
  refine g_aload_n dX11_readLine_0 rfl 0 rfl ?_
  refine g_cV (ci := 11) (As := []) mv_X11_127 dX11_readLine_1 rfl (ok_X11_letters Θ l0 _ _) rfl rfl (Nat.le_of_ble_eq_true rfl) (by decide) (by decide) (by decide) h (fun ω n h => ?_)
  refine G.less (B' := (0, 0)) (by decide) (by decide) ?_
  refine g_iload_n dX11_readLine_4 rfl 2 rfl ?_
  refine g_iload_n dX11_readLine_5 rfl 1 rfl ?_
  refine g_if_eq (tgt := 14) dX11_readLine_6 (by decide) (fun c9 => ?_) (fun c9 => ?_)
  · rw [if_pos c9] at h
    refine g_bipush (v := 12) dX11_readLine_14 (by decide) ?_
    exact ok_J_X11_readLine_16 Θ l0 l1 l2 12 l2 _ _ r h
  · rw [if_neg c9] at h
    refine g_bipush (v := 14) dX11_readLine_9 (by decide) ?_
    refine g_goto (tgt := 16) dX11_readLine_11 (by decide) ?_
    exact ok_J_X11_readLine_16 Θ l0 l1 l2 14 l2 _ _ r h
def B_X11_readAll_28 (Θ : GP) (k_28 : Nat → Int32 → Int32 → OW → Nat → RO) (l0 : Nat) (l1 : Int32) (l2 : Int32) (ω : OW) (n : Nat) : RO := cO ω l0 11 (kI (F_X11_readLine Θ l0 l1 l2 ω n) (fun x1 ω n => if x1 = 0 then (some (.inl (some (.int (-1)), ω, n))) else (cO ω l0 11 (kV (F_X11_blanks Θ l0 ω n) (fun ω n => rI ω l0 11 10 (fun x4 => rI ω l0 11 11 (fun x5 => if x4 = x5 then (some (.inl (some (.int (l2 + 1)), ω, n))) else (cO ω l0 11 (kI (F_X11_isAt Θ l0 59 59 ω n) (fun x7 ω n => if x7 = 0 then (some (.inl (some (.int (-1)), ω, n))) else (rI ω l0 11 10 (fun x9 => wF ω l0 11 10 (.int (x9 + 1)) (fun ω => k_28 l0 l1 (l2 + 1) ω n)))))))))))))
def L_X11_readAll_28 (Θ : GP) : Nat → Nat → Int32 → Int32 → OW → Nat → RO
  | 0, _, _, _, _, _ => none
  | f + 1, l0, l1, l2, ω, n => B_X11_readAll_28 Θ (L_X11_readAll_28 Θ f) l0 l1 l2 ω n
def F_X11_readAll (Θ : GP) (l0 : Nat) (l1 : Int32) (ω : OW) (n : Nat) : RO := cO ω l0 11 (kV (F_X11_uses Θ l0 ω n) (fun ω n => wF ω l0 11 16 (.int 0) (fun ω => cO ω l0 11 (kV (F_X11_blanks Θ l0 ω n) (fun ω n => rI ω l0 11 10 (fun x12 => rI ω l0 11 11 (fun x13 => if x12 = x13 then (some (.inl (some (.int 0), ω, n))) else (L_X11_readAll_28 Θ 5000 l0 l1 0 ω n))))))))
theorem ok_B_X11_readAll_28 (Θ : GP) (k_28 : Nat → Int32 → Int32 → OW → Nat → RO) (hk_28 : ∀ l0 l1 l2 ω n r, k_28 l0 l1 l2 ω n = some r → GR Θ yX11_readAll cX11_readAll 3 (some .int) 213 (0, 0) 28 [(0, .ref l0), (1, .int l1), (2, .int l2)] [] ω n r) (l0 : Nat) (l1 : Int32) (l2 : Int32) (ω : OW) (n : Nat) (r : Out) (h : B_X11_readAll_28 Θ k_28 l0 l1 l2 ω n = some r) : GR Θ yX11_readAll cX11_readAll 3 (some .int) 213 (0, 0) 28 [(0, .ref l0), (1, .int l1), (2, .int l2)] [] ω n r := by
  unfold B_X11_readAll_28 at h
  refine g_aload_n dX11_readAll_28 rfl 0 rfl ?_
  refine g_iload_n dX11_readAll_29 rfl 1 rfl ?_
  refine g_iload_n dX11_readAll_30 rfl 2 rfl ?_
  refine g_cI (ci := 11) (As := [.int l1, .int l2]) mv_X11_254 dX11_readAll_31 rfl (ok_X11_readLine Θ l0 l1 l2 _ _) rfl rfl (Nat.le_of_ble_eq_true rfl) (by decide) (by decide) (by decide) h (fun x1 ω n h => ?_)
  refine G.less (B' := (0, 0)) (by decide) (by decide) ?_
  refine g_if_ne (tgt := 39) dX11_readAll_34 (by decide) (fun c2 => ?_) (fun c2 => ?_)
  · rw [if_neg c2] at h
    refine g_aload_n dX11_readAll_39 rfl 0 rfl ?_
    refine g_cV (ci := 11) (As := []) mv_X11_115 dX11_readAll_40 rfl (ok_X11_blanks Θ l0 _ _) rfl rfl (Nat.le_of_ble_eq_true rfl) (by decide) (by decide) (by decide) h (fun ω n h => ?_)
    refine G.less (B' := (0, 0)) (by decide) (by decide) ?_
    refine g_aload_n dX11_readAll_43 rfl 0 rfl ?_
    refine g_rI fl_X11_102 dX11_readAll_44 h (fun x4 h => ?_)
    refine g_aload_n dX11_readAll_47 rfl 0 rfl ?_
    refine g_rI fl_X11_105 dX11_readAll_48 h (fun x5 h => ?_)
    refine g_icmp_ne (tgt := 58) dX11_readAll_51 (by decide) (fun c6 => ?_) (fun c6 => ?_)
    · rw [if_neg c6] at h
      refine g_aload_n dX11_readAll_58 rfl 0 rfl ?_
      refine g_bipush (v := 59) dX11_readAll_59 (by decide) ?_
      refine g_bipush (v := 59) dX11_readAll_61 (by decide) ?_
      refine g_cI (ci := 11) (As := [.int 59, .int 59]) mv_X11_108 dX11_readAll_63 rfl (ok_X11_isAt Θ l0 59 59 _ _) rfl rfl (Nat.le_of_ble_eq_true rfl) (by decide) (by decide) (by decide) h (fun x7 ω n h => ?_)
      refine G.less (B' := (0, 0)) (by decide) (by decide) ?_
      refine g_if_ne (tgt := 71) dX11_readAll_66 (by decide) (fun c8 => ?_) (fun c8 => ?_)
      · rw [if_neg c8] at h
        refine g_aload_n dX11_readAll_71 rfl 0 rfl ?_
        refine g_dup dX11_readAll_72 rfl ?_
        refine g_rI fl_X11_102 dX11_readAll_73 h (fun x9 h => ?_)
        refine g_iconst (v := 1) dX11_readAll_76 (by decide) ?_
        refine g_iadd dX11_readAll_77 ?_
        refine g_wF fl_X11_102 dX11_readAll_78 (rfl) rfl h (fun ω h => ?_)
        refine g_iinc (j := 2) (v := l2 + 1) (lv' := [(2, .int (l2 + 1)), (0, .ref l0), (1, .int l1)]) dX11_readAll_81 rfl rfl (by decide) rfl ?_
        refine g_goto (tgt := 28) dX11_readAll_84 (by decide) ?_
        refine G.lsub [1, 2, 0] rfl ?_
        exact hk_28 l0 l1 (l2 + 1) _ _ r h
      · rw [if_pos c8] at h
        refine g_iconst (v := (-1)) dX11_readAll_69 (by decide) ?_
        cases h
        exact g_iret rfl dX11_readAll_70 rfl
    · rw [if_pos c6] at h
      refine g_iload_n dX11_readAll_54 rfl 2 rfl ?_
      refine g_iconst (v := 1) dX11_readAll_55 (by decide) ?_
      refine g_iadd dX11_readAll_56 ?_
      cases h
      exact g_iret rfl dX11_readAll_57 rfl
  · rw [if_pos c2] at h
    refine g_iconst (v := (-1)) dX11_readAll_37 (by decide) ?_
    cases h
    exact g_iret rfl dX11_readAll_38 rfl
theorem ok_L_X11_readAll_28 (Θ : GP) : ∀ (f : Nat) (l0 : Nat) (l1 : Int32) (l2 : Int32) (ω : OW) (n : Nat) (r : Out), L_X11_readAll_28 Θ f l0 l1 l2 ω n = some r → GR Θ yX11_readAll cX11_readAll 3 (some .int) 213 (0, 0) 28 [(0, .ref l0), (1, .int l1), (2, .int l2)] [] ω n r := by
  intro f
  induction f with
  | zero =>
    intro l0 l1 l2 ω n r h
    unfold L_X11_readAll_28 at h
    cases h
  | succ f ih =>
    intro l0 l1 l2 ω n r h
    unfold L_X11_readAll_28 at h
    exact ok_B_X11_readAll_28 Θ (L_X11_readAll_28 Θ f) ih l0 l1 l2 ω n r h
theorem ok_X11_readAll (Θ : GP) (l0 : Nat) (l1 : Int32) (ω : OW) (n : Nat) : Ok Θ 213 0 0 yX11_readAll cX11_readAll 3 (some .int) [.ref l0, .int l1] ω n (F_X11_readAll Θ l0 l1 ω n) := by
  refine Ok.of (by decide +kernel) (Nat.le_of_ble_eq_true rfl) (fun r h => ?_)
  unfold F_X11_readAll at h
  show GR Θ yX11_readAll cX11_readAll 3 (some .int) 213 (0, 0) 0 [(0, .ref l0), (1, .int l1)] [] ω n r
  refine g_aload_n dX11_readAll_0 rfl 0 rfl ?_
  refine g_cV (ci := 11) (As := []) mv_X11_251 dX11_readAll_1 rfl (ok_X11_uses Θ l0 _ _) rfl rfl (Nat.le_of_ble_eq_true rfl) (by decide) (by decide) (by decide) h (fun ω n h => ?_)
  refine G.less (B' := (0, 0)) (by decide) (by decide) ?_
  refine g_aload_n dX11_readAll_4 rfl 0 rfl ?_
  refine g_iconst (v := 0) dX11_readAll_5 (by decide) ?_
  refine g_wF fl_X11_194 dX11_readAll_6 (rfl) rfl h (fun ω h => ?_)
  refine g_aload_n dX11_readAll_9 rfl 0 rfl ?_
  refine g_cV (ci := 11) (As := []) mv_X11_115 dX11_readAll_10 rfl (ok_X11_blanks Θ l0 _ _) rfl rfl (Nat.le_of_ble_eq_true rfl) (by decide) (by decide) (by decide) h (fun ω n h => ?_)
  refine G.less (B' := (0, 0)) (by decide) (by decide) ?_
  refine g_aload_n dX11_readAll_13 rfl 0 rfl ?_
  refine g_rI fl_X11_102 dX11_readAll_14 h (fun x12 h => ?_)
  refine g_aload_n dX11_readAll_17 rfl 0 rfl ?_
  refine g_rI fl_X11_105 dX11_readAll_18 h (fun x13 h => ?_)
  refine g_icmp_ne (tgt := 26) dX11_readAll_21 (by decide) (fun c14 => ?_) (fun c14 => ?_)
  · rw [if_neg c14] at h
    refine g_iconst (v := 0) dX11_readAll_26 (by decide) ?_
    refine g_istore_n (lv' := [(2, .int 0), (0, .ref l0), (1, .int l1)]) dX11_readAll_27 rfl (by decide) rfl ?_
    refine G.lsub [1, 2, 0] rfl ?_
    exact ok_L_X11_readAll_28 Θ 5000 l0 l1 0 _ _ r h
  · rw [if_pos c14] at h
    refine g_iconst (v := 0) dX11_readAll_24 (by decide) ?_
    cases h
    exact g_iret rfl dX11_readAll_25 rfl
def B_X11_court_92 (Θ : GP) (k_92 : Nat → Int32 → OW → Nat → RO) (l0 : Nat) (l2 : Int32) (ω : OW) (n : Nat) : RO := if 1154 ≤ l2 then (some (.inl (some (.int 0), ω, n))) else (rA ω l0 11 1 (fun a2 => rA ω l0 11 3 (fun a3 => lI ω (gI Θ) a3 l2 (fun x4 => sI ω (gI Θ) a2 l2 x4 (fun ω => k_92 l0 (l2 + 1) ω n)))))
def L_X11_court_92 (Θ : GP) : Nat → Nat → Int32 → OW → Nat → RO
  | 0, _, _, _, _ => none
  | f + 1, l0, l2, ω, n => B_X11_court_92 Θ (L_X11_court_92 Θ f) l0 l2 ω n
def J_X11_court_90 (Θ : GP) (l0 : Nat) (ω : OW) (n : Nat) : RO := L_X11_court_92 Θ 5000 l0 0 ω n
def J_X11_court_83 (Θ : GP) (l0 : Nat) (s0 : Int32) (s1 : Nat) (ω : OW) (n : Nat) : RO := cO ω s1 11 (kI (F_X11_throwsIf Θ s1 s0 2 ω n) (fun x5 ω n => if x5 = 0 then (rA ω l0 11 1 (fun a7 => lI ω (gI Θ) a7 2 (fun x8 => sI ω (gI Θ) a7 2 (x8 + 1) (fun ω => wF ω l0 11 7 (.int 0) (fun ω => rA ω l0 11 1 (fun a9 => lI ω (gI Θ) a9 2 (fun x10 => some (.inl (some (.int x10), ω, n))))))))) else (J_X11_court_90 Θ l0 ω n)))
def J_X11_court_59 (Θ : GP) (l0 : Nat) (s0 : Int32) (s1 : Nat) (ω : OW) (n : Nat) : RO := cO ω s1 11 (kI (F_X11_throwsIf Θ s1 s0 1 ω n) (fun x11 ω n => if x11 = 0 then (rA ω l0 11 1 (fun a13 => lI ω (gI Θ) a13 2 (fun x14 => if x14 = 12 then (J_X11_court_83 Θ l0 1 l0 ω n) else (J_X11_court_83 Θ l0 0 l0 ω n)))) else (J_X11_court_90 Θ l0 ω n)))
def J_X11_court_46 (Θ : GP) (l0 : Nat) (l1 : Int32) (s0 : Int32) (s1 : Nat) (ω : OW) (n : Nat) : RO := wF ω s1 11 14 (.int s0) (fun ω => if 0 ≤ l1 then (J_X11_court_59 Θ l0 0 l0 ω n) else (J_X11_court_59 Θ l0 1 l0 ω n))
def B_X11_court_2 (Θ : GP) (k_2 : Nat → Int32 → OW → Nat → RO) (l0 : Nat) (l1 : Int32) (ω : OW) (n : Nat) : RO := if 1154 ≤ l1 then (cO ω l0 11 (kI (F_X11_readAll Θ l0 1 ω n) (fun x18 ω n => if 0 ≤ x18 then (J_X11_court_46 Θ l0 x18 (-1) l0 ω n) else (rI ω l0 11 12 (fun x20 => J_X11_court_46 Θ l0 x18 x20 l0 ω n))))) else (rA ω l0 11 3 (fun a21 => rA ω l0 11 1 (fun a22 => lI ω (gI Θ) a22 l1 (fun x23 => sI ω (gI Θ) a21 l1 x23 (fun ω => k_2 l0 (l1 + 1) ω n)))))
def L_X11_court_2 (Θ : GP) : Nat → Nat → Int32 → OW → Nat → RO
  | 0, _, _, _, _ => none
  | f + 1, l0, l1, ω, n => B_X11_court_2 Θ (L_X11_court_2 Θ f) l0 l1 ω n
def F_X11_court (Θ : GP) (l0 : Nat) (ω : OW) (n : Nat) : RO := L_X11_court_2 Θ 5000 l0 0 ω n
theorem ok_B_X11_court_92 (Θ : GP) (k_92 : Nat → Int32 → OW → Nat → RO) (hk_92 : ∀ l0 l2 ω n r, k_92 l0 l2 ω n = some r → GR Θ yX11_court cX11_court 3 (some .int) 214 (0, 0) 92 [(0, .ref l0), (2, .int l2)] [] ω n r) (l0 : Nat) (l2 : Int32) (ω : OW) (n : Nat) (r : Out) (h : B_X11_court_92 Θ k_92 l0 l2 ω n = some r) : GR Θ yX11_court cX11_court 3 (some .int) 214 (0, 0) 92 [(0, .ref l0), (2, .int l2)] [] ω n r := by
  unfold B_X11_court_92 at h
  refine g_iload_n dX11_court_92 rfl 1 rfl ?_
  refine g_sipush (v := 1154) dX11_court_93 (by decide) ?_
  refine g_icmp_ge (tgt := 117) dX11_court_96 (by decide) (fun c1 => ?_) (fun c1 => ?_)
  · rw [if_pos c1] at h
    refine g_iconst (v := 0) dX11_court_117 (by decide) ?_
    cases h
    exact g_iret rfl dX11_court_118 rfl
  · rw [if_neg c1] at h
    refine g_aload_n dX11_court_99 rfl 0 rfl ?_
    refine g_rA fl_X11_13 dX11_court_100 h (fun a2 h => ?_)
    refine g_iload_n dX11_court_103 rfl 1 rfl ?_
    refine g_aload_n dX11_court_104 rfl 0 rfl ?_
    refine g_rA fl_X11_20 dX11_court_105 h (fun a3 h => ?_)
    refine g_iload_n dX11_court_108 rfl 1 rfl ?_
    refine g_lIi dX11_court_109 h (fun x4 h => ?_)
    refine g_sIi dX11_court_110 h (fun ω h => ?_)
    refine g_iinc (j := 1) (v := l2 + 1) (lv' := [(2, .int (l2 + 1)), (0, .ref l0)]) dX11_court_111 rfl rfl (by decide) rfl ?_
    refine g_goto (tgt := 92) dX11_court_114 (by decide) ?_
    refine G.lsub [1, 0] rfl ?_
    exact hk_92 l0 (l2 + 1) _ _ r h
theorem ok_L_X11_court_92 (Θ : GP) : ∀ (f : Nat) (l0 : Nat) (l2 : Int32) (ω : OW) (n : Nat) (r : Out), L_X11_court_92 Θ f l0 l2 ω n = some r → GR Θ yX11_court cX11_court 3 (some .int) 214 (0, 0) 92 [(0, .ref l0), (2, .int l2)] [] ω n r := by
  intro f
  induction f with
  | zero =>
    intro l0 l2 ω n r h
    unfold L_X11_court_92 at h
    cases h
  | succ f ih =>
    intro l0 l2 ω n r h
    unfold L_X11_court_92 at h
    exact ok_B_X11_court_92 Θ (L_X11_court_92 Θ f) ih l0 l2 ω n r h
theorem ok_J_X11_court_90 (Θ : GP) (l0 : Nat) (ω : OW) (n : Nat) (r : Out) (h : J_X11_court_90 Θ l0 ω n = some r) : GR Θ yX11_court cX11_court 3 (some .int) 214 (0, 0) 90 [(0, .ref l0)] [] ω n r := by
  unfold J_X11_court_90 at h
  refine g_iconst (v := 0) dX11_court_90 (by decide) ?_
  refine g_istore_n (lv' := [(2, .int 0), (0, .ref l0)]) dX11_court_91 rfl (by decide) rfl ?_
  refine G.lsub [1, 0] rfl ?_
  exact ok_L_X11_court_92 Θ 5000 l0 0 _ _ r h
theorem ok_J_X11_court_83 (Θ : GP) (l0 : Nat) (s0 : Int32) (s1 : Nat) (ω : OW) (n : Nat) (r : Out) (h : J_X11_court_83 Θ l0 s0 s1 ω n = some r) : GR Θ yX11_court cX11_court 3 (some .int) 214 (0, 0) 83 [(0, .ref l0)] [.int s0, .ref s1] ω n r := by
  unfold J_X11_court_83 at h
  refine g_iconst (v := 2) dX11_court_83 (by decide) ?_
  refine g_cI (ci := 11) (As := [.int s0, .int 2]) mv_X11_262 dX11_court_84 rfl (ok_X11_throwsIf Θ s1 s0 2 _ _) rfl rfl (Nat.le_of_ble_eq_true rfl) (by decide) (by decide) (by decide) h (fun x5 ω n h => ?_)
  refine G.less (B' := (0, 0)) (by decide) (by decide) ?_
  refine g_if_eq (tgt := 119) dX11_court_87 (by decide) (fun c6 => ?_) (fun c6 => ?_)
  · rw [if_pos c6] at h
    refine g_aload_n dX11_court_119 rfl 0 rfl ?_
    refine g_rA fl_X11_13 dX11_court_120 h (fun a7 h => ?_)
    refine g_iconst (v := 2) dX11_court_123 (by decide) ?_
    refine g_dup2 dX11_court_124 rfl rfl ?_
    refine g_lIi dX11_court_125 h (fun x8 h => ?_)
    refine g_iconst (v := 1) dX11_court_126 (by decide) ?_
    refine g_iadd dX11_court_127 ?_
    refine g_sIi dX11_court_128 h (fun ω h => ?_)
    refine g_aload_n dX11_court_129 rfl 0 rfl ?_
    refine g_iconst (v := 0) dX11_court_130 (by decide) ?_
    refine g_wF fl_X11_67 dX11_court_131 (rfl) rfl h (fun ω h => ?_)
    refine g_aload_n dX11_court_134 rfl 0 rfl ?_
    refine g_rA fl_X11_13 dX11_court_135 h (fun a9 h => ?_)
    refine g_iconst (v := 2) dX11_court_138 (by decide) ?_
    refine g_lIi dX11_court_139 h (fun x10 h => ?_)
    cases h
    exact g_iret rfl dX11_court_140 rfl
  · rw [if_neg c6] at h
    exact ok_J_X11_court_90 Θ l0 _ _ r h
theorem ok_J_X11_court_59 (Θ : GP) (l0 : Nat) (s0 : Int32) (s1 : Nat) (ω : OW) (n : Nat) (r : Out) (h : J_X11_court_59 Θ l0 s0 s1 ω n = some r) : GR Θ yX11_court cX11_court 3 (some .int) 214 (0, 0) 59 [(0, .ref l0)] [.int s0, .ref s1] ω n r := by
  unfold J_X11_court_59 at h
  refine g_iconst (v := 1) dX11_court_59 (by decide) ?_
  refine g_cI (ci := 11) (As := [.int s0, .int 1]) mv_X11_262 dX11_court_60 rfl (ok_X11_throwsIf Θ s1 s0 1 _ _) rfl rfl (Nat.le_of_ble_eq_true rfl) (by decide) (by decide) (by decide) h (fun x11 ω n h => ?_)
  refine G.less (B' := (0, 0)) (by decide) (by decide) ?_
  refine g_if_ne (tgt := 90) dX11_court_63 (by decide) (fun c12 => ?_) (fun c12 => ?_)
  · rw [if_neg c12] at h
    exact ok_J_X11_court_90 Θ l0 _ _ r h
  · rw [if_pos c12] at h
    refine g_aload_n dX11_court_66 rfl 0 rfl ?_
    refine g_aload_n dX11_court_67 rfl 0 rfl ?_
    refine g_rA fl_X11_13 dX11_court_68 h (fun a13 h => ?_)
    refine g_iconst (v := 2) dX11_court_71 (by decide) ?_
    refine g_lIi dX11_court_72 h (fun x14 h => ?_)
    refine g_bipush (v := 12) dX11_court_73 (by decide) ?_
    refine g_icmp_ne (tgt := 82) dX11_court_75 (by decide) (fun c15 => ?_) (fun c15 => ?_)
    · rw [if_neg c15] at h
      refine g_iconst (v := 0) dX11_court_82 (by decide) ?_
      exact ok_J_X11_court_83 Θ l0 0 l0 _ _ r h
    · rw [if_pos c15] at h
      refine g_iconst (v := 1) dX11_court_78 (by decide) ?_
      refine g_goto (tgt := 83) dX11_court_79 (by decide) ?_
      exact ok_J_X11_court_83 Θ l0 1 l0 _ _ r h
theorem ok_J_X11_court_46 (Θ : GP) (l0 : Nat) (l1 : Int32) (s0 : Int32) (s1 : Nat) (ω : OW) (n : Nat) (r : Out) (h : J_X11_court_46 Θ l0 l1 s0 s1 ω n = some r) : GR Θ yX11_court cX11_court 3 (some .int) 214 (0, 0) 46 [(0, .ref l0), (1, .int l1)] [.int s0, .ref s1] ω n r := by
  unfold J_X11_court_46 at h
  refine g_wF fl_X11_33 dX11_court_46 (rfl) rfl h (fun ω h => ?_)
  refine g_aload_n dX11_court_49 rfl 0 rfl ?_
  refine g_iload_n dX11_court_50 rfl 1 rfl ?_
  refine g_if_ge (tgt := 58) dX11_court_51 (by decide) (fun c16 => ?_) (fun c16 => ?_)
  · rw [if_pos c16] at h
    refine g_iconst (v := 0) dX11_court_58 (by decide) ?_
    refine G.lsub [0] rfl ?_
    exact ok_J_X11_court_59 Θ l0 0 l0 _ _ r h
  · rw [if_neg c16] at h
    refine g_iconst (v := 1) dX11_court_54 (by decide) ?_
    refine g_goto (tgt := 59) dX11_court_55 (by decide) ?_
    refine G.lsub [0] rfl ?_
    exact ok_J_X11_court_59 Θ l0 1 l0 _ _ r h
theorem ok_B_X11_court_2 (Θ : GP) (k_2 : Nat → Int32 → OW → Nat → RO) (hk_2 : ∀ l0 l1 ω n r, k_2 l0 l1 ω n = some r → GR Θ yX11_court cX11_court 3 (some .int) 214 (0, 0) 2 [(0, .ref l0), (1, .int l1)] [] ω n r) (l0 : Nat) (l1 : Int32) (ω : OW) (n : Nat) (r : Out) (h : B_X11_court_2 Θ k_2 l0 l1 ω n = some r) : GR Θ yX11_court cX11_court 3 (some .int) 214 (0, 0) 2 [(0, .ref l0), (1, .int l1)] [] ω n r := by
  unfold B_X11_court_2 at h
  refine g_iload_n dX11_court_2 rfl 1 rfl ?_
  refine g_sipush (v := 1154) dX11_court_3 (by decide) ?_
  refine g_icmp_ge (tgt := 27) dX11_court_6 (by decide) (fun c17 => ?_) (fun c17 => ?_)
  · rw [if_pos c17] at h
    refine g_aload_n dX11_court_27 rfl 0 rfl ?_
    refine g_iconst (v := 1) dX11_court_28 (by decide) ?_
    refine g_cI (ci := 11) (As := [.int 1]) mv_X11_258 dX11_court_29 rfl (ok_X11_readAll Θ l0 1 _ _) rfl rfl (Nat.le_of_ble_eq_true rfl) (by decide) (by decide) (by decide) h (fun x18 ω n h => ?_)
    refine G.less (B' := (0, 0)) (by decide) (by decide) ?_
    refine g_istore_n (lv' := [(1, .int x18), (0, .ref l0)]) dX11_court_32 rfl (by decide) rfl ?_
    refine g_aload_n dX11_court_33 rfl 1 rfl ?_
    refine g_iload_n dX11_court_34 rfl 0 rfl ?_
    refine g_if_ge (tgt := 45) dX11_court_35 (by decide) (fun c19 => ?_) (fun c19 => ?_)
    · rw [if_pos c19] at h
      refine g_iconst (v := (-1)) dX11_court_45 (by decide) ?_
      refine G.lsub [1, 0] rfl ?_
      exact ok_J_X11_court_46 Θ l0 x18 (-1) l0 _ _ r h
    · rw [if_neg c19] at h
      refine g_aload_n dX11_court_38 rfl 1 rfl ?_
      refine g_rI fl_X11_112 dX11_court_39 h (fun x20 h => ?_)
      refine g_goto (tgt := 46) dX11_court_42 (by decide) ?_
      refine G.lsub [1, 0] rfl ?_
      exact ok_J_X11_court_46 Θ l0 x18 x20 l0 _ _ r h
  · rw [if_neg c17] at h
    refine g_aload_n dX11_court_9 rfl 0 rfl ?_
    refine g_rA fl_X11_20 dX11_court_10 h (fun a21 h => ?_)
    refine g_iload_n dX11_court_13 rfl 1 rfl ?_
    refine g_aload_n dX11_court_14 rfl 0 rfl ?_
    refine g_rA fl_X11_13 dX11_court_15 h (fun a22 h => ?_)
    refine g_iload_n dX11_court_18 rfl 1 rfl ?_
    refine g_lIi dX11_court_19 h (fun x23 h => ?_)
    refine g_sIi dX11_court_20 h (fun ω h => ?_)
    refine g_iinc (j := 1) (v := l1 + 1) (lv' := [(1, .int (l1 + 1)), (0, .ref l0)]) dX11_court_21 rfl rfl (by decide) rfl ?_
    refine g_goto (tgt := 2) dX11_court_24 (by decide) ?_
    refine G.lsub [1, 0] rfl ?_
    exact hk_2 l0 (l1 + 1) _ _ r h
theorem ok_L_X11_court_2 (Θ : GP) : ∀ (f : Nat) (l0 : Nat) (l1 : Int32) (ω : OW) (n : Nat) (r : Out), L_X11_court_2 Θ f l0 l1 ω n = some r → GR Θ yX11_court cX11_court 3 (some .int) 214 (0, 0) 2 [(0, .ref l0), (1, .int l1)] [] ω n r := by
  intro f
  induction f with
  | zero =>
    intro l0 l1 ω n r h
    unfold L_X11_court_2 at h
    cases h
  | succ f ih =>
    intro l0 l1 ω n r h
    unfold L_X11_court_2 at h
    exact ok_B_X11_court_2 Θ (L_X11_court_2 Θ f) ih l0 l1 ω n r h
theorem ok_X11_court (Θ : GP) (l0 : Nat) (ω : OW) (n : Nat) : Ok Θ 214 0 0 yX11_court cX11_court 3 (some .int) [.ref l0] ω n (F_X11_court Θ l0 ω n) := by
  refine Ok.of (by decide +kernel) (Nat.le_of_ble_eq_true rfl) (fun r h => ?_)
  unfold F_X11_court at h
  show GR Θ yX11_court cX11_court 3 (some .int) 214 (0, 0) 0 [(0, .ref l0)] [] ω n r
  refine g_iconst (v := 0) dX11_court_0 (by decide) ?_
  refine g_istore_n (lv' := [(1, .int 0), (0, .ref l0)]) dX11_court_1 rfl (by decide) rfl ?_
  refine G.lsub [1, 0] rfl ?_
  exact ok_L_X11_court_2 Θ 5000 l0 0 _ _ r h
def B_X11_law_52 (Θ : GP) (k_52 : Nat → Int32 → Int32 → OW → Nat → RO) (l0 : Nat) (l1 : Int32) (l2 : Int32) (ω : OW) (n : Nat) : RO := if 849 ≤ l2 then (rA ω l0 11 1 (fun a2 => sI ω (gI Θ) a2 3 1 (fun ω => wF ω l0 11 7 (.int 0) (fun ω => some (.inl (some (.int l1), ω, n)))))) else (rA ω l0 11 1 (fun a3 => rA ω l0 11 1 (fun a4 => lI ω (gI Θ) a4 (1154 + l2) (fun x5 => sI ω (gI Θ) a3 (305 + l2) x5 (fun ω => k_52 l0 l1 (l2 + 1) ω n)))))
def L_X11_law_52 (Θ : GP) : Nat → Nat → Int32 → Int32 → OW → Nat → RO
  | 0, _, _, _, _, _ => none
  | f + 1, l0, l1, l2, ω, n => B_X11_law_52 Θ (L_X11_law_52 Θ f) l0 l1 l2 ω n
def J_X11_law_32 (Θ : GP) (l0 : Nat) (l1 : Int32) (s0 : Int32) (s1 : Nat) (ω : OW) (n : Nat) : RO := cO ω s1 11 (kI (F_X11_throwsIf Θ s1 s0 1 ω n) (fun x6 ω n => if x6 = 0 then (rA ω l0 11 1 (fun a8 => sI ω (gI Θ) a8 1154 l1 (fun ω => L_X11_law_52 Θ 5000 l0 l1 0 ω n))) else (some (.inl (some (.int 0), ω, n)))))
def J_X11_law_19 (Θ : GP) (l0 : Nat) (l1 : Int32) (s0 : Int32) (s1 : Nat) (ω : OW) (n : Nat) : RO := wF ω s1 11 14 (.int s0) (fun ω => if 0 ≤ l1 then (J_X11_law_32 Θ l0 l1 0 l0 ω n) else (J_X11_law_32 Θ l0 l1 1 l0 ω n))
def F_X11_law (Θ : GP) (l0 : Nat) (ω : OW) (n : Nat) : RO := cO ω l0 11 (kI (F_X11_readAll Θ l0 0 ω n) (fun x10 ω n => if 0 ≤ x10 then (J_X11_law_19 Θ l0 x10 (-1) l0 ω n) else (rI ω l0 11 12 (fun x12 => J_X11_law_19 Θ l0 x10 x12 l0 ω n))))
theorem ok_B_X11_law_52 (Θ : GP) (k_52 : Nat → Int32 → Int32 → OW → Nat → RO) (hk_52 : ∀ l0 l1 l2 ω n r, k_52 l0 l1 l2 ω n = some r → GR Θ yX11_law cX11_law 3 (some .int) 214 (0, 0) 52 [(0, .ref l0), (1, .int l1), (2, .int l2)] [] ω n r) (l0 : Nat) (l1 : Int32) (l2 : Int32) (ω : OW) (n : Nat) (r : Out) (h : B_X11_law_52 Θ k_52 l0 l1 l2 ω n = some r) : GR Θ yX11_law cX11_law 3 (some .int) 214 (0, 0) 52 [(0, .ref l0), (1, .int l1), (2, .int l2)] [] ω n r := by
  unfold B_X11_law_52 at h
  refine g_iload_n dX11_law_52 rfl 2 rfl ?_
  refine g_sipush (v := 849) dX11_law_53 (by decide) ?_
  refine g_icmp_ge (tgt := 85) dX11_law_56 (by decide) (fun c1 => ?_) (fun c1 => ?_)
  · rw [if_pos c1] at h
    refine g_aload_n dX11_law_85 rfl 0 rfl ?_
    refine g_rA fl_X11_13 dX11_law_86 h (fun a2 h => ?_)
    refine g_iconst (v := 3) dX11_law_89 (by decide) ?_
    refine g_iconst (v := 1) dX11_law_90 (by decide) ?_
    refine g_sIi dX11_law_91 h (fun ω h => ?_)
    refine g_aload_n dX11_law_92 rfl 0 rfl ?_
    refine g_iconst (v := 0) dX11_law_93 (by decide) ?_
    refine g_wF fl_X11_67 dX11_law_94 (rfl) rfl h (fun ω h => ?_)
    refine g_iload_n dX11_law_97 rfl 1 rfl ?_
    cases h
    exact g_iret rfl dX11_law_98 rfl
  · rw [if_neg c1] at h
    refine g_aload_n dX11_law_59 rfl 0 rfl ?_
    refine g_rA fl_X11_13 dX11_law_60 h (fun a3 h => ?_)
    refine g_sipush (v := 305) dX11_law_63 (by decide) ?_
    refine g_iload_n dX11_law_66 rfl 2 rfl ?_
    refine g_iadd dX11_law_67 ?_
    refine g_aload_n dX11_law_68 rfl 0 rfl ?_
    refine g_rA fl_X11_13 dX11_law_69 h (fun a4 h => ?_)
    refine g_sipush (v := 1154) dX11_law_72 (by decide) ?_
    refine g_iload_n dX11_law_75 rfl 2 rfl ?_
    refine g_iadd dX11_law_76 ?_
    refine g_lIi dX11_law_77 h (fun x5 h => ?_)
    refine g_sIi dX11_law_78 h (fun ω h => ?_)
    refine g_iinc (j := 2) (v := l2 + 1) (lv' := [(2, .int (l2 + 1)), (0, .ref l0), (1, .int l1)]) dX11_law_79 rfl rfl (by decide) rfl ?_
    refine g_goto (tgt := 52) dX11_law_82 (by decide) ?_
    refine G.lsub [1, 2, 0] rfl ?_
    exact hk_52 l0 l1 (l2 + 1) _ _ r h
theorem ok_L_X11_law_52 (Θ : GP) : ∀ (f : Nat) (l0 : Nat) (l1 : Int32) (l2 : Int32) (ω : OW) (n : Nat) (r : Out), L_X11_law_52 Θ f l0 l1 l2 ω n = some r → GR Θ yX11_law cX11_law 3 (some .int) 214 (0, 0) 52 [(0, .ref l0), (1, .int l1), (2, .int l2)] [] ω n r := by
  intro f
  induction f with
  | zero =>
    intro l0 l1 l2 ω n r h
    unfold L_X11_law_52 at h
    cases h
  | succ f ih =>
    intro l0 l1 l2 ω n r h
    unfold L_X11_law_52 at h
    exact ok_B_X11_law_52 Θ (L_X11_law_52 Θ f) ih l0 l1 l2 ω n r h
theorem ok_J_X11_law_32 (Θ : GP) (l0 : Nat) (l1 : Int32) (s0 : Int32) (s1 : Nat) (ω : OW) (n : Nat) (r : Out) (h : J_X11_law_32 Θ l0 l1 s0 s1 ω n = some r) : GR Θ yX11_law cX11_law 3 (some .int) 214 (0, 0) 32 [(0, .ref l0), (1, .int l1)] [.int s0, .ref s1] ω n r := by
  unfold J_X11_law_32 at h
  refine g_iconst (v := 1) dX11_law_32 (by decide) ?_
  refine g_cI (ci := 11) (As := [.int s0, .int 1]) mv_X11_262 dX11_law_33 rfl (ok_X11_throwsIf Θ s1 s0 1 _ _) rfl rfl (Nat.le_of_ble_eq_true rfl) (by decide) (by decide) (by decide) h (fun x6 ω n h => ?_)
  refine G.less (B' := (0, 0)) (by decide) (by decide) ?_
  refine g_if_eq (tgt := 41) dX11_law_36 (by decide) (fun c7 => ?_) (fun c7 => ?_)
  · rw [if_pos c7] at h
    refine g_aload_n dX11_law_41 rfl 0 rfl ?_
    refine g_rA fl_X11_13 dX11_law_42 h (fun a8 h => ?_)
    refine g_sipush (v := 1154) dX11_law_45 (by decide) ?_
    refine g_iload_n dX11_law_48 rfl 1 rfl ?_
    refine g_sIi dX11_law_49 h (fun ω h => ?_)
    refine g_iconst (v := 0) dX11_law_50 (by decide) ?_
    refine g_istore_n (lv' := [(2, .int 0), (0, .ref l0), (1, .int l1)]) dX11_law_51 rfl (by decide) rfl ?_
    refine G.lsub [1, 2, 0] rfl ?_
    exact ok_L_X11_law_52 Θ 5000 l0 l1 0 _ _ r h
  · rw [if_neg c7] at h
    refine g_iconst (v := 0) dX11_law_39 (by decide) ?_
    cases h
    exact g_iret rfl dX11_law_40 rfl
theorem ok_J_X11_law_19 (Θ : GP) (l0 : Nat) (l1 : Int32) (s0 : Int32) (s1 : Nat) (ω : OW) (n : Nat) (r : Out) (h : J_X11_law_19 Θ l0 l1 s0 s1 ω n = some r) : GR Θ yX11_law cX11_law 3 (some .int) 214 (0, 0) 19 [(0, .ref l0), (1, .int l1)] [.int s0, .ref s1] ω n r := by
  unfold J_X11_law_19 at h
  refine g_wF fl_X11_33 dX11_law_19 (rfl) rfl h (fun ω h => ?_)
  refine g_aload_n dX11_law_22 rfl 0 rfl ?_
  refine g_iload_n dX11_law_23 rfl 1 rfl ?_
  refine g_if_ge (tgt := 31) dX11_law_24 (by decide) (fun c9 => ?_) (fun c9 => ?_)
  · rw [if_pos c9] at h
    refine g_iconst (v := 0) dX11_law_31 (by decide) ?_
    exact ok_J_X11_law_32 Θ l0 l1 0 l0 _ _ r h
  · rw [if_neg c9] at h
    refine g_iconst (v := 1) dX11_law_27 (by decide) ?_
    refine g_goto (tgt := 32) dX11_law_28 (by decide) ?_
    exact ok_J_X11_law_32 Θ l0 l1 1 l0 _ _ r h
theorem ok_X11_law (Θ : GP) (l0 : Nat) (ω : OW) (n : Nat) : Ok Θ 214 0 0 yX11_law cX11_law 3 (some .int) [.ref l0] ω n (F_X11_law Θ l0 ω n) := by
  refine Ok.of (by decide +kernel) (Nat.le_of_ble_eq_true rfl) (fun r h => ?_)
  unfold F_X11_law at h
  show GR Θ yX11_law cX11_law 3 (some .int) 214 (0, 0) 0 [(0, .ref l0)] [] ω n r
  refine g_aload_n dX11_law_0 rfl 0 rfl ?_
  refine g_iconst (v := 0) dX11_law_1 (by decide) ?_
  refine g_cI (ci := 11) (As := [.int 0]) mv_X11_258 dX11_law_2 rfl (ok_X11_readAll Θ l0 0 _ _) rfl rfl (Nat.le_of_ble_eq_true rfl) (by decide) (by decide) (by decide) h (fun x10 ω n h => ?_)
  refine G.less (B' := (0, 0)) (by decide) (by decide) ?_
  refine g_istore_n (lv' := [(1, .int x10), (0, .ref l0)]) dX11_law_5 rfl (by decide) rfl ?_
  refine g_aload_n dX11_law_6 rfl 1 rfl ?_
  refine g_iload_n dX11_law_7 rfl 0 rfl ?_
  refine g_if_ge (tgt := 18) dX11_law_8 (by decide) (fun c11 => ?_) (fun c11 => ?_)
  · rw [if_pos c11] at h
    refine g_iconst (v := (-1)) dX11_law_18 (by decide) ?_
    refine G.lsub [1, 0] rfl ?_
    exact ok_J_X11_law_19 Θ l0 x10 (-1) l0 _ _ r h
  · rw [if_neg c11] at h
    refine g_aload_n dX11_law_11 rfl 1 rfl ?_
    refine g_rI fl_X11_112 dX11_law_12 h (fun x12 h => ?_)
    refine g_goto (tgt := 19) dX11_law_15 (by decide) ?_
    refine G.lsub [1, 0] rfl ?_
    exact ok_J_X11_law_19 Θ l0 x10 x12 l0 _ _ r h
