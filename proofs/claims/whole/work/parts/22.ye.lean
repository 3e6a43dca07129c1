def F_X3_made (Θ : GP) (l0 : Nat) (ω : OW) (n : Nat) : RO := nw ω n (.inr (2, [.int 0, .int 0, .null, .null, .null, .null])) (fun a1 ω n => rI ω l0 3 1 (fun x2 => rA ω l0 3 3 (fun a3 => rI ω l0 3 1 (fun x4 => kA (F_J7_copyOf_59c91 Θ a3 x4 ω n) (fun a5 ω n => rA ω l0 3 4 (fun a6 => rI ω l0 3 1 (fun x7 => kA (F_J7_copyOf_59c91 Θ a6 x7 ω n) (fun a8 ω n => rA ω l0 3 5 (fun a9 => rI ω l0 3 1 (fun x10 => kA (F_J7_copyOf_59c91 Θ a9 (x10 + 1) ω n) (fun a11 ω n => rA ω l0 3 6 (fun a12 => rI ω l0 3 2 (fun x13 => kA (F_J7_copyOf_59c91 Θ a12 x13 ω n) (fun a14 ω n => kC (F_X2_init Θ a1 x2 1 a5 a8 a11 a14 ω n) (fun ω n => some (.inl (some (.ref a1), ω, n)))))))))))))))))
theorem ok_X3_made (Θ : GP) (l0 : Nat) (ω : OW) (n : Nat) : Ok Θ 3 5 2006 yX3_made cX3_made 1 (some (.object "GhostAssize$Law")) [.ref l0] ω n (F_X3_made Θ l0 ω n) := by
  refine Ok.of (by decide +kernel) (Nat.le_of_ble_eq_true rfl) (fun r h => ?_)
  unfold F_X3_made at h
  show GR Θ yX3_made cX3_made 1 (some (.object "GhostAssize$Law")) 3 (5, 2006) 0 [(0, .ref l0)] [] ω n r
  refine g_nwO cl_X2 wd_980 wd_194 wd_114 dX3_made_0 df_X2 (by decide) (by decide) h (fun a1 ω n h => ?_)
  refine G.less (B' := (4, 2000)) (by decide) (by decide) ?_
  refine g_dup dX3_made_3 rfl ?_
  refine g_aload_n dX3_made_4 rfl 0 rfl ?_
  refine g_rI fl_X3_9 dX3_made_5 h (fun x2 h => ?_)
  refine g_iconst (v := 1) dX3_made_8 (by decide) ?_
  refine g_aload_n dX3_made_9 rfl 0 rfl ?_
  refine g_rA fl_X3_20 dX3_made_10 h (fun a3 h => ?_)
  refine g_aload_n dX3_made_13 rfl 0 rfl ?_
  refine g_rI fl_X3_9 dX3_made_14 h (fun x4 h => ?_)
  refine g_sA (As := [.ref a3, .int x4]) ms_X3_58 dX3_made_17 (ok_J7_copyOf_59c91 Θ a3 x4 _ _) rfl rfl (Nat.le_of_ble_eq_true rfl) (by decide) (by decide) (by decide) h (fun a5 ω n h => ?_)
  refine G.less (B' := (3, 1500)) (by decide) (by decide) ?_
  refine g_aload_n dX3_made_20 rfl 0 rfl ?_
  refine g_rA fl_X3_24 dX3_made_21 h (fun a6 h => ?_)
  refine g_aload_n dX3_made_24 rfl 0 rfl ?_
  refine g_rI fl_X3_9 dX3_made_25 h (fun x7 h => ?_)
  refine g_sA (As := [.ref a6, .int x7]) ms_X3_58 dX3_made_28 (ok_J7_copyOf_59c91 Θ a6 x7 _ _) rfl rfl (Nat.le_of_ble_eq_true rfl) (by decide) (by decide) (by decide) h (fun a8 ω n h => ?_)
  refine G.less (B' := (2, 1000)) (by decide) (by decide) ?_
  refine g_aload_n dX3_made_31 rfl 0 rfl ?_
  refine g_rA fl_X3_27 dX3_made_32 h (fun a9 h => ?_)
  refine g_aload_n dX3_made_35 rfl 0 rfl ?_
  refine g_rI fl_X3_9 dX3_made_36 h (fun x10 h => ?_)
  refine g_iconst (v := 1) dX3_made_39 (by decide) ?_
  refine g_iadd dX3_made_40 ?_
  refine g_sA (As := [.ref a9, .int (x10 + 1)]) ms_X3_58 dX3_made_41 (ok_J7_copyOf_59c91 Θ a9 (x10 + 1) _ _) rfl rfl (Nat.le_of_ble_eq_true rfl) (by decide) (by decide) (by decide) h (fun a11 ω n h => ?_)
  refine G.less (B' := (1, 500)) (by decide) (by decide) ?_
  refine g_aload_n dX3_made_44 rfl 0 rfl ?_
  refine g_rA fl_X3_30 dX3_made_45 h (fun a12 h => ?_)
  refine g_aload_n dX3_made_48 rfl 0 rfl ?_
  refine g_rI fl_X3_15 dX3_made_49 h (fun x13 h => ?_)
  refine g_sA (As := [.ref a12, .int x13]) ms_X3_58 dX3_made_52 (ok_J7_copyOf_59c91 Θ a12 x13 _ _) rfl rfl (Nat.le_of_ble_eq_true rfl) (by decide) (by decide) (by decide) h (fun a14 ω n h => ?_)
  refine G.less (B' := (0, 0)) (by decide) (by decide) ?_
  refine g_cC (As := [.int x2, .int 1, .ref a5, .ref a8, .ref a11, .ref a14]) mi_X3_64 dX3_made_55 (ok_X2_init Θ a1 x2 1 a5 a8 a11 a14 _ _) rfl rfl (Nat.le_of_ble_eq_true rfl) (by decide) (by decide) (by decide) h (fun ω n h => ?_)
  refine G.less (B' := (0, 0)) (by decide) (by decide) ?_
  cases h
  exact g_aret rfl (by first | exact Or.inl ⟨_, rfl⟩ | exact Or.inr ⟨_, rfl⟩) dX3_made_58 rfl
def B_X3_read_34 (Θ : GP) (k_34 : Nat → Int32 → OW → Nat → RO) (l0 : Nat) (l1 : Int32) (ω : OW) (n : Nat) : RO := if 12 ≤ l1 then (some (.inl (some .null, ω, n))) else (cO ω l0 3 (kI (F_X3_readLine Θ l0 l1 ω n) (fun x2 ω n => if x2 = 0 then (some (.inl (some .null, ω, n))) else (wF ω l0 3 1 (.int (l1 + 1)) (fun ω => rA ω l0 3 5 (fun a4 => rI ω l0 3 1 (fun x5 => rI ω l0 3 2 (fun x6 => sI ω (gI Θ) a4 x5 x6 (fun ω => rA ω l0 3 0 (fun a7 => cO ω a7 8 (kI (F_X8_isEnded Θ a7 ω n) (fun x8 ω n => if x8 = 0 then (rA ω l0 3 0 (fun a10 => cO ω a10 8 (kI (F_X8_takeSign Θ a10 59 ω n) (fun x11 ω n => if x11 = 0 then (some (.inl (some .null, ω, n))) else (k_34 l0 (l1 + 1) ω n))))) else (cO ω l0 3 (kA (F_X3_made Θ l0 ω n) (fun a13 ω n => some (.inl (some (.ref a13), ω, n)))))))))))))))))
def L_X3_read_34 (Θ : GP) : Nat → Nat → Int32 → OW → Nat → RO
  | 0, _, _, _, _ => none
  | f + 1, l0, l1, ω, n => B_X3_read_34 Θ (L_X3_read_34 Θ f) l0 l1 ω n
def F_X3_read (Θ : GP) (l0 : Nat) (ω : OW) (n : Nat) : RO := wF ω l0 3 1 (.int 0) (fun ω => wF ω l0 3 2 (.int 0) (fun ω => rA ω l0 3 0 (fun a14 => cO ω a14 8 (kV (F_X8_open Θ a14 ω n) (fun ω n => rA ω l0 3 0 (fun a16 => cO ω a16 8 (kI (F_X8_isEnded Θ a16 ω n) (fun x17 ω n => if x17 = 0 then (L_X3_read_34 Θ 5000 l0 0 ω n) else (cO ω l0 3 (kA (F_X3_made Θ l0 ω n) (fun a19 ω n => some (.inl (some (.ref a19), ω, n)))))))))))))
theorem ok_B_X3_read_34 (Θ : GP) (k_34 : Nat → Int32 → OW → Nat → RO) (hk_34 : ∀ l0 l1 ω n r, k_34 l0 l1 ω n = some r → GR Θ yX3_read cX3_read 2 (some (.object "GhostAssize$Law")) 206 (5, 2006) 34 [(0, .ref l0), (1, .int l1)] [] ω n r) (l0 : Nat) (l1 : Int32) (ω : OW) (n : Nat) (r : Out) (h : B_X3_read_34 Θ k_34 l0 l1 ω n = some r) : GR Θ yX3_read cX3_read 2 (some (.object "GhostAssize$Law")) 206 (5, 2006) 34 [(0, .ref l0), (1, .int l1)] [] ω n r := by
  unfold B_X3_read_34 at h
  refine g_iload_n dX3_read_34 rfl 1 rfl ?_
  refine g_bipush (v := 12) dX3_read_35 (by decide) ?_
  refine g_icmp_ge (tgt := 105) dX3_read_37 (by decide) (fun c1 => ?_) (fun c1 => ?_)
  · rw [if_pos c1] at h
    refine g_null dX3_read_105 ?_
    cases h
    exact g_aretN rfl (by first | exact Or.inl ⟨_, rfl⟩ | exact Or.inr ⟨_, rfl⟩) dX3_read_106 rfl
  · rw [if_neg c1] at h
    refine g_aload_n dX3_read_40 rfl 0 rfl ?_
    refine g_iload_n dX3_read_41 rfl 1 rfl ?_
    refine g_cI (ci := 3) (As := [.int l1]) mv_X3_50 dX3_read_42 rfl (ok_X3_readLine Θ l0 l1 _ _) rfl rfl (Nat.le_of_ble_eq_true rfl) (by decide) (by decide) (by decide) h (fun x2 ω n h => ?_)
    refine G.less (B' := (5, 2006)) (by decide) (by decide) ?_
    refine g_if_ne (tgt := 50) dX3_read_45 (by decide) (fun c3 => ?_) (fun c3 => ?_)
    · rw [if_neg c3] at h
      refine g_aload_n dX3_read_50 rfl 0 rfl ?_
      refine g_iload_n dX3_read_51 rfl 1 rfl ?_
      refine g_iconst (v := 1) dX3_read_52 (by decide) ?_
      refine g_iadd dX3_read_53 ?_
      refine g_wF fl_X3_9 dX3_read_54 (rfl) rfl h (fun ω h => ?_)
      refine g_aload_n dX3_read_57 rfl 0 rfl ?_
      refine g_rA fl_X3_27 dX3_read_58 h (fun a4 h => ?_)
      refine g_aload_n dX3_read_61 rfl 0 rfl ?_
      refine g_rI fl_X3_9 dX3_read_62 h (fun x5 h => ?_)
      refine g_aload_n dX3_read_65 rfl 0 rfl ?_
      refine g_rI fl_X3_15 dX3_read_66 h (fun x6 h => ?_)
      refine g_sIi dX3_read_69 h (fun ω h => ?_)
      refine g_aload_n dX3_read_70 rfl 0 rfl ?_
      refine g_rA fl_X3_33 dX3_read_71 h (fun a7 h => ?_)
      refine g_cI (ci := 8) (As := []) mv_X3_42 dX3_read_74 rfl (ok_X8_isEnded Θ a7 _ _) rfl rfl (Nat.le_of_ble_eq_true rfl) (by decide) (by decide) (by decide) h (fun x8 ω n h => ?_)
      refine G.less (B' := (5, 2006)) (by decide) (by decide) ?_
      refine g_if_eq (tgt := 85) dX3_read_77 (by decide) (fun c9 => ?_) (fun c9 => ?_)
      · rw [if_pos c9] at h
        refine g_aload_n dX3_read_85 rfl 0 rfl ?_
        refine g_rA fl_X3_33 dX3_read_86 h (fun a10 h => ?_)
        refine g_bipush (v := 59) dX3_read_89 (by decide) ?_
        refine g_cI (ci := 8) (As := [.int 59]) mv_X3_54 dX3_read_91 rfl (ok_X8_takeSign Θ a10 59 _ _) rfl rfl (Nat.le_of_ble_eq_true rfl) (by decide) (by decide) (by decide) h (fun x11 ω n h => ?_)
        refine G.less (B' := (5, 2006)) (by decide) (by decide) ?_
        refine g_if_ne (tgt := 99) dX3_read_94 (by decide) (fun c12 => ?_) (fun c12 => ?_)
        · rw [if_neg c12] at h
          refine g_iinc (j := 1) (v := l1 + 1) (lv' := [(1, .int (l1 + 1)), (0, .ref l0)]) dX3_read_99 rfl rfl (by decide) rfl ?_
          refine g_goto (tgt := 34) dX3_read_102 (by decide) ?_
          refine G.lsub [1, 0] rfl ?_
          exact hk_34 l0 (l1 + 1) _ _ r h
        · rw [if_pos c12] at h
          refine g_null dX3_read_97 ?_
          cases h
          exact g_aretN rfl (by first | exact Or.inl ⟨_, rfl⟩ | exact Or.inr ⟨_, rfl⟩) dX3_read_98 rfl
      · rw [if_neg c9] at h
        refine g_aload_n dX3_read_80 rfl 0 rfl ?_
        refine g_cA (ci := 3) (As := []) mv_X3_46 dX3_read_81 rfl (ok_X3_made Θ l0 _ _) rfl rfl (Nat.le_of_ble_eq_true rfl) (by decide) (by decide) (by decide) h (fun a13 ω n h => ?_)
        refine G.less (B' := (0, 0)) (by decide) (by decide) ?_
        cases h
        exact g_aret rfl (by first | exact Or.inl ⟨_, rfl⟩ | exact Or.inr ⟨_, rfl⟩) dX3_read_84 rfl
    · rw [if_pos c3] at h
      refine g_null dX3_read_48 ?_
      cases h
      exact g_aretN rfl (by first | exact Or.inl ⟨_, rfl⟩ | exact Or.inr ⟨_, rfl⟩) dX3_read_49 rfl
theorem ok_L_X3_read_34 (Θ : GP) : ∀ (f : Nat) (l0 : Nat) (l1 : Int32) (ω : OW) (n : Nat) (r : Out), L_X3_read_34 Θ f l0 l1 ω n = some r → GR Θ yX3_read cX3_read 2 (some (.object "GhostAssize$Law")) 206 (5, 2006) 34 [(0, .ref l0), (1, .int l1)] [] ω n r := by
  intro f
  induction f with
  | zero =>
    intro l0 l1 ω n r h
    unfold L_X3_read_34 at h
    cases h
  | succ f ih =>
    intro l0 l1 ω n r h
    unfold L_X3_read_34 at h
    exact ok_B_X3_read_34 Θ (L_X3_read_34 Θ f) ih l0 l1 ω n r h
theorem ok_X3_read (Θ : GP) (l0 : Nat) (ω : OW) (n : Nat) : Ok Θ 206 5 2006 yX3_read cX3_read 2 (some (.object "GhostAssize$Law")) [.ref l0] ω n (F_X3_read Θ l0 ω n) := by
  refine Ok.of (by decide +kernel) (Nat.le_of_ble_eq_true rfl) (fun r h => ?_)
  unfold F_X3_read at h
  show GR Θ yX3_read cX3_read 2 (some (.object "GhostAssize$Law")) 206 (5, 2006) 0 [(0, .ref l0)] [] ω n r
  refine g_aload_n dX3_read_0 rfl 0 rfl ?_
  refine g_iconst (v := 0) dX3_read_1 (by decide) ?_
  refine g_wF fl_X3_9 dX3_read_2 (rfl) rfl h (fun ω h => ?_)
  refine g_aload_n dX3_read_5 rfl 0 rfl ?_
  refine g_iconst (v := 0) dX3_read_6 (by decide) ?_
  refine g_wF fl_X3_15 dX3_read_7 (rfl) rfl h (fun ω h => ?_)
  refine g_aload_n dX3_read_10 rfl 0 rfl ?_
  refine g_rA fl_X3_33 dX3_read_11 h (fun a14 h => ?_)
  refine g_cV (ci := 8) (As := []) mv_X3_37 dX3_read_14 rfl (ok_X8_open Θ a14 _ _) rfl rfl (Nat.le_of_ble_eq_true rfl) (by decide) (by decide) (by decide) h (fun ω n h => ?_)
  refine G.less (B' := (5, 2006)) (by decide) (by decide) ?_
  refine g_aload_n dX3_read_17 rfl 0 rfl ?_
  refine g_rA fl_X3_33 dX3_read_18 h (fun a16 h => ?_)
  refine g_cI (ci := 8) (As := []) mv_X3_42 dX3_read_21 rfl (ok_X8_isEnded Θ a16 _ _) rfl rfl (Nat.le_of_ble_eq_true rfl) (by decide) (by decide) (by decide) h (fun x17 ω n h => ?_)
  refine G.less (B' := (5, 2006)) (by decide) (by decide) ?_
  refine g_if_eq (tgt := 32) dX3_read_24 (by decide) (fun c18 => ?_) (fun c18 => ?_)
  · rw [if_pos c18] at h
    refine g_iconst (v := 0) dX3_read_32 (by decide) ?_
    refine g_istore_n (lv' := [(1, .int 0), (0, .ref l0)]) dX3_read_33 rfl (by decide) rfl ?_
    refine G.lsub [1, 0] rfl ?_
    exact ok_L_X3_read_34 Θ 5000 l0 0 _ _ r h
  · rw [if_neg c18] at h
    refine g_aload_n dX3_read_27 rfl 0 rfl ?_
    refine g_cA (ci := 3) (As := []) mv_X3_46 dX3_read_28 rfl (ok_X3_made Θ l0 _ _) rfl rfl (Nat.le_of_ble_eq_true rfl) (by decide) (by decide) (by decide) h (fun a19 ω n h => ?_)
    refine G.less (B' := (0, 0)) (by decide) (by decide) ?_
    cases h
    exact g_aret rfl (by first | exact Or.inl ⟨_, rfl⟩ | exact Or.inr ⟨_, rfl⟩) dX3_read_31 rfl
def F_X10_law (Θ : GP) (l0 : Nat) (ω : OW) (n : Nat) : RO := rA ω l0 10 7 (fun a1 => cO ω a1 3 (kN (F_X3_read Θ a1 ω n) (fun a2 ω n => wF ω l0 10 14 (.int (-1)) (fun ω => rA ω l0 10 5 (fun a3 => wF ω a3 8 0 (.int 0) (fun ω => rA ω l0 10 0 (fun a4 => wF ω a4 0 17 (.ref a2) (fun ω => rA ω l0 10 4 (fun a5 => cO ω a5 5 (kV (F_X5_forget Θ a5 ω n) (fun ω n => rI ω a2 2 0 (fun x7 => some (.inl (some (.int x7), ω, n)))))))))))) (fun ω n => rA ω l0 10 5 (fun a8 => rI ω a8 8 1 (fun x9 => wF ω l0 10 14 (.int x9) (fun ω => rA ω l0 10 5 (fun a10 => wF ω a10 8 0 (.int 0) (fun ω => some (.inr ("java/lang/IllegalArgumentException", ω))))))))))
theorem ok_X10_law (Θ : GP) (l0 : Nat) (ω : OW) (n : Nat) : Ok Θ 207 6 2012 yX10_law cX10_law 2 (some .int) [.ref l0] ω n (F_X10_law Θ l0 ω n) := by
  refine Ok.of (by decide +kernel) (Nat.le_of_ble_eq_true rfl) (fun r h => ?_)
  unfold F_X10_law at h
  show GR Θ yX10_law cX10_law 2 (some .int) 207 (6, 2012) 0 [(0, .ref l0)] [] ω n r
  refine g_aload_n dX10_law_0 rfl 0 rfl ?_
  refine g_rA fl_X10_79 dX10_law_1 h (fun a1 h => ?_)
  refine g_cN (ci := 3) (As := []) mv_X10_143 dX10_law_4 rfl (ok_X3_read Θ a1 _ _) rfl rfl (Nat.le_of_ble_eq_true rfl) (by decide) (by decide) (by decide) h (fun a2 ω n h => ?_) (fun ω n h => ?_)
  · refine G.less (B' := (1, 6)) (by decide) (by decide) ?_
    refine g_astore_n (lv' := [(1, .ref a2), (0, .ref l0)]) dX10_law_7 rfl (by decide) rfl ?_
    refine g_aload_n dX10_law_8 rfl 1 rfl ?_
    refine g_aload_n dX10_law_9 rfl 0 rfl ?_
    refine g_ifnull dX10_law_10 ?_
    refine g_iconst (v := (-1)) dX10_law_13 (by decide) ?_
    refine g_goto (tgt := 24) dX10_law_14 (by decide) ?_
    refine g_wF fl_X10_34 dX10_law_24 (rfl) rfl h (fun ω h => ?_)
    refine g_aload_n dX10_law_27 rfl 1 rfl ?_
    refine g_rA fl_X10_16 dX10_law_28 h (fun a3 h => ?_)
    refine g_iconst (v := 0) dX10_law_31 (by decide) ?_
    refine g_wF fl_X10_112 dX10_law_32 (rfl) rfl h (fun ω h => ?_)
    refine g_aload_n dX10_law_35 rfl 0 rfl ?_
    refine g_ifnonnull (tgt := 49) dX10_law_36 (by decide) ?_
    refine g_aload_n dX10_law_49 rfl 1 rfl ?_
    refine g_rA fl_X10_48 dX10_law_50 h (fun a4 h => ?_)
    refine g_aload_n dX10_law_53 rfl 0 rfl ?_
    refine g_wF fl_X10_148 dX10_law_54 (rfl) rfl h (fun ω h => ?_)
    refine g_aload_n dX10_law_57 rfl 1 rfl ?_
    refine g_rA fl_X10_61 dX10_law_58 h (fun a5 h => ?_)
    refine g_cV (ci := 5) (As := []) mv_X10_140 dX10_law_61 rfl (ok_X5_forget Θ a5 _ _) rfl rfl (Nat.le_of_ble_eq_true rfl) (by decide) (by decide) (by decide) h (fun ω n h => ?_)
    refine G.less (B' := (1, 6)) (by decide) (by decide) ?_
    refine g_aload_n dX10_law_64 rfl 0 rfl ?_
    refine g_rI fl_X10_152 dX10_law_65 h (fun x7 h => ?_)
    cases h
    exact g_iret rfl dX10_law_68 rfl
  · refine G.less (B' := (1, 6)) (by decide) (by decide) ?_
    refine g_astore_nN (lv' := [(1, .null), (0, .ref l0)]) dX10_law_7 rfl (by decide) rfl ?_
    refine g_aload_n dX10_law_8 rfl 1 rfl ?_
    refine g_aload_nN dX10_law_9 rfl 0 rfl ?_
    refine g_ifnullN (tgt := 17) dX10_law_10 (by decide) ?_
    refine g_aload_n dX10_law_17 rfl 1 rfl ?_
    refine g_rA fl_X10_16 dX10_law_18 h (fun a8 h => ?_)
    refine g_rI fl_X10_122 dX10_law_21 h (fun x9 h => ?_)
    refine g_wF fl_X10_34 dX10_law_24 (rfl) rfl h (fun ω h => ?_)
    refine g_aload_n dX10_law_27 rfl 1 rfl ?_
    refine g_rA fl_X10_16 dX10_law_28 h (fun a10 h => ?_)
    refine g_iconst (v := 0) dX10_law_31 (by decide) ?_
    refine g_wF fl_X10_112 dX10_law_32 (rfl) rfl h (fun ω h => ?_)
    refine g_aload_nN dX10_law_35 rfl 0 rfl ?_
    refine g_ifnonnullN dX10_law_36 ?_
    cases h
    exact g_throw (q := 23) th_X10_125_129 rfl dX10_law_39 dX10_law_42 dX10_law_43 dX10_law_45 dX10_law_48 rfl (by decide) (by decide) (by decide) (Nat.le_of_ble_eq_true rfl) (fun _ _ => rfl)
