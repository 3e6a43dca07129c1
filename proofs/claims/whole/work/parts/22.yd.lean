theorem df_X0 : ∀ j, j < 18 → defaultValue (tyX0 j) = vp_V [.int 0, .int 0, .int 0, .int 0, .int 0, .int 0, .int 0, .null, .null, .null, .null, .null, .null, .null, .null, .null, .null, .null] j := by
  intro j hj
  have q9 : j = 0 ∨ j = 1 ∨ j = 2 ∨ j = 3 ∨ j = 4 ∨ j = 5 ∨ j = 6 ∨ j = 7 ∨ j = 8 ∨ j = 9 ∨ j = 10 ∨ j = 11 ∨ j = 12 ∨ j = 13 ∨ j = 14 ∨ j = 15 ∨ j = 16 ∨ j = 17 := by omega
  rcases q9 with rfl | rfl | rfl | rfl | rfl | rfl | rfl | rfl | rfl | rfl | rfl | rfl | rfl | rfl | rfl | rfl | rfl | rfl
  all_goals rfl
theorem df_X1 : ∀ j, j < 2 → defaultValue (tyX1 j) = vp_V [.null, .null] j := by
  intro j hj
  have q9 : j = 0 ∨ j = 1 := by omega
  rcases q9 with rfl | rfl
  all_goals rfl
theorem df_X2 : ∀ j, j < 6 → defaultValue (tyX2 j) = vp_V [.int 0, .int 0, .null, .null, .null, .null] j := by
  intro j hj
  have q9 : j = 0 ∨ j = 1 ∨ j = 2 ∨ j = 3 ∨ j = 4 ∨ j = 5 := by omega
  rcases q9 with rfl | rfl | rfl | rfl | rfl | rfl
  all_goals rfl
theorem df_X3 : ∀ j, j < 7 → defaultValue (tyX3 j) = vp_V [.null, .int 0, .int 0, .null, .null, .null, .null] j := by
  intro j hj
  have q9 : j = 0 ∨ j = 1 ∨ j = 2 ∨ j = 3 ∨ j = 4 ∨ j = 5 ∨ j = 6 := by omega
  rcases q9 with rfl | rfl | rfl | rfl | rfl | rfl | rfl
  all_goals rfl
theorem df_X4 : ∀ j, j < 3 → defaultValue (tyX4 j) = vp_V [.int 0, .int 0, .null] j := by
  intro j hj
  have q9 : j = 0 ∨ j = 1 ∨ j = 2 := by omega
  rcases q9 with rfl | rfl | rfl
  all_goals rfl
theorem df_X5 : ∀ j, j < 3 → defaultValue (tyX5 j) = vp_V [.int 0, .int 0, .null] j := by
  intro j hj
  have q9 : j = 0 ∨ j = 1 ∨ j = 2 := by omega
  rcases q9 with rfl | rfl | rfl
  all_goals rfl
theorem df_X6 : ∀ j, j < 15 → defaultValue (tyX6 j) = vp_V [.null, .null, .null, .int 0, .int 0, .int 0, .int 0, .int 0, .int 0, .int 0, .null, .null, .int 0, .int 0, .null] j := by
  intro j hj
  have q9 : j = 0 ∨ j = 1 ∨ j = 2 ∨ j = 3 ∨ j = 4 ∨ j = 5 ∨ j = 6 ∨ j = 7 ∨ j = 8 ∨ j = 9 ∨ j = 10 ∨ j = 11 ∨ j = 12 ∨ j = 13 ∨ j = 14 := by omega
  rcases q9 with rfl | rfl | rfl | rfl | rfl | rfl | rfl | rfl | rfl | rfl | rfl | rfl | rfl | rfl | rfl
  all_goals rfl
theorem df_X7 : ∀ j, j < 3 → defaultValue (tyX7 j) = vp_V [.null, .null, .null] j := by
  intro j hj
  have q9 : j = 0 ∨ j = 1 ∨ j = 2 := by omega
  rcases q9 with rfl | rfl | rfl
  all_goals rfl
theorem df_X8 : ∀ j, j < 6 → defaultValue (tyX8 j) = vp_V [.int 0, .int 0, .int 0, .int 0, .long 0, .null] j := by
  intro j hj
  have q9 : j = 0 ∨ j = 1 ∨ j = 2 ∨ j = 3 ∨ j = 4 ∨ j = 5 := by omega
  rcases q9 with rfl | rfl | rfl | rfl | rfl | rfl
  all_goals rfl
theorem df_X9 : ∀ j, j < 8 → defaultValue (tyX9 j) = vp_V [.int 0, .null, .int 0, .int 0, .null, .null, .null, .null] j := by
  intro j hj
  have q9 : j = 0 ∨ j = 1 ∨ j = 2 ∨ j = 3 ∨ j = 4 ∨ j = 5 ∨ j = 6 ∨ j = 7 := by omega
  rcases q9 with rfl | rfl | rfl | rfl | rfl | rfl | rfl | rfl
  all_goals rfl
theorem df_X10 : ∀ j, j < 15 → defaultValue (tyX10 j) = vp_V [.null, .null, .null, .int 0, .null, .null, .null, .null, .null, .null, .null, .null, .null, .null, .int 0] j := by
  intro j hj
  have q9 : j = 0 ∨ j = 1 ∨ j = 2 ∨ j = 3 ∨ j = 4 ∨ j = 5 ∨ j = 6 ∨ j = 7 ∨ j = 8 ∨ j = 9 ∨ j = 10 ∨ j = 11 ∨ j = 12 ∨ j = 13 ∨ j = 14 := by omega
  rcases q9 with rfl | rfl | rfl | rfl | rfl | rfl | rfl | rfl | rfl | rfl | rfl | rfl | rfl | rfl | rfl
  all_goals rfl
theorem df_X11 : ∀ j, j < 38 → defaultValue (tyX11 j) = vp_V [.int 0, .null, .null, .null, .null, .null, .int 0, .int 0, .null, .int 0, .int 0, .int 0, .int 0, .int 0, .int 0, .null, .int 0, .null, .int 0, .int 0, .int 0, .int 0, .int 0, .int 0, .int 0, .null, .null, .null, .int 0, .int 0, .int 0, .int 0, .int 0, .null, .null, .null, .int 0, .null] j := by
  intro j hj
  have q9 : j = 0 ∨ j = 1 ∨ j = 2 ∨ j = 3 ∨ j = 4 ∨ j = 5 ∨ j = 6 ∨ j = 7 ∨ j = 8 ∨ j = 9 ∨ j = 10 ∨ j = 11 ∨ j = 12 ∨ j = 13 ∨ j = 14 ∨ j = 15 ∨ j = 16 ∨ j = 17 ∨ j = 18 ∨ j = 19 ∨ j = 20 ∨ j = 21 ∨ j = 22 ∨ j = 23 ∨ j = 24 ∨ j = 25 ∨ j = 26 ∨ j = 27 ∨ j = 28 ∨ j = 29 ∨ j = 30 ∨ j = 31 ∨ j = 32 ∨ j = 33 ∨ j = 34 ∨ j = 35 ∨ j = 36 ∨ j = 37 := by omega
  rcases q9 with rfl | rfl | rfl | rfl | rfl | rfl | rfl | rfl | rfl | rfl | rfl | rfl | rfl | rfl | rfl | rfl | rfl | rfl | rfl | rfl | rfl | rfl | rfl | rfl | rfl | rfl | rfl | rfl | rfl | rfl | rfl | rfl | rfl | rfl | rfl | rfl | rfl | rfl
  all_goals rfl
def F_X4_init (Θ : GP) (l0 : Nat) (ω : OW) (n : Nat) : RO := wF ω l0 4 0 (.int 0) (fun ω => wF ω l0 4 1 (.int 0) (fun ω => nw ω n (.inl (gI Θ, 240, .inl (fun _ => 0))) (fun a1 ω n => wF ω l0 4 2 (.ref a1) (fun ω => some (.inl (none, ω, n))))))
theorem ok_X4_init (Θ : GP) (l0 : Nat) (ω : OW) (n : Nat) : Ok Θ 1 1 240 yX4_init cX4_init 1 (none : Option Jvm.ClassFile.FieldType) [.ref l0] ω n (F_X4_init Θ l0 ω n) := by
  refine Ok.of (by decide +kernel) (Nat.le_of_ble_eq_true rfl) (fun r h => ?_)
  unfold F_X4_init at h
  show GR Θ yX4_init cX4_init 1 (none : Option Jvm.ClassFile.FieldType) 1 (1, 240) 0 [(0, .ref l0)] [] ω n r
  refine g_aload_n dX4_init_0 rfl 0 rfl ?_
  refine g_objInit wd_231 wd_145 wd_146 dX4_init_1 (by decide) (Nat.le_of_ble_eq_true rfl) ?_
  refine g_aload_n dX4_init_4 rfl 0 rfl ?_
  refine g_iconst (v := 0) dX4_init_5 (by decide) ?_
  refine g_wF fl_X4_9 dX4_init_6 (rfl) rfl h (fun ω h => ?_)
  refine g_aload_n dX4_init_9 rfl 0 rfl ?_
  refine g_iconst (v := 0) dX4_init_10 (by decide) ?_
  refine g_wF fl_X4_15 dX4_init_11 (rfl) rfl h (fun ω h => ?_)
  refine g_aload_n dX4_init_14 rfl 0 rfl ?_
  refine g_sipush (v := 240) dX4_init_15 (by decide) ?_
  refine g_nwA (t0 := 0) (N' := 240) dX4_init_18 rfl wd_175 rfl (fun _ q => q) (fun _ => rfl) (by decide) (by decide) (by decide) (by decide) (by decide) h (fun a1 ω n h => ?_)
  refine G.less (B' := (0, 0)) (by decide) (by decide) ?_
  refine g_wFF fl_X4_18 rfl (fun C T N q => by cases q; rfl) dX4_init_20 rfl rfl h (fun ω h => ?_)
  cases h
  exact g_vret rfl dX4_init_23 rfl
def F_X0_init (Θ : GP) (l0 : Nat) (l1 : Nat) (ω : OW) (n : Nat) : RO := wF ω l0 0 0 (.int 0) (fun ω => wF ω l0 0 1 (.int 0) (fun ω => wF ω l0 0 2 (.int 0) (fun ω => wF ω l0 0 3 (.int 2) (fun ω => wF ω l0 0 4 (.int 10) (fun ω => wF ω l0 0 5 (.int 0) (fun ω => wF ω l0 0 6 (.int 1) (fun ω => nw ω n (.inl (gI Θ, 8, .inl (fun _ => 0))) (fun a1 ω n => wF ω l0 0 7 (.ref a1) (fun ω => nw ω n (.inl (gI Θ, 8, .inl (fun _ => 0))) (fun a2 ω n => wF ω l0 0 8 (.ref a2) (fun ω => nw ω n (.inl (gI Θ, 8, .inl (fun _ => 0))) (fun a3 ω n => wF ω l0 0 9 (.ref a3) (fun ω => nw ω n (.inl (gI Θ, 8, .inl (fun _ => 0))) (fun a4 ω n => wF ω l0 0 10 (.ref a4) (fun ω => nw ω n (.inl (gI Θ, 10, .inl (fun _ => 0))) (fun a5 ω n => wF ω l0 0 11 (.ref a5) (fun ω => nw ω n (.inl (gI Θ, 6, .inl (fun _ => 0))) (fun a6 ω n => wF ω l0 0 12 (.ref a6) (fun ω => nw ω n (.inl (gI Θ, 6, .inl (fun _ => 0))) (fun a7 ω n => wF ω l0 0 13 (.ref a7) (fun ω => nw ω n (.inl (gI Θ, 6, .inl (fun _ => 0))) (fun a8 ω n => wF ω l0 0 14 (.ref a8) (fun ω => nw ω n (.inl (gI Θ, 6, .inl (fun _ => 0))) (fun a9 ω n => wF ω l0 0 15 (.ref a9) (fun ω => nw ω n (.inr (4, [.int 0, .int 0, .null])) (fun a10 ω n => kC (F_X4_init Θ a10 ω n) (fun ω n => wF ω l0 0 16 (.ref a10) (fun ω => wF ω l0 0 17 (.ref l1) (fun ω => rA ω l0 0 10 (fun a11 => kV (F_J7_fill_53178 Θ a11 (-1) ω n) (fun ω n => rA ω l0 0 11 (fun a13 => kV (F_J7_fill_53178 Θ a13 (-1) ω n) (fun ω n => some (.inl (none, ω, n)))))))))))))))))))))))))))))))))))
theorem ok_X0_init (Θ : GP) (l0 : Nat) (l1 : Nat) (ω : OW) (n : Nat) : Ok Θ 2 11 309 yX0_init cX0_init 2 (none : Option Jvm.ClassFile.FieldType) [.ref l0, .ref l1] ω n (F_X0_init Θ l0 l1 ω n) := by
  refine Ok.of (by decide +kernel) (Nat.le_of_ble_eq_true rfl) (fun r h => ?_)
  unfold F_X0_init at h
  show GR Θ yX0_init cX0_init 2 (none : Option Jvm.ClassFile.FieldType) 2 (11, 309) 0 [(0, .ref l0), (1, .ref l1)] [] ω n r
  refine g_aload_n dX0_init_0 rfl 0 rfl ?_
  refine g_objInit wd_225 wd_145 wd_146 dX0_init_1 (by decide) (Nat.le_of_ble_eq_true rfl) ?_
  refine g_aload_n dX0_init_4 rfl 0 rfl ?_
  refine g_iconst (v := 0) dX0_init_5 (by decide) ?_
  refine g_wF fl_X0_9 dX0_init_6 (rfl) rfl h (fun ω h => ?_)
  refine g_aload_n dX0_init_9 rfl 0 rfl ?_
  refine g_iconst (v := 0) dX0_init_10 (by decide) ?_
  refine g_wF fl_X0_15 dX0_init_11 (rfl) rfl h (fun ω h => ?_)
  refine g_aload_n dX0_init_14 rfl 0 rfl ?_
  refine g_iconst (v := 0) dX0_init_15 (by decide) ?_
  refine g_wF fl_X0_18 dX0_init_16 (rfl) rfl h (fun ω h => ?_)
  refine g_aload_n dX0_init_19 rfl 0 rfl ?_
  refine g_iconst (v := 2) dX0_init_20 (by decide) ?_
  refine g_wF fl_X0_21 dX0_init_21 (rfl) rfl h (fun ω h => ?_)
  refine g_aload_n dX0_init_24 rfl 0 rfl ?_
  refine g_bipush (v := 10) dX0_init_25 (by decide) ?_
  refine g_wF fl_X0_24 dX0_init_27 (rfl) rfl h (fun ω h => ?_)
  refine g_aload_n dX0_init_30 rfl 0 rfl ?_
  refine g_iconst (v := 0) dX0_init_31 (by decide) ?_
  refine g_wF fl_X0_27 dX0_init_32 (rfl) rfl h (fun ω h => ?_)
  refine g_aload_n dX0_init_35 rfl 0 rfl ?_
  refine g_iconst (v := 1) dX0_init_36 (by decide) ?_
  refine g_wF fl_X0_30 dX0_init_37 (rfl) rfl h (fun ω h => ?_)
  refine g_aload_n dX0_init_40 rfl 0 rfl ?_
  refine g_bipush (v := 8) dX0_init_41 (by decide) ?_
  refine g_nwA (t0 := 0) (N' := 8) dX0_init_43 rfl wd_175 rfl (fun _ q => q) (fun _ => rfl) (by decide) (by decide) (by decide) (by decide) (by decide) h (fun a1 ω n h => ?_)
  refine G.less (B' := (10, 301)) (by decide) (by decide) ?_
  refine g_wFF fl_X0_33 rfl (fun C T N q => by cases q; rfl) dX0_init_45 rfl rfl h (fun ω h => ?_)
  refine g_aload_n dX0_init_48 rfl 0 rfl ?_
  refine g_bipush (v := 8) dX0_init_49 (by decide) ?_
  refine g_nwA (t0 := 0) (N' := 8) dX0_init_51 rfl wd_175 rfl (fun _ q => q) (fun _ => rfl) (by decide) (by decide) (by decide) (by decide) (by decide) h (fun a2 ω n h => ?_)
  refine G.less (B' := (9, 293)) (by decide) (by decide) ?_
  refine g_wFF fl_X0_37 rfl (fun C T N q => by cases q; rfl) dX0_init_53 rfl rfl h (fun ω h => ?_)
  refine g_aload_n dX0_init_56 rfl 0 rfl ?_
  refine g_bipush (v := 8) dX0_init_57 (by decide) ?_
  refine g_nwA (t0 := 0) (N' := 8) dX0_init_59 rfl wd_175 rfl (fun _ q => q) (fun _ => rfl) (by decide) (by decide) (by decide) (by decide) (by decide) h (fun a3 ω n h => ?_)
  refine G.less (B' := (8, 285)) (by decide) (by decide) ?_
  refine g_wFF fl_X0_40 rfl (fun C T N q => by cases q; rfl) dX0_init_61 rfl rfl h (fun ω h => ?_)
  refine g_aload_n dX0_init_64 rfl 0 rfl ?_
  refine g_bipush (v := 8) dX0_init_65 (by decide) ?_
  refine g_nwA (t0 := 0) (N' := 8) dX0_init_67 rfl wd_175 rfl (fun _ q => q) (fun _ => rfl) (by decide) (by decide) (by decide) (by decide) (by decide) h (fun a4 ω n h => ?_)
  refine G.less (B' := (7, 277)) (by decide) (by decide) ?_
  refine g_wFF fl_X0_43 rfl (fun C T N q => by cases q; rfl) dX0_init_69 rfl rfl h (fun ω h => ?_)
  refine g_aload_n dX0_init_72 rfl 0 rfl ?_
  refine g_bipush (v := 10) dX0_init_73 (by decide) ?_
  refine g_nwA (t0 := 0) (N' := 10) dX0_init_75 rfl wd_175 rfl (fun _ q => q) (fun _ => rfl) (by decide) (by decide) (by decide) (by decide) (by decide) h (fun a5 ω n h => ?_)
  refine G.less (B' := (6, 267)) (by decide) (by decide) ?_
  refine g_wFF fl_X0_46 rfl (fun C T N q => by cases q; rfl) dX0_init_77 rfl rfl h (fun ω h => ?_)
  refine g_aload_n dX0_init_80 rfl 0 rfl ?_
  refine g_bipush (v := 6) dX0_init_81 (by decide) ?_
  refine g_nwA (t0 := 0) (N' := 6) dX0_init_83 rfl wd_175 rfl (fun _ q => q) (fun _ => rfl) (by decide) (by decide) (by decide) (by decide) (by decide) h (fun a6 ω n h => ?_)
  refine G.less (B' := (5, 261)) (by decide) (by decide) ?_
  refine g_wFF fl_X0_49 rfl (fun C T N q => by cases q; rfl) dX0_init_85 rfl rfl h (fun ω h => ?_)
  refine g_aload_n dX0_init_88 rfl 0 rfl ?_
  refine g_bipush (v := 6) dX0_init_89 (by decide) ?_
  refine g_nwA (t0 := 0) (N' := 6) dX0_init_91 rfl wd_175 rfl (fun _ q => q) (fun _ => rfl) (by decide) (by decide) (by decide) (by decide) (by decide) h (fun a7 ω n h => ?_)
  refine G.less (B' := (4, 255)) (by decide) (by decide) ?_
  refine g_wFF fl_X0_52 rfl (fun C T N q => by cases q; rfl) dX0_init_93 rfl rfl h (fun ω h => ?_)
  refine g_aload_n dX0_init_96 rfl 0 rfl ?_
  refine g_bipush (v := 6) dX0_init_97 (by decide) ?_
  refine g_nwA (t0 := 0) (N' := 6) dX0_init_99 rfl wd_175 rfl (fun _ q => q) (fun _ => rfl) (by decide) (by decide) (by decide) (by decide) (by decide) h (fun a8 ω n h => ?_)
  refine G.less (B' := (3, 249)) (by decide) (by decide) ?_
  refine g_wFF fl_X0_55 rfl (fun C T N q => by cases q; rfl) dX0_init_101 rfl rfl h (fun ω h => ?_)
  refine g_aload_n dX0_init_104 rfl 0 rfl ?_
  refine g_bipush (v := 6) dX0_init_105 (by decide) ?_
  refine g_nwA (t0 := 0) (N' := 6) dX0_init_107 rfl wd_175 rfl (fun _ q => q) (fun _ => rfl) (by decide) (by decide) (by decide) (by decide) (by decide) h (fun a9 ω n h => ?_)
  refine G.less (B' := (2, 243)) (by decide) (by decide) ?_
  refine g_wFF fl_X0_58 rfl (fun C T N q => by cases q; rfl) dX0_init_109 rfl rfl h (fun ω h => ?_)
  refine g_aload_n dX0_init_112 rfl 0 rfl ?_
  refine g_nwO cl_X4 wd_226 wd_227 wd_116 dX0_init_113 df_X4 (by decide) (by decide) h (fun a10 ω n h => ?_)
  refine G.less (B' := (1, 240)) (by decide) (by decide) ?_
  refine g_dup dX0_init_116 rfl ?_
  refine g_cC (As := []) mi_X0_63 dX0_init_117 (ok_X4_init Θ a10 _ _) rfl rfl (Nat.le_of_ble_eq_true rfl) (by decide) (by decide) (by decide) h (fun ω n h => ?_)
  refine G.less (B' := (0, 0)) (by decide) (by decide) ?_
  refine g_wFF fl_X0_64 rfl (fun C T N q => by cases q; rfl) dX0_init_120 rfl rfl h (fun ω h => ?_)
  refine g_aload_n dX0_init_123 rfl 0 rfl ?_
  refine g_aload_n dX0_init_124 rfl 1 rfl ?_
  refine g_wF fl_X0_68 dX0_init_125 (rfl) rfl h (fun ω h => ?_)
  refine g_aload_n dX0_init_128 rfl 0 rfl ?_
  refine g_rA fl_X0_43 dX0_init_129 h (fun a11 h => ?_)
  refine g_iconst (v := (-1)) dX0_init_132 (by decide) ?_
  refine g_sV (As := [.ref a11, .int (-1)]) ms_X0_72 dX0_init_133 (ok_J7_fill_53178 Θ a11 (-1) _ _) rfl rfl (Nat.le_of_ble_eq_true rfl) (by decide) (by decide) (by decide) h (fun ω n h => ?_)
  refine G.less (B' := (0, 0)) (by decide) (by decide) ?_
  refine g_aload_n dX0_init_136 rfl 0 rfl ?_
  refine g_rA fl_X0_46 dX0_init_137 h (fun a13 h => ?_)
  refine g_iconst (v := (-1)) dX0_init_140 (by decide) ?_
  refine g_sV (As := [.ref a13, .int (-1)]) ms_X0_72 dX0_init_141 (ok_J7_fill_53178 Θ a13 (-1) _ _) rfl rfl (Nat.le_of_ble_eq_true rfl) (by decide) (by decide) (by decide) h (fun ω n h => ?_)
  refine G.less (B' := (0, 0)) (by decide) (by decide) ?_
  cases h
  exact g_vret rfl dX0_init_144 rfl
def F_X2_init (Θ : GP) (l0 : Nat) (l1 : Int32) (l2 : Int32) (l3 : Nat) (l4 : Nat) (l5 : Nat) (l6 : Nat) (ω : OW) (n : Nat) : RO := wF ω l0 2 0 (.int l1) (fun ω => bz l2 (wF ω l0 2 1 (.int l2) (fun ω => wF ω l0 2 2 (.ref l3) (fun ω => wF ω l0 2 3 (.ref l4) (fun ω => wF ω l0 2 4 (.ref l5) (fun ω => wF ω l0 2 5 (.ref l6) (fun ω => some (.inl (none, ω, n)))))))))
theorem ok_X2_init (Θ : GP) (l0 : Nat) (l1 : Int32) (l2 : Int32) (l3 : Nat) (l4 : Nat) (l5 : Nat) (l6 : Nat) (ω : OW) (n : Nat) : Ok Θ 1 0 0 yX2_init cX2_init 7 (none : Option Jvm.ClassFile.FieldType) [.ref l0, .int l1, .int l2, .ref l3, .ref l4, .ref l5, .ref l6] ω n (F_X2_init Θ l0 l1 l2 l3 l4 l5 l6 ω n) := by
  refine Ok.of (by decide +kernel) (Nat.le_of_ble_eq_true rfl) (fun r h => ?_)
  unfold F_X2_init at h
  show GR Θ yX2_init cX2_init 7 (none : Option Jvm.ClassFile.FieldType) 1 (0, 0) 0 [(0, .ref l0), (1, .int l1), (2, .int l2), (3, .ref l3), (4, .ref l4), (5, .ref l5), (6, .ref l6)] [] ω n r
  refine g_aload_n dX2_init_0 rfl 0 rfl ?_
  refine g_objInit wd_198 wd_145 wd_146 dX2_init_1 (by decide) (Nat.le_of_ble_eq_true rfl) ?_
  refine g_aload_n dX2_init_4 rfl 0 rfl ?_
  refine g_iload_n dX2_init_5 rfl 1 rfl ?_
  refine g_wFF fl_X2_7 rfl (fun C T N q => by cases q; rfl) dX2_init_6 rfl rfl h (fun ω h => ?_)
  refine g_aload_n dX2_init_9 rfl 0 rfl ?_
  refine g_iload_n dX2_init_10 rfl 2 rfl ?_
  obtain ⟨z1, z1f, h⟩ := bz_invF h
  refine g_wFF fl_X2_13 rfl (fun C T N q => by cases q; rfl) dX2_init_11 z1 z1f h (fun ω h => ?_)
  refine g_aload_n dX2_init_14 rfl 0 rfl ?_
  refine g_aload_n dX2_init_15 rfl 3 rfl ?_
  refine g_wFF fl_X2_17 rfl (fun C T N q => by cases q; rfl) dX2_init_16 rfl rfl h (fun ω h => ?_)
  refine g_aload_n dX2_init_19 rfl 0 rfl ?_
  refine g_aload dX2_init_20 4 rfl ?_
  refine g_wFF fl_X2_21 rfl (fun C T N q => by cases q; rfl) dX2_init_22 rfl rfl h (fun ω h => ?_)
  refine g_aload_n dX2_init_25 rfl 0 rfl ?_
  refine g_aload dX2_init_26 5 rfl ?_
  refine g_wFF fl_X2_24 rfl (fun C T N q => by cases q; rfl) dX2_init_28 rfl rfl h (fun ω h => ?_)
  refine g_aload_n dX2_init_31 rfl 0 rfl ?_
  refine g_aload dX2_init_32 6 rfl ?_
  refine g_wFF fl_X2_27 rfl (fun C T N q => by cases q; rfl) dX2_init_34 rfl rfl h (fun ω h => ?_)
  cases h
  exact g_vret rfl dX2_init_37 rfl
def F_X1_init (Θ : GP) (l0 : Nat) (l1 : Nat) (l2 : Nat) (ω : OW) (n : Nat) : RO := wF ω l0 1 0 (.ref l1) (fun ω => wF ω l0 1 1 (.ref l2) (fun ω => some (.inl (none, ω, n))))
theorem ok_X1_init (Θ : GP) (l0 : Nat) (l1 : Nat) (l2 : Nat) (ω : OW) (n : Nat) : Ok Θ 1 0 0 yX1_init cX1_init 3 (none : Option Jvm.ClassFile.FieldType) [.ref l0, .ref l1, .ref l2] ω n (F_X1_init Θ l0 l1 l2 ω n) := by
  refine Ok.of (by decide +kernel) (Nat.le_of_ble_eq_true rfl) (fun r h => ?_)
  unfold F_X1_init at h
  show GR Θ yX1_init cX1_init 3 (none : Option Jvm.ClassFile.FieldType) 1 (0, 0) 0 [(0, .ref l0), (1, .ref l1), (2, .ref l2)] [] ω n r
  refine g_aload_n dX1_init_0 rfl 0 rfl ?_
  refine g_objInit wd_369 wd_145 wd_146 dX1_init_1 (by decide) (Nat.le_of_ble_eq_true rfl) ?_
  refine g_aload_n dX1_init_4 rfl 0 rfl ?_
  refine g_aload_n dX1_init_5 rfl 1 rfl ?_
  refine g_wFF fl_X1_9 rfl (fun C T N q => by cases q; rfl) dX1_init_6 rfl rfl h (fun ω h => ?_)
  refine g_aload_n dX1_init_9 rfl 0 rfl ?_
  refine g_aload_n dX1_init_10 rfl 2 rfl ?_
  refine g_wFF fl_X1_15 rfl (fun C T N q => by cases q; rfl) dX1_init_11 rfl rfl h (fun ω h => ?_)
  cases h
  exact g_vret rfl dX1_init_14 rfl
def F_X3_init (Θ : GP) (l0 : Nat) (l1 : Nat) (ω : OW) (n : Nat) : RO := wF ω l0 3 1 (.int 0) (fun ω => wF ω l0 3 2 (.int 0) (fun ω => nw ω n (.inl (gI Θ, 12, .inl (fun _ => 0))) (fun a1 ω n => wF ω l0 3 3 (.ref a1) (fun ω => nw ω n (.inl (gI Θ, 12, .inl (fun _ => 0))) (fun a2 ω n => wF ω l0 3 4 (.ref a2) (fun ω => nw ω n (.inl (gI Θ, 13, .inl (fun _ => 0))) (fun a3 ω n => wF ω l0 3 5 (.ref a3) (fun ω => nw ω n (.inl (gI Θ, 408, .inl (fun _ => 0))) (fun a4 ω n => wF ω l0 3 6 (.ref a4) (fun ω => wF ω l0 3 0 (.ref l1) (fun ω => some (.inl (none, ω, n)))))))))))))
theorem ok_X3_init (Θ : GP) (l0 : Nat) (l1 : Nat) (ω : OW) (n : Nat) : Ok Θ 1 4 445 yX3_init cX3_init 2 (none : Option Jvm.ClassFile.FieldType) [.ref l0, .ref l1] ω n (F_X3_init Θ l0 l1 ω n) := by
  refine Ok.of (by decide +kernel) (Nat.le_of_ble_eq_true rfl) (fun r h => ?_)
  unfold F_X3_init at h
  show GR Θ yX3_init cX3_init 2 (none : Option Jvm.ClassFile.FieldType) 1 (4, 445) 0 [(0, .ref l0), (1, .ref l1)] [] ω n r
  refine g_aload_n dX3_init_0 rfl 0 rfl ?_
  refine g_objInit wd_382 wd_145 wd_146 dX3_init_1 (by decide) (Nat.le_of_ble_eq_true rfl) ?_
  refine g_aload_n dX3_init_4 rfl 0 rfl ?_
  refine g_iconst (v := 0) dX3_init_5 (by decide) ?_
  refine g_wF fl_X3_9 dX3_init_6 (rfl) rfl h (fun ω h => ?_)
  refine g_aload_n dX3_init_9 rfl 0 rfl ?_
  refine g_iconst (v := 0) dX3_init_10 (by decide) ?_
  refine g_wF fl_X3_15 dX3_init_11 (rfl) rfl h (fun ω h => ?_)
  refine g_aload_n dX3_init_14 rfl 0 rfl ?_
  refine g_bipush (v := 12) dX3_init_15 (by decide) ?_
  refine g_nwA (t0 := 0) (N' := 12) dX3_init_17 rfl wd_175 rfl (fun _ q => q) (fun _ => rfl) (by decide) (by decide) (by decide) (by decide) (by decide) h (fun a1 ω n h => ?_)
  refine G.less (B' := (3, 433)) (by decide) (by decide) ?_
  refine g_wFF fl_X3_20 rfl (fun C T N q => by cases q; rfl) dX3_init_19 rfl rfl h (fun ω h => ?_)
  refine g_aload_n dX3_init_22 rfl 0 rfl ?_
  refine g_bipush (v := 12) dX3_init_23 (by decide) ?_
  refine g_nwA (t0 := 0) (N' := 12) dX3_init_25 rfl wd_175 rfl (fun _ q => q) (fun _ => rfl) (by decide) (by decide) (by decide) (by decide) (by decide) h (fun a2 ω n h => ?_)
  refine G.less (B' := (2, 421)) (by decide) (by decide) ?_
  refine g_wFF fl_X3_24 rfl (fun C T N q => by cases q; rfl) dX3_init_27 rfl rfl h (fun ω h => ?_)
  refine g_aload_n dX3_init_30 rfl 0 rfl ?_
  refine g_bipush (v := 13) dX3_init_31 (by decide) ?_
  refine g_nwA (t0 := 0) (N' := 13) dX3_init_33 rfl wd_175 rfl (fun _ q => q) (fun _ => rfl) (by decide) (by decide) (by decide) (by decide) (by decide) h (fun a3 ω n h => ?_)
  refine G.less (B' := (1, 408)) (by decide) (by decide) ?_
  refine g_wFF fl_X3_27 rfl (fun C T N q => by cases q; rfl) dX3_init_35 rfl rfl h (fun ω h => ?_)
  refine g_aload_n dX3_init_38 rfl 0 rfl ?_
  refine g_sipush (v := 408) dX3_init_39 (by decide) ?_
  refine g_nwA (t0 := 0) (N' := 408) dX3_init_42 rfl wd_175 rfl (fun _ q => q) (fun _ => rfl) (by decide) (by decide) (by decide) (by decide) (by decide) h (fun a4 ω n h => ?_)
  refine G.less (B' := (0, 0)) (by decide) (by decide) ?_
  refine g_wFF fl_X3_30 rfl (fun C T N q => by cases q; rfl) dX3_init_44 rfl rfl h (fun ω h => ?_)
  refine g_aload_n dX3_init_47 rfl 0 rfl ?_
  refine g_aload_n dX3_init_48 rfl 1 rfl ?_
  refine g_wFF fl_X3_33 rfl (fun C T N q => by cases q; rfl) dX3_init_49 rfl rfl h (fun ω h => ?_)
  cases h
  exact g_vret rfl dX3_init_52 rfl
def F_X6_init (Θ : GP) (l0 : Nat) (l1 : Nat) (ω : OW) (n : Nat) : RO := nw ω n (.inl (gI Θ, 10, .inl (fun _ => 0))) (fun a1 ω n => wF ω l0 6 1 (.ref a1) (fun ω => nw ω n (.inl (gI Θ, 8, .inl (fun _ => 0))) (fun a2 ω n => wF ω l0 6 2 (.ref a2) (fun ω => wF ω l0 6 3 (.int 0) (fun ω => wF ω l0 6 4 (.int 0) (fun ω => wF ω l0 6 5 (.int 0) (fun ω => wF ω l0 6 6 (.int (-1)) (fun ω => wF ω l0 6 7 (.int 1) (fun ω => wF ω l0 6 8 (.int (-1)) (fun ω => wF ω l0 6 9 (.int 0) (fun ω => nw ω n (.inl (gI Θ, 10, .inl (fun _ => 0))) (fun a3 ω n => wF ω l0 6 10 (.ref a3) (fun ω => nw ω n (.inl (gI Θ, 10, .inl (fun _ => 0))) (fun a4 ω n => wF ω l0 6 11 (.ref a4) (fun ω => wF ω l0 6 12 (.int 0) (fun ω => wF ω l0 6 13 (.int 0) (fun ω => nw ω n (.inl (gI Θ, 8, .inl (fun _ => 0))) (fun a5 ω n => wF ω l0 6 14 (.ref a5) (fun ω => wF ω l0 6 0 (.ref l1) (fun ω => some (.inl (none, ω, n))))))))))))))))))))))
theorem ok_X6_init (Θ : GP) (l0 : Nat) (l1 : Nat) (ω : OW) (n : Nat) : Ok Θ 1 5 46 yX6_init cX6_init 2 (none : Option Jvm.ClassFile.FieldType) [.ref l0, .ref l1] ω n (F_X6_init Θ l0 l1 ω n) := by
  refine Ok.of (by decide +kernel) (Nat.le_of_ble_eq_true rfl) (fun r h => ?_)
  unfold F_X6_init at h
  show GR Θ yX6_init cX6_init 2 (none : Option Jvm.ClassFile.FieldType) 1 (5, 46) 0 [(0, .ref l0), (1, .ref l1)] [] ω n r
  refine g_aload_n dX6_init_0 rfl 0 rfl ?_
  refine g_objInit wd_410 wd_145 wd_146 dX6_init_1 (by decide) (Nat.le_of_ble_eq_true rfl) ?_
  refine g_aload_n dX6_init_4 rfl 0 rfl ?_
  refine g_bipush (v := 10) dX6_init_5 (by decide) ?_
  refine g_nwA (t0 := 0) (N' := 10) dX6_init_7 rfl wd_175 rfl (fun _ q => q) (fun _ => rfl) (by decide) (by decide) (by decide) (by decide) (by decide) h (fun a1 ω n h => ?_)
  refine G.less (B' := (4, 36)) (by decide) (by decide) ?_
  refine g_wFF fl_X6_9 rfl (fun C T N q => by cases q; rfl) dX6_init_9 rfl rfl h (fun ω h => ?_)
  refine g_aload_n dX6_init_12 rfl 0 rfl ?_
  refine g_bipush (v := 8) dX6_init_13 (by decide) ?_
  refine g_nwA (t0 := 0) (N' := 8) dX6_init_15 rfl wd_175 rfl (fun _ q => q) (fun _ => rfl) (by decide) (by decide) (by decide) (by decide) (by decide) h (fun a2 ω n h => ?_)
  refine G.less (B' := (3, 28)) (by decide) (by decide) ?_
  refine g_wFF fl_X6_15 rfl (fun C T N q => by cases q; rfl) dX6_init_17 rfl rfl h (fun ω h => ?_)
  refine g_aload_n dX6_init_20 rfl 0 rfl ?_
  refine g_iconst (v := 0) dX6_init_21 (by decide) ?_
  refine g_wF fl_X6_18 dX6_init_22 (rfl) rfl h (fun ω h => ?_)
  refine g_aload_n dX6_init_25 rfl 0 rfl ?_
  refine g_iconst (v := 0) dX6_init_26 (by decide) ?_
  refine g_wF fl_X6_22 dX6_init_27 (rfl) rfl h (fun ω h => ?_)
  refine g_aload_n dX6_init_30 rfl 0 rfl ?_
  refine g_iconst (v := 0) dX6_init_31 (by decide) ?_
  refine g_wF fl_X6_25 dX6_init_32 (rfl) rfl h (fun ω h => ?_)
  refine g_aload_n dX6_init_35 rfl 0 rfl ?_
  refine g_iconst (v := (-1)) dX6_init_36 (by decide) ?_
  refine g_wF fl_X6_28 dX6_init_37 (rfl) rfl h (fun ω h => ?_)
  refine g_aload_n dX6_init_40 rfl 0 rfl ?_
  refine g_iconst (v := 1) dX6_init_41 (by decide) ?_
  refine g_wF fl_X6_31 dX6_init_42 (rfl) rfl h (fun ω h => ?_)
  refine g_aload_n dX6_init_45 rfl 0 rfl ?_
  refine g_iconst (v := (-1)) dX6_init_46 (by decide) ?_
  refine g_wF fl_X6_34 dX6_init_47 (rfl) rfl h (fun ω h => ?_)
  refine g_aload_n dX6_init_50 rfl 0 rfl ?_
  refine g_iconst (v := 0) dX6_init_51 (by decide) ?_
  refine g_wF fl_X6_37 dX6_init_52 (rfl) rfl h (fun ω h => ?_)
  refine g_aload_n dX6_init_55 rfl 0 rfl ?_
  refine g_bipush (v := 10) dX6_init_56 (by decide) ?_
  refine g_nwA (t0 := 0) (N' := 10) dX6_init_58 rfl wd_175 rfl (fun _ q => q) (fun _ => rfl) (by decide) (by decide) (by decide) (by decide) (by decide) h (fun a3 ω n h => ?_)
  refine G.less (B' := (2, 18)) (by decide) (by decide) ?_
  refine g_wFF fl_X6_40 rfl (fun C T N q => by cases q; rfl) dX6_init_60 rfl rfl h (fun ω h => ?_)
  refine g_aload_n dX6_init_63 rfl 0 rfl ?_
  refine g_bipush (v := 10) dX6_init_64 (by decide) ?_
  refine g_nwA (t0 := 0) (N' := 10) dX6_init_66 rfl wd_175 rfl (fun _ q => q) (fun _ => rfl) (by decide) (by decide) (by decide) (by decide) (by decide) h (fun a4 ω n h => ?_)
  refine G.less (B' := (1, 8)) (by decide) (by decide) ?_
  refine g_wFF fl_X6_43 rfl (fun C T N q => by cases q; rfl) dX6_init_68 rfl rfl h (fun ω h => ?_)
  refine g_aload_n dX6_init_71 rfl 0 rfl ?_
  refine g_iconst (v := 0) dX6_init_72 (by decide) ?_
  refine g_wF fl_X6_46 dX6_init_73 (rfl) rfl h (fun ω h => ?_)
  refine g_aload_n dX6_init_76 rfl 0 rfl ?_
  refine g_iconst (v := 0) dX6_init_77 (by decide) ?_
  refine g_wF fl_X6_50 dX6_init_78 (rfl) rfl h (fun ω h => ?_)
  refine g_aload_n dX6_init_81 rfl 0 rfl ?_
  refine g_bipush (v := 8) dX6_init_82 (by decide) ?_
  refine g_nwA (t0 := 0) (N' := 8) dX6_init_84 rfl wd_175 rfl (fun _ q => q) (fun _ => rfl) (by decide) (by decide) (by decide) (by decide) (by decide) h (fun a5 ω n h => ?_)
  refine G.less (B' := (0, 0)) (by decide) (by decide) ?_
  refine g_wFF fl_X6_55 rfl (fun C T N q => by cases q; rfl) dX6_init_86 rfl rfl h (fun ω h => ?_)
  refine g_aload_n dX6_init_89 rfl 0 rfl ?_
  refine g_aload_n dX6_init_90 rfl 1 rfl ?_
  refine g_wFF fl_X6_58 rfl (fun C T N q => by cases q; rfl) dX6_init_91 rfl rfl h (fun ω h => ?_)
  cases h
  exact g_vret rfl dX6_init_94 rfl
def F_X7_init (Θ : GP) (l0 : Nat) (ω : OW) (n : Nat) : RO := nw ω n (.inl (gZ Θ, 64, .inl (fun _ => 0))) (fun a1 ω n => wF ω l0 7 0 (.ref a1) (fun ω => nw ω n (.inl (gI Θ, 640, .inl (fun _ => 0))) (fun a2 ω n => wF ω l0 7 1 (.ref a2) (fun ω => nw ω n (.inl (gI Θ, 381, .inl (fun _ => 0))) (fun a3 ω n => wF ω l0 7 2 (.ref a3) (fun ω => some (.inl (none, ω, n))))))))
theorem ok_X7_init (Θ : GP) (l0 : Nat) (ω : OW) (n : Nat) : Ok Θ 1 3 1085 yX7_init cX7_init 1 (none : Option Jvm.ClassFile.FieldType) [.ref l0] ω n (F_X7_init Θ l0 ω n) := by
  refine Ok.of (by decide +kernel) (Nat.le_of_ble_eq_true rfl) (fun r h => ?_)
  unfold F_X7_init at h
  show GR Θ yX7_init cX7_init 1 (none : Option Jvm.ClassFile.FieldType) 1 (3, 1085) 0 [(0, .ref l0)] [] ω n r
  refine g_aload_n dX7_init_0 rfl 0 rfl ?_
  refine g_objInit wd_181 wd_145 wd_146 dX7_init_1 (by decide) (Nat.le_of_ble_eq_true rfl) ?_
  refine g_aload_n dX7_init_4 rfl 0 rfl ?_
  refine g_bipush (v := 64) dX7_init_5 (by decide) ?_
  refine g_nwA (t0 := 2) (N' := 64) dX7_init_7 rfl wd_192 rfl (fun _ q => q) (fun _ => rfl) (by decide) (by decide) (by decide) (by decide) (by decide) h (fun a1 ω n h => ?_)
  refine G.less (B' := (2, 1021)) (by decide) (by decide) ?_
  refine g_wFF fl_X7_13 rfl (fun C T N q => by cases q; rfl) dX7_init_9 rfl rfl h (fun ω h => ?_)
  refine g_aload_n dX7_init_12 rfl 0 rfl ?_
  refine g_sipush (v := 640) dX7_init_13 (by decide) ?_
  refine g_nwA (t0 := 0) (N' := 640) dX7_init_16 rfl wd_175 rfl (fun _ q => q) (fun _ => rfl) (by decide) (by decide) (by decide) (by decide) (by decide) h (fun a2 ω n h => ?_)
  refine G.less (B' := (1, 381)) (by decide) (by decide) ?_
  refine g_wFF fl_X7_17 rfl (fun C T N q => by cases q; rfl) dX7_init_18 rfl rfl h (fun ω h => ?_)
  refine g_aload_n dX7_init_21 rfl 0 rfl ?_
  refine g_sipush (v := 381) dX7_init_22 (by decide) ?_
  refine g_nwA (t0 := 0) (N' := 381) dX7_init_25 rfl wd_175 rfl (fun _ q => q) (fun _ => rfl) (by decide) (by decide) (by decide) (by decide) (by decide) h (fun a3 ω n h => ?_)
  refine G.less (B' := (0, 0)) (by decide) (by decide) ?_
  refine g_wFF fl_X7_21 rfl (fun C T N q => by cases q; rfl) dX7_init_27 rfl rfl h (fun ω h => ?_)
  cases h
  exact g_vret rfl dX7_init_30 rfl
def F_X8_init (Θ : GP) (l0 : Nat) (ω : OW) (n : Nat) : RO := wF ω l0 8 0 (.int 0) (fun ω => wF ω l0 8 1 (.int 0) (fun ω => wF ω l0 8 2 (.int 0) (fun ω => wF ω l0 8 3 (.int 0) (fun ω => wF ω l0 8 4 (.long 0) (fun ω => nw ω n (.inl (gI Θ, 400, .inl (fun _ => 0))) (fun a1 ω n => wF ω l0 8 5 (.ref a1) (fun ω => some (.inl (none, ω, n)))))))))
theorem ok_X8_init (Θ : GP) (l0 : Nat) (ω : OW) (n : Nat) : Ok Θ 1 1 400 yX8_init cX8_init 1 (none : Option Jvm.ClassFile.FieldType) [.ref l0] ω n (F_X8_init Θ l0 ω n) := by
  refine Ok.of (by decide +kernel) (Nat.le_of_ble_eq_true rfl) (fun r h => ?_)
  unfold F_X8_init at h
  show GR Θ yX8_init cX8_init 1 (none : Option Jvm.ClassFile.FieldType) 1 (1, 400) 0 [(0, .ref l0)] [] ω n r
  refine g_aload_n dX8_init_0 rfl 0 rfl ?_
  refine g_objInit wd_152 wd_145 wd_146 dX8_init_1 (by decide) (Nat.le_of_ble_eq_true rfl) ?_
  refine g_aload_n dX8_init_4 rfl 0 rfl ?_
  refine g_iconst (v := 0) dX8_init_5 (by decide) ?_
  refine g_wF fl_X8_9 dX8_init_6 (rfl) rfl h (fun ω h => ?_)
  refine g_aload_n dX8_init_9 rfl 0 rfl ?_
  refine g_iconst (v := 0) dX8_init_10 (by decide) ?_
  refine g_wF fl_X8_15 dX8_init_11 (rfl) rfl h (fun ω h => ?_)
  refine g_aload_n dX8_init_14 rfl 0 rfl ?_
  refine g_iconst (v := 0) dX8_init_15 (by decide) ?_
  refine g_wF fl_X8_18 dX8_init_16 (rfl) rfl h (fun ω h => ?_)
  refine g_aload_n dX8_init_19 rfl 0 rfl ?_
  refine g_iconst (v := 0) dX8_init_20 (by decide) ?_
  refine g_wF fl_X8_21 dX8_init_21 (rfl) rfl h (fun ω h => ?_)
  refine g_aload_n dX8_init_24 rfl 0 rfl ?_
  refine g_lconst (v := 0) dX8_init_25 (by decide) ?_
  refine g_wF fl_X8_24 dX8_init_26 (rfl) rfl h (fun ω h => ?_)
  refine g_aload_n dX8_init_29 rfl 0 rfl ?_
  refine g_sipush (v := 400) dX8_init_30 (by decide) ?_
  refine g_nwA (t0 := 0) (N' := 400) dX8_init_33 rfl wd_175 rfl (fun _ q => q) (fun _ => rfl) (by decide) (by decide) (by decide) (by decide) (by decide) h (fun a1 ω n h => ?_)
  refine G.less (B' := (0, 0)) (by decide) (by decide) ?_
  refine g_wFF fl_X8_28 rfl (fun C T N q => by cases q; rfl) dX8_init_35 rfl rfl h (fun ω h => ?_)
  cases h
  exact g_vret rfl dX8_init_38 rfl
def F_X9_init (Θ : GP) (l0 : Nat) (l1 : Nat) (l2 : Nat) (ω : OW) (n : Nat) : RO := wF ω l0 9 0 (.int 0) (fun ω => nw ω n (.inl (gI Θ, 10, .inl (fun _ => 0))) (fun a1 ω n => wF ω l0 9 1 (.ref a1) (fun ω => wF ω l0 9 2 (.int 1) (fun ω => wF ω l0 9 3 (.int 0) (fun ω => nw ω n (.inl (gI Θ, 61, .inl (fun _ => 0))) (fun a2 ω n => wF ω l0 9 4 (.ref a2) (fun ω => nw ω n (.inl (gI Θ, 61, .inl (fun _ => 0))) (fun a3 ω n => wF ω l0 9 5 (.ref a3) (fun ω => wF ω l0 9 6 (.ref l1) (fun ω => wF ω l0 9 7 (.ref l2) (fun ω => some (.inl (none, ω, n)))))))))))))
theorem ok_X9_init (Θ : GP) (l0 : Nat) (l1 : Nat) (l2 : Nat) (ω : OW) (n : Nat) : Ok Θ 1 3 132 yX9_init cX9_init 3 (none : Option Jvm.ClassFile.FieldType) [.ref l0, .ref l1, .ref l2] ω n (F_X9_init Θ l0 l1 l2 ω n) := by
  refine Ok.of (by decide +kernel) (Nat.le_of_ble_eq_true rfl) (fun r h => ?_)
  unfold F_X9_init at h
  show GR Θ yX9_init cX9_init 3 (none : Option Jvm.ClassFile.FieldType) 1 (3, 132) 0 [(0, .ref l0), (1, .ref l1), (2, .ref l2)] [] ω n r
  refine g_aload_n dX9_init_0 rfl 0 rfl ?_
  refine g_objInit wd_475 wd_145 wd_146 dX9_init_1 (by decide) (Nat.le_of_ble_eq_true rfl) ?_
  refine g_aload_n dX9_init_4 rfl 0 rfl ?_
  refine g_iconst (v := 0) dX9_init_5 (by decide) ?_
  refine g_wF fl_X9_9 dX9_init_6 (rfl) rfl h (fun ω h => ?_)
  refine g_aload_n dX9_init_9 rfl 0 rfl ?_
  refine g_bipush (v := 10) dX9_init_10 (by decide) ?_
  refine g_nwA (t0 := 0) (N' := 10) dX9_init_12 rfl wd_175 rfl (fun _ q => q) (fun _ => rfl) (by decide) (by decide) (by decide) (by decide) (by decide) h (fun a1 ω n h => ?_)
  refine G.less (B' := (2, 122)) (by decide) (by decide) ?_
  refine g_wFF fl_X9_15 rfl (fun C T N q => by cases q; rfl) dX9_init_14 rfl rfl h (fun ω h => ?_)
  refine g_aload_n dX9_init_17 rfl 0 rfl ?_
  refine g_iconst (v := 1) dX9_init_18 (by decide) ?_
  refine g_wF fl_X9_19 dX9_init_19 (rfl) rfl h (fun ω h => ?_)
  refine g_aload_n dX9_init_22 rfl 0 rfl ?_
  refine g_iconst (v := 0) dX9_init_23 (by decide) ?_
  refine g_wF fl_X9_22 dX9_init_24 (rfl) rfl h (fun ω h => ?_)
  refine g_aload_n dX9_init_27 rfl 0 rfl ?_
  refine g_bipush (v := 61) dX9_init_28 (by decide) ?_
  refine g_nwA (t0 := 0) (N' := 61) dX9_init_30 rfl wd_175 rfl (fun _ q => q) (fun _ => rfl) (by decide) (by decide) (by decide) (by decide) (by decide) h (fun a2 ω n h => ?_)
  refine G.less (B' := (1, 61)) (by decide) (by decide) ?_
  refine g_wF fl_X9_25 dX9_init_32 (rfl) rfl h (fun ω h => ?_)
  refine g_aload_n dX9_init_35 rfl 0 rfl ?_
  refine g_bipush (v := 61) dX9_init_36 (by decide) ?_
  refine g_nwA (t0 := 0) (N' := 61) dX9_init_38 rfl wd_175 rfl (fun _ q => q) (fun _ => rfl) (by decide) (by decide) (by decide) (by decide) (by decide) h (fun a3 ω n h => ?_)
  refine G.less (B' := (0, 0)) (by decide) (by decide) ?_
  refine g_wF fl_X9_28 dX9_init_40 (rfl) rfl h (fun ω h => ?_)
  refine g_aload_n dX9_init_43 rfl 0 rfl ?_
  refine g_aload_n dX9_init_44 rfl 1 rfl ?_
  refine g_wFF fl_X9_31 rfl (fun C T N q => by cases q; rfl) dX9_init_45 rfl rfl h (fun ω h => ?_)
  refine g_aload_n dX9_init_48 rfl 0 rfl ?_
  refine g_aload_n dX9_init_49 rfl 2 rfl ?_
  refine g_wFF fl_X9_35 rfl (fun C T N q => by cases q; rfl) dX9_init_50 rfl rfl h (fun ω h => ?_)
  cases h
  exact g_vret rfl dX9_init_53 rfl
def F_X11_init (Θ : GP) (l0 : Nat) (ω : OW) (n : Nat) : RO := nw ω n (.inl (gI Θ, 2003, .inl (fun _ => 0))) (fun a1 ω n => wF ω l0 11 1 (.ref a1) (fun ω => nw ω n (.inl (gI Θ, 1154, .inl (fun _ => 0))) (fun a2 ω n => wF ω l0 11 2 (.ref a2) (fun ω => nw ω n (.inl (gI Θ, 1154, .inl (fun _ => 0))) (fun a3 ω n => wF ω l0 11 3 (.ref a3) (fun ω => nw ω n (.inl (gI Θ, 305, .inl (fun _ => 0))) (fun a4 ω n => wF ω l0 11 4 (.ref a4) (fun ω => nw ω n (.inl (gI Θ, 3660, .inl (fun _ => 0))) (fun a5 ω n => wF ω l0 11 5 (.ref a5) (fun ω => nw ω n (.inl (gB Θ, 400, .inl (fun _ => 0))) (fun a6 ω n => wF ω l0 11 8 (.ref a6) (fun ω => wF ω l0 11 14 (.int (-1)) (fun ω => nw ω n (.inl (gI Θ, 5, .inl (fun _ => 0))) (fun a7 ω n => wF ω l0 11 15 (.ref a7) (fun ω => nw ω n (.inl (gI Θ, 400, .inl (fun _ => 0))) (fun a8 ω n => wF ω l0 11 17 (.ref a8) (fun ω => nw ω n (.inl (gI Θ, 10, .inl (fun _ => 0))) (fun a9 ω n => wF ω l0 11 25 (.ref a9) (fun ω => nw ω n (.inl (gI Θ, 10, .inl (fun _ => 0))) (fun a10 ω n => wF ω l0 11 26 (.ref a10) (fun ω => nw ω n (.inl (gI Θ, 8, .inl (fun _ => 0))) (fun a11 ω n => wF ω l0 11 27 (.ref a11) (fun ω => nw ω n (.inl (gI Θ, 61, .inl (fun _ => 0))) (fun a12 ω n => wF ω l0 11 33 (.ref a12) (fun ω => nw ω n (.inl (gI Θ, 61, .inl (fun _ => 0))) (fun a13 ω n => wF ω l0 11 34 (.ref a13) (fun ω => nw ω n (.inl (gI Θ, 10, .inl (fun _ => 0))) (fun a14 ω n => wF ω l0 11 35 (.ref a14) (fun ω => nw ω n (.inl (gI Θ, 640, .inl (fun _ => 0))) (fun a15 ω n => wF ω l0 11 37 (.ref a15) (fun ω => rA ω l0 11 1 (fun a16 => sI ω (gI Θ) a16 5 2 (fun ω => rA ω l0 11 1 (fun a17 => sI ω (gI Θ) a17 6 10 (fun ω => rA ω l0 11 1 (fun a18 => sI ω (gI Θ) a18 8 1 (fun ω => some (.inl (none, ω, n)))))))))))))))))))))))))))))))))))))))
theorem ok_X11_init (Θ : GP) (l0 : Nat) (ω : OW) (n : Nat) : Ok Θ 1 15 9881 yX11_init cX11_init 1 (none : Option Jvm.ClassFile.FieldType) [.ref l0] ω n (F_X11_init Θ l0 ω n) := by
  refine Ok.of (by decide +kernel) (Nat.le_of_ble_eq_true rfl) (fun r h => ?_)
  unfold F_X11_init at h
  show GR Θ yX11_init cX11_init 1 (none : Option Jvm.ClassFile.FieldType) 1 (15, 9881) 0 [(0, .ref l0)] [] ω n r
  refine g_aload_n dX11_init_0 rfl 0 rfl ?_
  refine g_objInit wd_1412 wd_145 wd_146 dX11_init_1 (by decide) (Nat.le_of_ble_eq_true rfl) ?_
  refine g_aload_n dX11_init_4 rfl 0 rfl ?_
  refine g_sipush (v := 2003) dX11_init_5 (by decide) ?_
  refine g_nwA (t0 := 0) (N' := 2003) dX11_init_8 rfl wd_175 rfl (fun _ q => q) (fun _ => rfl) (by decide) (by decide) (by decide) (by decide) (by decide) h (fun a1 ω n h => ?_)
  refine G.less (B' := (14, 7878)) (by decide) (by decide) ?_
  refine g_wFF fl_X11_13 rfl (fun C T N q => by cases q; rfl) dX11_init_10 rfl rfl h (fun ω h => ?_)
  refine g_aload_n dX11_init_13 rfl 0 rfl ?_
  refine g_sipush (v := 1154) dX11_init_14 (by decide) ?_
  refine g_nwA (t0 := 0) (N' := 1154) dX11_init_17 rfl wd_175 rfl (fun _ q => q) (fun _ => rfl) (by decide) (by decide) (by decide) (by decide) (by decide) h (fun a2 ω n h => ?_)
  refine G.less (B' := (13, 6724)) (by decide) (by decide) ?_
  refine g_wFF fl_X11_17 rfl (fun C T N q => by cases q; rfl) dX11_init_19 rfl rfl h (fun ω h => ?_)
  refine g_aload_n dX11_init_22 rfl 0 rfl ?_
  refine g_sipush (v := 1154) dX11_init_23 (by decide) ?_
  refine g_nwA (t0 := 0) (N' := 1154) dX11_init_26 rfl wd_175 rfl (fun _ q => q) (fun _ => rfl) (by decide) (by decide) (by decide) (by decide) (by decide) h (fun a3 ω n h => ?_)
  refine G.less (B' := (12, 5570)) (by decide) (by decide) ?_
  refine g_wFF fl_X11_20 rfl (fun C T N q => by cases q; rfl) dX11_init_28 rfl rfl h (fun ω h => ?_)
  refine g_aload_n dX11_init_31 rfl 0 rfl ?_
  refine g_sipush (v := 305) dX11_init_32 (by decide) ?_
  refine g_nwA (t0 := 0) (N' := 305) dX11_init_35 rfl wd_175 rfl (fun _ q => q) (fun _ => rfl) (by decide) (by decide) (by decide) (by decide) (by decide) h (fun a4 ω n h => ?_)
  refine G.less (B' := (11, 5265)) (by decide) (by decide) ?_
  refine g_wFF fl_X11_23 rfl (fun C T N q => by cases q; rfl) dX11_init_37 rfl rfl h (fun ω h => ?_)
  refine g_aload_n dX11_init_40 rfl 0 rfl ?_
  refine g_sipush (v := 3660) dX11_init_41 (by decide) ?_
  refine g_nwA (t0 := 0) (N' := 3660) dX11_init_44 rfl wd_175 rfl (fun _ q => q) (fun _ => rfl) (by decide) (by decide) (by decide) (by decide) (by decide) h (fun a5 ω n h => ?_)
  refine G.less (B' := (10, 1605)) (by decide) (by decide) ?_
  refine g_wFF fl_X11_26 rfl (fun C T N q => by cases q; rfl) dX11_init_46 rfl rfl h (fun ω h => ?_)
  refine g_aload_n dX11_init_49 rfl 0 rfl ?_
  refine g_sipush (v := 400) dX11_init_50 (by decide) ?_
  refine g_nwA (t0 := 1) (N' := 400) dX11_init_53 rfl wd_946 rfl (fun _ q => q) (fun _ => rfl) (by decide) (by decide) (by decide) (by decide) (by decide) h (fun a6 ω n h => ?_)
  refine G.less (B' := (9, 1205)) (by decide) (by decide) ?_
  refine g_wFF fl_X11_29 rfl (fun C T N q => by cases q; rfl) dX11_init_55 rfl rfl h (fun ω h => ?_)
  refine g_aload_n dX11_init_58 rfl 0 rfl ?_
  refine g_iconst (v := (-1)) dX11_init_59 (by decide) ?_
  refine g_wF fl_X11_33 dX11_init_60 (rfl) rfl h (fun ω h => ?_)
  refine g_aload_n dX11_init_63 rfl 0 rfl ?_
  refine g_iconst (v := 5) dX11_init_64 (by decide) ?_
  refine g_nwA (t0 := 0) (N' := 5) dX11_init_65 rfl wd_175 rfl (fun _ q => q) (fun _ => rfl) (by decide) (by decide) (by decide) (by decide) (by decide) h (fun a7 ω n h => ?_)
  refine G.less (B' := (8, 1200)) (by decide) (by decide) ?_
  refine g_wFF fl_X11_36 rfl (fun C T N q => by cases q; rfl) dX11_init_67 rfl rfl h (fun ω h => ?_)
  refine g_aload_n dX11_init_70 rfl 0 rfl ?_
  refine g_sipush (v := 400) dX11_init_71 (by decide) ?_
  refine g_nwA (t0 := 0) (N' := 400) dX11_init_74 rfl wd_175 rfl (fun _ q => q) (fun _ => rfl) (by decide) (by decide) (by decide) (by decide) (by decide) h (fun a8 ω n h => ?_)
  refine G.less (B' := (7, 800)) (by decide) (by decide) ?_
  refine g_wFF fl_X11_39 rfl (fun C T N q => by cases q; rfl) dX11_init_76 rfl rfl h (fun ω h => ?_)
  refine g_aload_n dX11_init_79 rfl 0 rfl ?_
  refine g_bipush (v := 10) dX11_init_80 (by decide) ?_
  refine g_nwA (t0 := 0) (N' := 10) dX11_init_82 rfl wd_175 rfl (fun _ q => q) (fun _ => rfl) (by decide) (by decide) (by decide) (by decide) (by decide) h (fun a9 ω n h => ?_)
  refine G.less (B' := (6, 790)) (by decide) (by decide) ?_
  refine g_wFF fl_X11_42 rfl (fun C T N q => by cases q; rfl) dX11_init_84 rfl rfl h (fun ω h => ?_)
  refine g_aload_n dX11_init_87 rfl 0 rfl ?_
  refine g_bipush (v := 10) dX11_init_88 (by decide) ?_
  refine g_nwA (t0 := 0) (N' := 10) dX11_init_90 rfl wd_175 rfl (fun _ q => q) (fun _ => rfl) (by decide) (by decide) (by decide) (by decide) (by decide) h (fun a10 ω n h => ?_)
  refine G.less (B' := (5, 780)) (by decide) (by decide) ?_
  refine g_wFF fl_X11_45 rfl (fun C T N q => by cases q; rfl) dX11_init_92 rfl rfl h (fun ω h => ?_)
  refine g_aload_n dX11_init_95 rfl 0 rfl ?_
  refine g_bipush (v := 8) dX11_init_96 (by decide) ?_
  refine g_nwA (t0 := 0) (N' := 8) dX11_init_98 rfl wd_175 rfl (fun _ q => q) (fun _ => rfl) (by decide) (by decide) (by decide) (by decide) (by decide) h (fun a11 ω n h => ?_)
  refine G.less (B' := (4, 772)) (by decide) (by decide) ?_
  refine g_wFF fl_X11_48 rfl (fun C T N q => by cases q; rfl) dX11_init_100 rfl rfl h (fun ω h => ?_)
  refine g_aload_n dX11_init_103 rfl 0 rfl ?_
  refine g_bipush (v := 61) dX11_init_104 (by decide) ?_
  refine g_nwA (t0 := 0) (N' := 61) dX11_init_106 rfl wd_175 rfl (fun _ q => q) (fun _ => rfl) (by decide) (by decide) (by decide) (by decide) (by decide) h (fun a12 ω n h => ?_)
  refine G.less (B' := (3, 711)) (by decide) (by decide) ?_
  refine g_wFF fl_X11_51 rfl (fun C T N q => by cases q; rfl) dX11_init_108 rfl rfl h (fun ω h => ?_)
  refine g_aload_n dX11_init_111 rfl 0 rfl ?_
  refine g_bipush (v := 61) dX11_init_112 (by decide) ?_
  refine g_nwA (t0 := 0) (N' := 61) dX11_init_114 rfl wd_175 rfl (fun _ q => q) (fun _ => rfl) (by decide) (by decide) (by decide) (by decide) (by decide) h (fun a13 ω n h => ?_)
  refine G.less (B' := (2, 650)) (by decide) (by decide) ?_
  refine g_wFF fl_X11_54 rfl (fun C T N q => by cases q; rfl) dX11_init_116 rfl rfl h (fun ω h => ?_)
  refine g_aload_n dX11_init_119 rfl 0 rfl ?_
  refine g_bipush (v := 10) dX11_init_120 (by decide) ?_
  refine g_nwA (t0 := 0) (N' := 10) dX11_init_122 rfl wd_175 rfl (fun _ q => q) (fun _ => rfl) (by decide) (by decide) (by decide) (by decide) (by decide) h (fun a14 ω n h => ?_)
  refine G.less (B' := (1, 640)) (by decide) (by decide) ?_
  refine g_wFF fl_X11_57 rfl (fun C T N q => by cases q; rfl) dX11_init_124 rfl rfl h (fun ω h => ?_)
  refine g_aload_n dX11_init_127 rfl 0 rfl ?_
  refine g_sipush (v := 640) dX11_init_128 (by decide) ?_
  refine g_nwA (t0 := 0) (N' := 640) dX11_init_131 rfl wd_175 rfl (fun _ q => q) (fun _ => rfl) (by decide) (by decide) (by decide) (by decide) (by decide) h (fun a15 ω n h => ?_)
  refine G.less (B' := (0, 0)) (by decide) (by decide) ?_
  refine g_wFF fl_X11_60 rfl (fun C T N q => by cases q; rfl) dX11_init_133 rfl rfl h (fun ω h => ?_)
  refine g_aload_n dX11_init_136 rfl 0 rfl ?_
  refine g_rA fl_X11_13 dX11_init_137 h (fun a16 h => ?_)
  refine g_iconst (v := 5) dX11_init_140 (by decide) ?_
  refine g_iconst (v := 2) dX11_init_141 (by decide) ?_
  refine g_sIi dX11_init_142 h (fun ω h => ?_)
  refine g_aload_n dX11_init_143 rfl 0 rfl ?_
  refine g_rA fl_X11_13 dX11_init_144 h (fun a17 h => ?_)
  refine g_bipush (v := 6) dX11_init_147 (by decide) ?_
  refine g_bipush (v := 10) dX11_init_149 (by decide) ?_
  refine g_sIi dX11_init_151 h (fun ω h => ?_)
  refine g_aload_n dX11_init_152 rfl 0 rfl ?_
  refine g_rA fl_X11_13 dX11_init_153 h (fun a18 h => ?_)
  refine g_bipush (v := 8) dX11_init_156 (by decide) ?_
  refine g_iconst (v := 1) dX11_init_158 (by decide) ?_
  refine g_sIi dX11_init_159 h (fun ω h => ?_)
  cases h
  exact g_vret rfl dX11_init_160 rfl
def F_X5_init (Θ : GP) (l0 : Nat) (l1 : Nat) (ω : OW) (n : Nat) : RO := wF ω l0 5 0 (.int 0) (fun ω => wF ω l0 5 1 (.int 0) (fun ω => nw ω n (.inl (gC Θ, 12, .inr (.inr (.inr (.inr (fun _ => none)))))) (fun a1 ω n => wF ω l0 5 2 (.ref a1) (fun ω => rA ω l0 5 2 (fun a3 => nw ω n (.inr (0, [.int 0, .int 0, .int 0, .int 0, .int 0, .int 0, .int 0, .null, .null, .null, .null, .null, .null, .null, .null, .null, .null, .null])) (fun a4 ω n => kC (F_X0_init Θ a4 l1 ω n) (fun ω n => sAr ω (gC Θ) a3 0 a4 (fun ω => rA ω l0 5 2 (fun a6 => nw ω n (.inr (0, [.int 0, .int 0, .int 0, .int 0, .int 0, .int 0, .int 0, .null, .null, .null, .null, .null, .null, .null, .null, .null, .null, .null])) (fun a7 ω n => kC (F_X0_init Θ a7 l1 ω n) (fun ω n => sAr ω (gC Θ) a6 1 a7 (fun ω => rA ω l0 5 2 (fun a9 => nw ω n (.inr (0, [.int 0, .int 0, .int 0, .int 0, .int 0, .int 0, .int 0, .null, .null, .null, .null, .null, .null, .null, .null, .null, .null, .null])) (fun a10 ω n => kC (F_X0_init Θ a10 l1 ω n) (fun ω n => sAr ω (gC Θ) a9 2 a10 (fun ω => rA ω l0 5 2 (fun a12 => nw ω n (.inr (0, [.int 0, .int 0, .int 0, .int 0, .int 0, .int 0, .int 0, .null, .null, .null, .null, .null, .null, .null, .null, .null, .null, .null])) (fun a13 ω n => kC (F_X0_init Θ a13 l1 ω n) (fun ω n => sAr ω (gC Θ) a12 3 a13 (fun ω => rA ω l0 5 2 (fun a15 => nw ω n (.inr (0, [.int 0, .int 0, .int 0, .int 0, .int 0, .int 0, .int 0, .null, .null, .null, .null, .null, .null, .null, .null, .null, .null, .null])) (fun a16 ω n => kC (F_X0_init Θ a16 l1 ω n) (fun ω n => sAr ω (gC Θ) a15 4 a16 (fun ω => rA ω l0 5 2 (fun a18 => nw ω n (.inr (0, [.int 0, .int 0, .int 0, .int 0, .int 0, .int 0, .int 0, .null, .null, .null, .null, .null, .null, .null, .null, .null, .null, .null])) (fun a19 ω n => kC (F_X0_init Θ a19 l1 ω n) (fun ω n => sAr ω (gC Θ) a18 5 a19 (fun ω => rA ω l0 5 2 (fun a21 => nw ω n (.inr (0, [.int 0, .int 0, .int 0, .int 0, .int 0, .int 0, .int 0, .null, .null, .null, .null, .null, .null, .null, .null, .null, .null, .null])) (fun a22 ω n => kC (F_X0_init Θ a22 l1 ω n) (fun ω n => sAr ω (gC Θ) a21 6 a22 (fun ω => rA ω l0 5 2 (fun a24 => nw ω n (.inr (0, [.int 0, .int 0, .int 0, .int 0, .int 0, .int 0, .int 0, .null, .null, .null, .null, .null, .null, .null, .null, .null, .null, .null])) (fun a25 ω n => kC (F_X0_init Θ a25 l1 ω n) (fun ω n => sAr ω (gC Θ) a24 7 a25 (fun ω => rA ω l0 5 2 (fun a27 => nw ω n (.inr (0, [.int 0, .int 0, .int 0, .int 0, .int 0, .int 0, .int 0, .null, .null, .null, .null, .null, .null, .null, .null, .null, .null, .null])) (fun a28 ω n => kC (F_X0_init Θ a28 l1 ω n) (fun ω n => sAr ω (gC Θ) a27 8 a28 (fun ω => rA ω l0 5 2 (fun a30 => nw ω n (.inr (0, [.int 0, .int 0, .int 0, .int 0, .int 0, .int 0, .int 0, .null, .null, .null, .null, .null, .null, .null, .null, .null, .null, .null])) (fun a31 ω n => kC (F_X0_init Θ a31 l1 ω n) (fun ω n => sAr ω (gC Θ) a30 9 a31 (fun ω => rA ω l0 5 2 (fun a33 => nw ω n (.inr (0, [.int 0, .int 0, .int 0, .int 0, .int 0, .int 0, .int 0, .null, .null, .null, .null, .null, .null, .null, .null, .null, .null, .null])) (fun a34 ω n => kC (F_X0_init Θ a34 l1 ω n) (fun ω n => sAr ω (gC Θ) a33 10 a34 (fun ω => rA ω l0 5 2 (fun a36 => nw ω n (.inr (0, [.int 0, .int 0, .int 0, .int 0, .int 0, .int 0, .int 0, .null, .null, .null, .null, .null, .null, .null, .null, .null, .null, .null])) (fun a37 ω n => kC (F_X0_init Θ a37 l1 ω n) (fun ω n => sAr ω (gC Θ) a36 11 a37 (fun ω => some (.inl (none, ω, n))))))))))))))))))))))))))))))))))))))))))))))))))))))
theorem ok_X5_init (Θ : GP) (l0 : Nat) (l1 : Nat) (ω : OW) (n : Nat) : Ok Θ 3 145 3936 yX5_init cX5_init 3 (none : Option Jvm.ClassFile.FieldType) [.ref l0, .ref l1] ω n (F_X5_init Θ l0 l1 ω n) := by
  refine Ok.of (by decide +kernel) (Nat.le_of_ble_eq_true rfl) (fun r h => ?_)
  unfold F_X5_init at h
  show GR Θ yX5_init cX5_init 3 (none : Option Jvm.ClassFile.FieldType) 3 (145, 3936) 0 [(0, .ref l0), (1, .ref l1)] [] ω n r
  refine g_aload_n dX5_init_0 rfl 0 rfl ?_
  refine g_objInit wd_349 wd_145 wd_146 dX5_init_1 (by decide) (Nat.le_of_ble_eq_true rfl) ?_
  refine g_aload_n dX5_init_4 rfl 0 rfl ?_
  refine g_iconst (v := 0) dX5_init_5 (by decide) ?_
  refine g_wF fl_X5_7 dX5_init_6 (rfl) rfl h (fun ω h => ?_)
  refine g_aload_n dX5_init_9 rfl 0 rfl ?_
  refine g_iconst (v := 0) dX5_init_10 (by decide) ?_
  refine g_wF fl_X5_13 dX5_init_11 (rfl) rfl h (fun ω h => ?_)
  refine g_aload_n dX5_init_14 rfl 0 rfl ?_
  refine g_bipush (v := 12) dX5_init_15 (by decide) ?_
  refine g_nwQ (N' := 12) wd_350 dX5_init_17 (by decide) (by decide) (by decide) (by decide) (by decide) h (fun a1 ω n h => ?_)
  refine G.less (B' := (144, 3924)) (by decide) (by decide) ?_
  refine g_wFF fl_X5_18 rfl (fun C T N q => by cases q; rfl) dX5_init_20 rfl rfl h (fun ω h => ?_)
  refine g_iconst (v := 0) dX5_init_23 (by decide) ?_
  refine g_istore_n (lv' := [(2, .int 0), (0, .ref l0), (1, .ref l1)]) dX5_init_24 rfl (by decide) rfl ?_
  refine g_iload_n dX5_init_25 rfl 0 rfl ?_
  refine g_bipush (v := 12) dX5_init_26 (by decide) ?_
  refine g_icmp_ge (tgt := 51) dX5_init_28 (by decide) (fun c => absurd c (by decide)) (fun _ => ?_)
  refine g_aload_n dX5_init_31 rfl 1 rfl ?_
  refine g_rA fl_X5_18 dX5_init_32 h (fun a3 h => ?_)
  refine g_iload_n dX5_init_35 rfl 0 rfl ?_
  refine g_nwO cl_X0 wd_350 wd_221 wd_115 dX5_init_36 df_X0 (by decide) (by decide) h (fun a4 ω n h => ?_)
  refine G.less (B' := (143, 3906)) (by decide) (by decide) ?_
  refine g_dup dX5_init_39 rfl ?_
  refine g_aload_n dX5_init_40 rfl 2 rfl ?_
  refine g_cC (As := [.ref l1]) mi_X5_22 dX5_init_41 (ok_X0_init Θ a4 l1 _ _) rfl rfl (Nat.le_of_ble_eq_true rfl) (by decide) (by decide) (by decide) h (fun ω n h => ?_)
  refine G.less (B' := (132, 3597)) (by decide) (by decide) ?_
  refine g_sAa dX5_init_44 h (fun ω h => ?_)
  refine g_iinc (j := 0) (v := 1) (lv' := [(2, .int 1), (0, .ref l0), (1, .ref l1)]) dX5_init_45 rfl (by decide) (by decide) rfl ?_
  refine g_goto (tgt := 25) dX5_init_48 (by decide) ?_
  refine g_iload_n dX5_init_25 rfl 0 rfl ?_
  refine g_bipush (v := 12) dX5_init_26 (by decide) ?_
  refine g_icmp_ge (tgt := 51) dX5_init_28 (by decide) (fun c => absurd c (by decide)) (fun _ => ?_)
  refine g_aload_n dX5_init_31 rfl 1 rfl ?_
  refine g_rA fl_X5_18 dX5_init_32 h (fun a6 h => ?_)
  refine g_iload_n dX5_init_35 rfl 0 rfl ?_
  refine g_nwO cl_X0 wd_350 wd_221 wd_115 dX5_init_36 df_X0 (by decide) (by decide) h (fun a7 ω n h => ?_)
  refine G.less (B' := (131, 3579)) (by decide) (by decide) ?_
  refine g_dup dX5_init_39 rfl ?_
  refine g_aload_n dX5_init_40 rfl 2 rfl ?_
  refine g_cC (As := [.ref l1]) mi_X5_22 dX5_init_41 (ok_X0_init Θ a7 l1 _ _) rfl rfl (Nat.le_of_ble_eq_true rfl) (by decide) (by decide) (by decide) h (fun ω n h => ?_)
  refine G.less (B' := (120, 3270)) (by decide) (by decide) ?_
  refine g_sAa dX5_init_44 h (fun ω h => ?_)
  refine g_iinc (j := 0) (v := 2) (lv' := [(2, .int 2), (0, .ref l0), (1, .ref l1)]) dX5_init_45 rfl (by decide) (by decide) rfl ?_
  refine g_goto (tgt := 25) dX5_init_48 (by decide) ?_
  refine g_iload_n dX5_init_25 rfl 0 rfl ?_
  refine g_bipush (v := 12) dX5_init_26 (by decide) ?_
  refine g_icmp_ge (tgt := 51) dX5_init_28 (by decide) (fun c => absurd c (by decide)) (fun _ => ?_)
  refine g_aload_n dX5_init_31 rfl 1 rfl ?_
  refine g_rA fl_X5_18 dX5_init_32 h (fun a9 h => ?_)
  refine g_iload_n dX5_init_35 rfl 0 rfl ?_
  refine g_nwO cl_X0 wd_350 wd_221 wd_115 dX5_init_36 df_X0 (by decide) (by decide) h (fun a10 ω n h => ?_)
  refine G.less (B' := (119, 3252)) (by decide) (by decide) ?_
  refine g_dup dX5_init_39 rfl ?_
  refine g_aload_n dX5_init_40 rfl 2 rfl ?_
  refine g_cC (As := [.ref l1]) mi_X5_22 dX5_init_41 (ok_X0_init Θ a10 l1 _ _) rfl rfl (Nat.le_of_ble_eq_true rfl) (by decide) (by decide) (by decide) h (fun ω n h => ?_)
  refine G.less (B' := (108, 2943)) (by decide) (by decide) ?_
  refine g_sAa dX5_init_44 h (fun ω h => ?_)
  refine g_iinc (j := 0) (v := 3) (lv' := [(2, .int 3), (0, .ref l0), (1, .ref l1)]) dX5_init_45 rfl (by decide) (by decide) rfl ?_
  refine g_goto (tgt := 25) dX5_init_48 (by decide) ?_
  refine g_iload_n dX5_init_25 rfl 0 rfl ?_
  refine g_bipush (v := 12) dX5_init_26 (by decide) ?_
  refine g_icmp_ge (tgt := 51) dX5_init_28 (by decide) (fun c => absurd c (by decide)) (fun _ => ?_)
  refine g_aload_n dX5_init_31 rfl 1 rfl ?_
  refine g_rA fl_X5_18 dX5_init_32 h (fun a12 h => ?_)
  refine g_iload_n dX5_init_35 rfl 0 rfl ?_
  refine g_nwO cl_X0 wd_350 wd_221 wd_115 dX5_init_36 df_X0 (by decide) (by decide) h (fun a13 ω n h => ?_)
  refine G.less (B' := (107, 2925)) (by decide) (by decide) ?_
  refine g_dup dX5_init_39 rfl ?_
  refine g_aload_n dX5_init_40 rfl 2 rfl ?_
  refine g_cC (As := [.ref l1]) mi_X5_22 dX5_init_41 (ok_X0_init Θ a13 l1 _ _) rfl rfl (Nat.le_of_ble_eq_true rfl) (by decide) (by decide) (by decide) h (fun ω n h => ?_)
  refine G.less (B' := (96, 2616)) (by decide) (by decide) ?_
  refine g_sAa dX5_init_44 h (fun ω h => ?_)
  refine g_iinc (j := 0) (v := 4) (lv' := [(2, .int 4), (0, .ref l0), (1, .ref l1)]) dX5_init_45 rfl (by decide) (by decide) rfl ?_
  refine g_goto (tgt := 25) dX5_init_48 (by decide) ?_
  refine g_iload_n dX5_init_25 rfl 0 rfl ?_
  refine g_bipush (v := 12) dX5_init_26 (by decide) ?_
  refine g_icmp_ge (tgt := 51) dX5_init_28 (by decide) (fun c => absurd c (by decide)) (fun _ => ?_)
  refine g_aload_n dX5_init_31 rfl 1 rfl ?_
  refine g_rA fl_X5_18 dX5_init_32 h (fun a15 h => ?_)
  refine g_iload_n dX5_init_35 rfl 0 rfl ?_
  refine g_nwO cl_X0 wd_350 wd_221 wd_115 dX5_init_36 df_X0 (by decide) (by decide) h (fun a16 ω n h => ?_)
  refine G.less (B' := (95, 2598)) (by decide) (by decide) ?_
  refine g_dup dX5_init_39 rfl ?_
  refine g_aload_n dX5_init_40 rfl 2 rfl ?_
  refine g_cC (As := [.ref l1]) mi_X5_22 dX5_init_41 (ok_X0_init Θ a16 l1 _ _) rfl rfl (Nat.le_of_ble_eq_true rfl) (by decide) (by decide) (by decide) h (fun ω n h => ?_)
  refine G.less (B' := (84, 2289)) (by decide) (by decide) ?_
  refine g_sAa dX5_init_44 h (fun ω h => ?_)
  refine g_iinc (j := 0) (v := 5) (lv' := [(2, .int 5), (0, .ref l0), (1, .ref l1)]) dX5_init_45 rfl (by decide) (by decide) rfl ?_
  refine g_goto (tgt := 25) dX5_init_48 (by decide) ?_
  refine g_iload_n dX5_init_25 rfl 0 rfl ?_
  refine g_bipush (v := 12) dX5_init_26 (by decide) ?_
  refine g_icmp_ge (tgt := 51) dX5_init_28 (by decide) (fun c => absurd c (by decide)) (fun _ => ?_)
  refine g_aload_n dX5_init_31 rfl 1 rfl ?_
  refine g_rA fl_X5_18 dX5_init_32 h (fun a18 h => ?_)
  refine g_iload_n dX5_init_35 rfl 0 rfl ?_
  refine g_nwO cl_X0 wd_350 wd_221 wd_115 dX5_init_36 df_X0 (by decide) (by decide) h (fun a19 ω n h => ?_)
  refine G.less (B' := (83, 2271)) (by decide) (by decide) ?_
  refine g_dup dX5_init_39 rfl ?_
  refine g_aload_n dX5_init_40 rfl 2 rfl ?_
  refine g_cC (As := [.ref l1]) mi_X5_22 dX5_init_41 (ok_X0_init Θ a19 l1 _ _) rfl rfl (Nat.le_of_ble_eq_true rfl) (by decide) (by decide) (by decide) h (fun ω n h => ?_)
  refine G.less (B' := (72, 1962)) (by decide) (by decide) ?_
  refine g_sAa dX5_init_44 h (fun ω h => ?_)
  refine g_iinc (j := 0) (v := 6) (lv' := [(2, .int 6), (0, .ref l0), (1, .ref l1)]) dX5_init_45 rfl (by decide) (by decide) rfl ?_
  refine g_goto (tgt := 25) dX5_init_48 (by decide) ?_
  refine g_iload_n dX5_init_25 rfl 0 rfl ?_
  refine g_bipush (v := 12) dX5_init_26 (by decide) ?_
  refine g_icmp_ge (tgt := 51) dX5_init_28 (by decide) (fun c => absurd c (by decide)) (fun _ => ?_)
  refine g_aload_n dX5_init_31 rfl 1 rfl ?_
  refine g_rA fl_X5_18 dX5_init_32 h (fun a21 h => ?_)
  refine g_iload_n dX5_init_35 rfl 0 rfl ?_
  refine g_nwO cl_X0 wd_350 wd_221 wd_115 dX5_init_36 df_X0 (by decide) (by decide) h (fun a22 ω n h => ?_)
  refine G.less (B' := (71, 1944)) (by decide) (by decide) ?_
  refine g_dup dX5_init_39 rfl ?_
  refine g_aload_n dX5_init_40 rfl 2 rfl ?_
  refine g_cC (As := [.ref l1]) mi_X5_22 dX5_init_41 (ok_X0_init Θ a22 l1 _ _) rfl rfl (Nat.le_of_ble_eq_true rfl) (by decide) (by decide) (by decide) h (fun ω n h => ?_)
  refine G.less (B' := (60, 1635)) (by decide) (by decide) ?_
  refine g_sAa dX5_init_44 h (fun ω h => ?_)
  refine g_iinc (j := 0) (v := 7) (lv' := [(2, .int 7), (0, .ref l0), (1, .ref l1)]) dX5_init_45 rfl (by decide) (by decide) rfl ?_
  refine g_goto (tgt := 25) dX5_init_48 (by decide) ?_
  refine g_iload_n dX5_init_25 rfl 0 rfl ?_
  refine g_bipush (v := 12) dX5_init_26 (by decide) ?_
  refine g_icmp_ge (tgt := 51) dX5_init_28 (by decide) (fun c => absurd c (by decide)) (fun _ => ?_)
  refine g_aload_n dX5_init_31 rfl 1 rfl ?_
  refine g_rA fl_X5_18 dX5_init_32 h (fun a24 h => ?_)
  refine g_iload_n dX5_init_35 rfl 0 rfl ?_
  refine g_nwO cl_X0 wd_350 wd_221 wd_115 dX5_init_36 df_X0 (by decide) (by decide) h (fun a25 ω n h => ?_)
  refine G.less (B' := (59, 1617)) (by decide) (by decide) ?_
  refine g_dup dX5_init_39 rfl ?_
  refine g_aload_n dX5_init_40 rfl 2 rfl ?_
  refine g_cC (As := [.ref l1]) mi_X5_22 dX5_init_41 (ok_X0_init Θ a25 l1 _ _) rfl rfl (Nat.le_of_ble_eq_true rfl) (by decide) (by decide) (by decide) h (fun ω n h => ?_)
  refine G.less (B' := (48, 1308)) (by decide) (by decide) ?_
  refine g_sAa dX5_init_44 h (fun ω h => ?_)
  refine g_iinc (j := 0) (v := 8) (lv' := [(2, .int 8), (0, .ref l0), (1, .ref l1)]) dX5_init_45 rfl (by decide) (by decide) rfl ?_
  refine g_goto (tgt := 25) dX5_init_48 (by decide) ?_
  refine g_iload_n dX5_init_25 rfl 0 rfl ?_
  refine g_bipush (v := 12) dX5_init_26 (by decide) ?_
  refine g_icmp_ge (tgt := 51) dX5_init_28 (by decide) (fun c => absurd c (by decide)) (fun _ => ?_)
  refine g_aload_n dX5_init_31 rfl 1 rfl ?_
  refine g_rA fl_X5_18 dX5_init_32 h (fun a27 h => ?_)
  refine g_iload_n dX5_init_35 rfl 0 rfl ?_
  refine g_nwO cl_X0 wd_350 wd_221 wd_115 dX5_init_36 df_X0 (by decide) (by decide) h (fun a28 ω n h => ?_)
  refine G.less (B' := (47, 1290)) (by decide) (by decide) ?_
  refine g_dup dX5_init_39 rfl ?_
  refine g_aload_n dX5_init_40 rfl 2 rfl ?_
  refine g_cC (As := [.ref l1]) mi_X5_22 dX5_init_41 (ok_X0_init Θ a28 l1 _ _) rfl rfl (Nat.le_of_ble_eq_true rfl) (by decide) (by decide) (by decide) h (fun ω n h => ?_)
  refine G.less (B' := (36, 981)) (by decide) (by decide) ?_
  refine g_sAa dX5_init_44 h (fun ω h => ?_)
  refine g_iinc (j := 0) (v := 9) (lv' := [(2, .int 9), (0, .ref l0), (1, .ref l1)]) dX5_init_45 rfl (by decide) (by decide) rfl ?_
  refine g_goto (tgt := 25) dX5_init_48 (by decide) ?_
  refine g_iload_n dX5_init_25 rfl 0 rfl ?_
  refine g_bipush (v := 12) dX5_init_26 (by decide) ?_
  refine g_icmp_ge (tgt := 51) dX5_init_28 (by decide) (fun c => absurd c (by decide)) (fun _ => ?_)
  refine g_aload_n dX5_init_31 rfl 1 rfl ?_
  refine g_rA fl_X5_18 dX5_init_32 h (fun a30 h => ?_)
  refine g_iload_n dX5_init_35 rfl 0 rfl ?_
  refine g_nwO cl_X0 wd_350 wd_221 wd_115 dX5_init_36 df_X0 (by decide) (by decide) h (fun a31 ω n h => ?_)
  refine G.less (B' := (35, 963)) (by decide) (by decide) ?_
  refine g_dup dX5_init_39 rfl ?_
  refine g_aload_n dX5_init_40 rfl 2 rfl ?_
  refine g_cC (As := [.ref l1]) mi_X5_22 dX5_init_41 (ok_X0_init Θ a31 l1 _ _) rfl rfl (Nat.le_of_ble_eq_true rfl) (by decide) (by decide) (by decide) h (fun ω n h => ?_)
  refine G.less (B' := (24, 654)) (by decide) (by decide) ?_
  refine g_sAa dX5_init_44 h (fun ω h => ?_)
  refine g_iinc (j := 0) (v := 10) (lv' := [(2, .int 10), (0, .ref l0), (1, .ref l1)]) dX5_init_45 rfl (by decide) (by decide) rfl ?_
  refine g_goto (tgt := 25) dX5_init_48 (by decide) ?_
  refine g_iload_n dX5_init_25 rfl 0 rfl ?_
  refine g_bipush (v := 12) dX5_init_26 (by decide) ?_
  refine g_icmp_ge (tgt := 51) dX5_init_28 (by decide) (fun c => absurd c (by decide)) (fun _ => ?_)
  refine g_aload_n dX5_init_31 rfl 1 rfl ?_
  refine g_rA fl_X5_18 dX5_init_32 h (fun a33 h => ?_)
  refine g_iload_n dX5_init_35 rfl 0 rfl ?_
  refine g_nwO cl_X0 wd_350 wd_221 wd_115 dX5_init_36 df_X0 (by decide) (by decide) h (fun a34 ω n h => ?_)
  refine G.less (B' := (23, 636)) (by decide) (by decide) ?_
  refine g_dup dX5_init_39 rfl ?_
  refine g_aload_n dX5_init_40 rfl 2 rfl ?_
  refine g_cC (As := [.ref l1]) mi_X5_22 dX5_init_41 (ok_X0_init Θ a34 l1 _ _) rfl rfl (Nat.le_of_ble_eq_true rfl) (by decide) (by decide) (by decide) h (fun ω n h => ?_)
  refine G.less (B' := (12, 327)) (by decide) (by decide) ?_
  refine g_sAa dX5_init_44 h (fun ω h => ?_)
  refine g_iinc (j := 0) (v := 11) (lv' := [(2, .int 11), (0, .ref l0), (1, .ref l1)]) dX5_init_45 rfl (by decide) (by decide) rfl ?_
  refine g_goto (tgt := 25) dX5_init_48 (by decide) ?_
  refine g_iload_n dX5_init_25 rfl 0 rfl ?_
  refine g_bipush (v := 12) dX5_init_26 (by decide) ?_
  refine g_icmp_ge (tgt := 51) dX5_init_28 (by decide) (fun c => absurd c (by decide)) (fun _ => ?_)
  refine g_aload_n dX5_init_31 rfl 1 rfl ?_
  refine g_rA fl_X5_18 dX5_init_32 h (fun a36 h => ?_)
  refine g_iload_n dX5_init_35 rfl 0 rfl ?_
  refine g_nwO cl_X0 wd_350 wd_221 wd_115 dX5_init_36 df_X0 (by decide) (by decide) h (fun a37 ω n h => ?_)
  refine G.less (B' := (11, 309)) (by decide) (by decide) ?_
  refine g_dup dX5_init_39 rfl ?_
  refine g_aload_n dX5_init_40 rfl 2 rfl ?_
  refine g_cC (As := [.ref l1]) mi_X5_22 dX5_init_41 (ok_X0_init Θ a37 l1 _ _) rfl rfl (Nat.le_of_ble_eq_true rfl) (by decide) (by decide) (by decide) h (fun ω n h => ?_)
  refine G.less (B' := (0, 0)) (by decide) (by decide) ?_
  refine g_sAa dX5_init_44 h (fun ω h => ?_)
  refine g_iinc (j := 0) (v := 12) (lv' := [(2, .int 12), (0, .ref l0), (1, .ref l1)]) dX5_init_45 rfl (by decide) (by decide) rfl ?_
  refine g_goto (tgt := 25) dX5_init_48 (by decide) ?_
  refine g_iload_n dX5_init_25 rfl 0 rfl ?_
  refine g_bipush (v := 12) dX5_init_26 (by decide) ?_
  refine g_icmp_ge (tgt := 51) dX5_init_28 (by decide) (fun _ => ?_) (fun c => absurd (by decide) c)
  cases h
  exact g_vret rfl dX5_init_51 rfl
def F_X10_init (Θ : GP) (l0 : Nat) (ω : OW) (n : Nat) : RO := wF ω l0 10 3 (.int 0) (fun ω => nw ω n (.inr (8, [.int 0, .int 0, .int 0, .int 0, .long 0, .null])) (fun a1 ω n => kC (F_X8_init Θ a1 ω n) (fun ω n => wF ω l0 10 5 (.ref a1) (fun ω => nw ω n (.inr (7, [.null, .null, .null])) (fun a2 ω n => kC (F_X7_init Θ a2 ω n) (fun ω n => wF ω l0 10 11 (.ref a2) (fun ω => nw ω n (.inl (gI Θ, 10, .inl (fun _ => 0))) (fun a3 ω n => wF ω l0 10 12 (.ref a3) (fun ω => nw ω n (.inl (gI Θ, 9, .inl (fun _ => 0))) (fun a4 ω n => wF ω l0 10 13 (.ref a4) (fun ω => wF ω l0 10 14 (.int (-1)) (fun ω => nw ω n (.inr (2, [.int 0, .int 0, .null, .null, .null, .null])) (fun a5 ω n => nw ω n (.inl (gI Θ, 0, .inl (fun _ => 0))) (fun a6 ω n => nw ω n (.inl (gI Θ, 0, .inl (fun _ => 0))) (fun a7 ω n => nw ω n (.inl (gI Θ, 1, .inl (fun _ => 0))) (fun a8 ω n => nw ω n (.inl (gI Θ, 0, .inl (fun _ => 0))) (fun a9 ω n => kC (F_X2_init Θ a5 0 0 a6 a7 a8 a9 ω n) (fun ω n => nw ω n (.inr (0, [.int 0, .int 0, .int 0, .int 0, .int 0, .int 0, .int 0, .null, .null, .null, .null, .null, .null, .null, .null, .null, .null, .null])) (fun a10 ω n => kC (F_X0_init Θ a10 a5 ω n) (fun ω n => wF ω l0 10 0 (.ref a10) (fun ω => nw ω n (.inr (0, [.int 0, .int 0, .int 0, .int 0, .int 0, .int 0, .int 0, .null, .null, .null, .null, .null, .null, .null, .null, .null, .null, .null])) (fun a11 ω n => kC (F_X0_init Θ a11 a5 ω n) (fun ω n => wF ω l0 10 1 (.ref a11) (fun ω => nw ω n (.inr (0, [.int 0, .int 0, .int 0, .int 0, .int 0, .int 0, .int 0, .null, .null, .null, .null, .null, .null, .null, .null, .null, .null, .null])) (fun a12 ω n => kC (F_X0_init Θ a12 a5 ω n) (fun ω n => wF ω l0 10 2 (.ref a12) (fun ω => nw ω n (.inr (5, [.int 0, .int 0, .null])) (fun a13 ω n => kC (F_X5_init Θ a13 a5 ω n) (fun ω n => wF ω l0 10 4 (.ref a13) (fun ω => nw ω n (.inr (1, [.null, .null])) (fun a14 ω n => rA ω l0 10 5 (fun a15 => rA ω l0 10 1 (fun a16 => kC (F_X1_init Θ a14 a15 a16 ω n) (fun ω n => wF ω l0 10 6 (.ref a14) (fun ω => nw ω n (.inr (3, [.null, .int 0, .int 0, .null, .null, .null, .null])) (fun a17 ω n => rA ω l0 10 5 (fun a18 => kC (F_X3_init Θ a17 a18 ω n) (fun ω n => wF ω l0 10 7 (.ref a17) (fun ω => nw ω n (.inr (6, [.null, .null, .null, .int 0, .int 0, .int 0, .int 0, .int 0, .int 0, .int 0, .null, .null, .int 0, .int 0, .null])) (fun a19 ω n => rA ω l0 10 0 (fun a20 => kC (F_X6_init Θ a19 a20 ω n) (fun ω n => wF ω l0 10 8 (.ref a19) (fun ω => nw ω n (.inr (6, [.null, .null, .null, .int 0, .int 0, .int 0, .int 0, .int 0, .int 0, .int 0, .null, .null, .int 0, .int 0, .null])) (fun a21 ω n => rA ω l0 10 0 (fun a22 => kC (F_X6_init Θ a21 a22 ω n) (fun ω n => wF ω l0 10 9 (.ref a21) (fun ω => nw ω n (.inr (9, [.int 0, .null, .int 0, .int 0, .null, .null, .null, .null])) (fun a23 ω n => rA ω l0 10 0 (fun a24 => rA ω l0 10 8 (fun a25 => kC (F_X9_init Θ a23 a24 a25 ω n) (fun ω n => wF ω l0 10 10 (.ref a23) (fun ω => some (.inl (none, ω, n))))))))))))))))))))))))))))))))))))))))))))))))))))))
theorem ok_X10_init (Θ : GP) (l0 : Nat) (ω : OW) (n : Nat) : Ok Θ 4 217 7156 yX10_init cX10_init 2 (none : Option Jvm.ClassFile.FieldType) [.ref l0] ω n (F_X10_init Θ l0 ω n) := by
  refine Ok.of (by decide +kernel) (Nat.le_of_ble_eq_true rfl) (fun r h => ?_)
  unfold F_X10_init at h
  show GR Θ yX10_init cX10_init 2 (none : Option Jvm.ClassFile.FieldType) 4 (217, 7156) 0 [(0, .ref l0)] [] ω n r
  refine g_aload_n dX10_init_0 rfl 0 rfl ?_
  refine g_objInit wd_144 wd_145 wd_146 dX10_init_1 (by decide) (Nat.le_of_ble_eq_true rfl) ?_
  refine g_aload_n dX10_init_4 rfl 0 rfl ?_
  refine g_iconst (v := 0) dX10_init_5 (by decide) ?_
  refine g_wF fl_X10_7 dX10_init_6 (rfl) rfl h (fun ω h => ?_)
  refine g_aload_n dX10_init_9 rfl 0 rfl ?_
  refine g_nwO cl_X8 wd_147 wd_148 wd_112 dX10_init_10 df_X8 (by decide) (by decide) h (fun a1 ω n h => ?_)
  refine G.less (B' := (216, 7150)) (by decide) (by decide) ?_
  refine g_dup dX10_init_13 rfl ?_
  refine g_cC (As := []) mi_X10_15 dX10_init_14 (ok_X8_init Θ a1 _ _) rfl rfl (Nat.le_of_ble_eq_true rfl) (by decide) (by decide) (by decide) h (fun ω n h => ?_)
  refine G.less (B' := (215, 6750)) (by decide) (by decide) ?_
  refine g_wFF fl_X10_16 rfl (fun C T N q => by cases q; rfl) dX10_init_17 rfl rfl h (fun ω h => ?_)
  refine g_aload_n dX10_init_20 rfl 0 rfl ?_
  refine g_nwO cl_X7 wd_176 wd_177 wd_113 dX10_init_21 df_X7 (by decide) (by decide) h (fun a2 ω n h => ?_)
  refine G.less (B' := (214, 6747)) (by decide) (by decide) ?_
  refine g_dup dX10_init_24 rfl ?_
  refine g_cC (As := []) mi_X10_22 dX10_init_25 (ok_X7_init Θ a2 _ _) rfl rfl (Nat.le_of_ble_eq_true rfl) (by decide) (by decide) (by decide) h (fun ω n h => ?_)
  refine G.less (B' := (211, 5662)) (by decide) (by decide) ?_
  refine g_wFF fl_X10_23 rfl (fun C T N q => by cases q; rfl) dX10_init_28 rfl rfl h (fun ω h => ?_)
  refine g_aload_n dX10_init_31 rfl 0 rfl ?_
  refine g_bipush (v := 10) dX10_init_32 (by decide) ?_
  refine g_nwA (t0 := 0) (N' := 10) dX10_init_34 rfl wd_175 rfl (fun _ q => q) (fun _ => rfl) (by decide) (by decide) (by decide) (by decide) (by decide) h (fun a3 ω n h => ?_)
  refine G.less (B' := (210, 5652)) (by decide) (by decide) ?_
  refine g_wFF fl_X10_27 rfl (fun C T N q => by cases q; rfl) dX10_init_36 rfl rfl h (fun ω h => ?_)
  refine g_aload_n dX10_init_39 rfl 0 rfl ?_
  refine g_bipush (v := 9) dX10_init_40 (by decide) ?_
  refine g_nwA (t0 := 0) (N' := 9) dX10_init_42 rfl wd_175 rfl (fun _ q => q) (fun _ => rfl) (by decide) (by decide) (by decide) (by decide) (by decide) h (fun a4 ω n h => ?_)
  refine G.less (B' := (209, 5643)) (by decide) (by decide) ?_
  refine g_wFF fl_X10_31 rfl (fun C T N q => by cases q; rfl) dX10_init_44 rfl rfl h (fun ω h => ?_)
  refine g_aload_n dX10_init_47 rfl 0 rfl ?_
  refine g_iconst (v := (-1)) dX10_init_48 (by decide) ?_
  refine g_wF fl_X10_34 dX10_init_49 (rfl) rfl h (fun ω h => ?_)
  refine g_nwO cl_X2 wd_193 wd_194 wd_114 dX10_init_52 df_X2 (by decide) (by decide) h (fun a5 ω n h => ?_)
  refine G.less (B' := (208, 5637)) (by decide) (by decide) ?_
  refine g_dup dX10_init_55 rfl ?_
  refine g_iconst (v := 0) dX10_init_56 (by decide) ?_
  refine g_iconst (v := 0) dX10_init_57 (by decide) ?_
  refine g_iconst (v := 0) dX10_init_58 (by decide) ?_
  refine g_nwA (t0 := 0) (N' := 0) dX10_init_59 rfl wd_175 rfl (fun _ q => q) (fun _ => rfl) (by decide) (by decide) (by decide) (by decide) (by decide) h (fun a6 ω n h => ?_)
  refine G.less (B' := (207, 5637)) (by decide) (by decide) ?_
  refine g_iconst (v := 0) dX10_init_61 (by decide) ?_
  refine g_nwA (t0 := 0) (N' := 0) dX10_init_62 rfl wd_175 rfl (fun _ q => q) (fun _ => rfl) (by decide) (by decide) (by decide) (by decide) (by decide) h (fun a7 ω n h => ?_)
  refine G.less (B' := (206, 5637)) (by decide) (by decide) ?_
  refine g_iconst (v := 1) dX10_init_64 (by decide) ?_
  refine g_nwA (t0 := 0) (N' := 1) dX10_init_65 rfl wd_175 rfl (fun _ q => q) (fun _ => rfl) (by decide) (by decide) (by decide) (by decide) (by decide) h (fun a8 ω n h => ?_)
  refine G.less (B' := (205, 5636)) (by decide) (by decide) ?_
  refine g_iconst (v := 0) dX10_init_67 (by decide) ?_
  refine g_nwA (t0 := 0) (N' := 0) dX10_init_68 rfl wd_175 rfl (fun _ q => q) (fun _ => rfl) (by decide) (by decide) (by decide) (by decide) (by decide) h (fun a9 ω n h => ?_)
  refine G.less (B' := (204, 5636)) (by decide) (by decide) ?_
  refine g_cC (As := [.int 0, .int 0, .ref a6, .ref a7, .ref a8, .ref a9]) mi_X10_40 dX10_init_70 (ok_X2_init Θ a5 0 0 a6 a7 a8 a9 _ _) rfl rfl (Nat.le_of_ble_eq_true rfl) (by decide) (by decide) (by decide) h (fun ω n h => ?_)
  refine G.less (B' := (204, 5636)) (by decide) (by decide) ?_
  refine g_astore_n (lv' := [(1, .ref a5), (0, .ref l0)]) dX10_init_73 rfl (by decide) rfl ?_
  refine g_aload_n dX10_init_74 rfl 1 rfl ?_
  refine g_nwO cl_X0 wd_220 wd_221 wd_115 dX10_init_75 df_X0 (by decide) (by decide) h (fun a10 ω n h => ?_)
  refine G.less (B' := (203, 5618)) (by decide) (by decide) ?_
  refine g_dup dX10_init_78 rfl ?_
  refine g_aload_n dX10_init_79 rfl 0 rfl ?_
  refine g_cC (As := [.ref a5]) mi_X10_45 dX10_init_80 (ok_X0_init Θ a10 a5 _ _) rfl rfl (Nat.le_of_ble_eq_true rfl) (by decide) (by decide) (by decide) h (fun ω n h => ?_)
  refine G.less (B' := (192, 5309)) (by decide) (by decide) ?_
  refine g_wFF fl_X10_48 rfl (fun C T N q => by cases q; rfl) dX10_init_83 rfl rfl h (fun ω h => ?_)
  refine g_aload_n dX10_init_86 rfl 1 rfl ?_
  refine g_nwO cl_X0 wd_220 wd_221 wd_115 dX10_init_87 df_X0 (by decide) (by decide) h (fun a11 ω n h => ?_)
  refine G.less (B' := (191, 5291)) (by decide) (by decide) ?_
  refine g_dup dX10_init_90 rfl ?_
  refine g_aload_n dX10_init_91 rfl 0 rfl ?_
  refine g_cC (As := [.ref a5]) mi_X10_45 dX10_init_92 (ok_X0_init Θ a11 a5 _ _) rfl rfl (Nat.le_of_ble_eq_true rfl) (by decide) (by decide) (by decide) h (fun ω n h => ?_)
  refine G.less (B' := (180, 4982)) (by decide) (by decide) ?_
  refine g_wFF fl_X10_52 rfl (fun C T N q => by cases q; rfl) dX10_init_95 rfl rfl h (fun ω h => ?_)
  refine g_aload_n dX10_init_98 rfl 1 rfl ?_
  refine g_nwO cl_X0 wd_220 wd_221 wd_115 dX10_init_99 df_X0 (by decide) (by decide) h (fun a12 ω n h => ?_)
  refine G.less (B' := (179, 4964)) (by decide) (by decide) ?_
  refine g_dup dX10_init_102 rfl ?_
  refine g_aload_n dX10_init_103 rfl 0 rfl ?_
  refine g_cC (As := [.ref a5]) mi_X10_45 dX10_init_104 (ok_X0_init Θ a12 a5 _ _) rfl rfl (Nat.le_of_ble_eq_true rfl) (by decide) (by decide) (by decide) h (fun ω n h => ?_)
  refine G.less (B' := (168, 4655)) (by decide) (by decide) ?_
  refine g_wFF fl_X10_55 rfl (fun C T N q => by cases q; rfl) dX10_init_107 rfl rfl h (fun ω h => ?_)
  refine g_aload_n dX10_init_110 rfl 1 rfl ?_
  refine g_nwO cl_X5 wd_344 wd_345 wd_118 dX10_init_111 df_X5 (by decide) (by decide) h (fun a13 ω n h => ?_)
  refine G.less (B' := (167, 4652)) (by decide) (by decide) ?_
  refine g_dup dX10_init_114 rfl ?_
  refine g_aload_n dX10_init_115 rfl 0 rfl ?_
  refine g_cC (As := [.ref a5]) mi_X10_60 dX10_init_116 (ok_X5_init Θ a13 a5 _ _) rfl rfl (Nat.le_of_ble_eq_true rfl) (by decide) (by decide) (by decide) h (fun ω n h => ?_)
  refine G.less (B' := (22, 716)) (by decide) (by decide) ?_
  refine g_wFF fl_X10_61 rfl (fun C T N q => by cases q; rfl) dX10_init_119 rfl rfl h (fun ω h => ?_)
  refine g_aload_n dX10_init_122 rfl 1 rfl ?_
  refine g_nwO cl_X1 wd_364 wd_365 wd_119 dX10_init_123 df_X1 (by decide) (by decide) h (fun a14 ω n h => ?_)
  refine G.less (B' := (21, 714)) (by decide) (by decide) ?_
  refine g_dup dX10_init_126 rfl ?_
  refine g_aload_n dX10_init_127 rfl 1 rfl ?_
  refine g_rA fl_X10_16 dX10_init_128 h (fun a15 h => ?_)
  refine g_aload_n dX10_init_131 rfl 1 rfl ?_
  refine g_rA fl_X10_52 dX10_init_132 h (fun a16 h => ?_)
  refine g_cC (As := [.ref a15, .ref a16]) mi_X10_67 dX10_init_135 (ok_X1_init Θ a14 a15 a16 _ _) rfl rfl (Nat.le_of_ble_eq_true rfl) (by decide) (by decide) (by decide) h (fun ω n h => ?_)
  refine G.less (B' := (21, 714)) (by decide) (by decide) ?_
  refine g_wFF fl_X10_70 rfl (fun C T N q => by cases q; rfl) dX10_init_138 rfl rfl h (fun ω h => ?_)
  refine g_aload_n dX10_init_141 rfl 1 rfl ?_
  refine g_nwO cl_X3 wd_377 wd_378 wd_120 dX10_init_142 df_X3 (by decide) (by decide) h (fun a17 ω n h => ?_)
  refine G.less (B' := (20, 707)) (by decide) (by decide) ?_
  refine g_dup dX10_init_145 rfl ?_
  refine g_aload_n dX10_init_146 rfl 1 rfl ?_
  refine g_rA fl_X10_16 dX10_init_147 h (fun a18 h => ?_)
  refine g_cC (As := [.ref a18]) mi_X10_76 dX10_init_150 (ok_X3_init Θ a17 a18 _ _) rfl rfl (Nat.le_of_ble_eq_true rfl) (by decide) (by decide) (by decide) h (fun ω n h => ?_)
  refine G.less (B' := (16, 262)) (by decide) (by decide) ?_
  refine g_wFF fl_X10_79 rfl (fun C T N q => by cases q; rfl) dX10_init_153 rfl rfl h (fun ω h => ?_)
  refine g_aload_n dX10_init_156 rfl 1 rfl ?_
  refine g_nwO cl_X6 wd_405 wd_406 wd_121 dX10_init_157 df_X6 (by decide) (by decide) h (fun a19 ω n h => ?_)
  refine G.less (B' := (15, 247)) (by decide) (by decide) ?_
  refine g_dup dX10_init_160 rfl ?_
  refine g_aload_n dX10_init_161 rfl 1 rfl ?_
  refine g_rA fl_X10_48 dX10_init_162 h (fun a20 h => ?_)
  refine g_cC (As := [.ref a20]) mi_X10_85 dX10_init_165 (ok_X6_init Θ a19 a20 _ _) rfl rfl (Nat.le_of_ble_eq_true rfl) (by decide) (by decide) (by decide) h (fun ω n h => ?_)
  refine G.less (B' := (10, 201)) (by decide) (by decide) ?_
  refine g_wFF fl_X10_88 rfl (fun C T N q => by cases q; rfl) dX10_init_168 rfl rfl h (fun ω h => ?_)
  refine g_aload_n dX10_init_171 rfl 1 rfl ?_
  refine g_nwO cl_X6 wd_405 wd_406 wd_121 dX10_init_172 df_X6 (by decide) (by decide) h (fun a21 ω n h => ?_)
  refine G.less (B' := (9, 186)) (by decide) (by decide) ?_
  refine g_dup dX10_init_175 rfl ?_
  refine g_aload_n dX10_init_176 rfl 1 rfl ?_
  refine g_rA fl_X10_48 dX10_init_177 h (fun a22 h => ?_)
  refine g_cC (As := [.ref a22]) mi_X10_85 dX10_init_180 (ok_X6_init Θ a21 a22 _ _) rfl rfl (Nat.le_of_ble_eq_true rfl) (by decide) (by decide) (by decide) h (fun ω n h => ?_)
  refine G.less (B' := (4, 140)) (by decide) (by decide) ?_
  refine g_wFF fl_X10_92 rfl (fun C T N q => by cases q; rfl) dX10_init_183 rfl rfl h (fun ω h => ?_)
  refine g_aload_n dX10_init_186 rfl 1 rfl ?_
  refine g_nwO cl_X9 wd_470 wd_471 wd_122 dX10_init_187 df_X9 (by decide) (by decide) h (fun a23 ω n h => ?_)
  refine G.less (B' := (3, 132)) (by decide) (by decide) ?_
  refine g_dup dX10_init_190 rfl ?_
  refine g_aload_n dX10_init_191 rfl 1 rfl ?_
  refine g_rA fl_X10_48 dX10_init_192 h (fun a24 h => ?_)
  refine g_aload_n dX10_init_195 rfl 1 rfl ?_
  refine g_rA fl_X10_88 dX10_init_196 h (fun a25 h => ?_)
  refine g_cC (As := [.ref a24, .ref a25]) mi_X10_97 dX10_init_199 (ok_X9_init Θ a23 a24 a25 _ _) rfl rfl (Nat.le_of_ble_eq_true rfl) (by decide) (by decide) (by decide) h (fun ω n h => ?_)
  refine G.less (B' := (0, 0)) (by decide) (by decide) ?_
  refine g_wFF fl_X10_100 rfl (fun C T N q => by cases q; rfl) dX10_init_202 rfl rfl h (fun ω h => ?_)
  cases h
  exact g_vret rfl dX10_init_205 rfl
