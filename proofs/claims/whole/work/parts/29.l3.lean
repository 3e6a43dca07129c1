/-! From the law's entry: what stands outside the world, the makings, the loop; what is left is a matter of functions alone: PureAll. -/
def fsX10 : List Value := [.null, .null, .null, .int 0, .null, .null, .null, .null, .null, .null, .null, .null, .null, .null, .int 0]
def fsX11 : List Value := [.int 0, .null, .null, .null, .null, .null, .int 0, .int 0, .null, .int 0, .int 0, .int 0, .int 0, .int 0, .int 0, .null, .int 0, .null, .int 0, .int 0, .int 0, .int 0, .int 0, .int 0, .int 0, .null, .null, .null, .int 0, .int 0, .int 0, .int 0, .int 0, .null, .null, .null, .int 0, .null]
def ωx (x : Nat) : OW := g_upd (fun _ => none) x (.inr (10, fsX10))
def ωm (ω : OW) (m : Nat) : OW := g_upd ω m (.inr (11, fsX11))
def ωo (Θ : GP) (ω : OW) (o : Nat) : OW := g_upd ω o (.inl (gJ Θ, 1, .inr (.inl (fun _ => 0))))
/-- all that is left: the makings come to an end, and what they leave has an invariant under which class and reference do alike at every call -/
def PureAll : Prop := ∀ Θ : GP, gOK Θ → ∃ (Inv : OW → Prop) (ω2 : OW) (n2 : Nat) (ω4 : OW) (n4 : Nat), F_X10_init Θ (gb Θ) (ωx (gb Θ)) (gb Θ + 1) = some (.inl (none, ω2, n2)) ∧ F_X11_init Θ n2 (ωm ω2 n2) (n2 + 1) = some (.inl (none, ω4, n4)) ∧ Inv (ωo Θ ω4 n4) ∧ PC Θ (gb Θ) n2 n4 Inv
theorem lw_go {Θ : GP} {b L : Nat} {xs : Nat → Int32} {tab : List ExceptionTableEntry} {Qx : String → OW → Nat → Prop} (hX : gX Θ = some (b, L, xs)) (hL : L ≤ 3072) {Inv : OW → Prop} {ω2 ω4 : OW} {n2 n4 : Nat} (e1 : F_X10_init Θ (gb Θ) (ωx (gb Θ)) (gb Θ + 1) = some (.inl (none, ω2, n2))) (e2 : F_X11_init Θ n2 (ωm ω2 n2) (n2 + 1) = some (.inl (none, ω4, n4))) (hI : Inv (ωo Θ ω4 n4)) (hp : PC Θ (gb Θ) n2 n4 Inv) : G Θ yL_law_ cL_law_ 7 (some .boolean) 1000 tab (fun v _ _ => v = some (.int 1)) Qx (5000, 1200000) 0 [(0, .ref b)] [] (fun _ => none) (gb Θ) := by
  refine g_new (fs := fsX10) cl_X10 wd_139 wd_140 wd_111 dL_law__0 df_X10 (by decide) (by decide) ?_
  refine g_dup dL_law__3 rfl ?_
  refine g_callI (As := []) mi_L_116 dL_law__4 rfl rfl (Nat.le_of_ble_eq_true rfl) ((ok_X10_init Θ (gb Θ) _ _ _ e1).post (fun _ _ _ h => h) (fun E ω' n' h => by cases h)) (by decide) (by decide) (by decide) ?_
  intro v ω' n' hv
  cases hv
  refine g_astore_n (lv' := [(1, .ref (gb Θ)), (0, .ref b)]) dL_law__7 rfl (by decide) rfl ?_
  refine g_new (fs := fsX11) cl_X11 wd_1407 wd_1408 wd_123 dL_law__8 df_X11 (by decide) (by decide) ?_
  refine g_dup dL_law__11 rfl ?_
  refine g_callI (As := []) mi_L_119 dL_law__12 rfl rfl (Nat.le_of_ble_eq_true rfl) ((ok_X11_init Θ n2 _ _ _ e2).post (fun _ _ _ h => h) (fun E ω' n' h => by cases h)) (by decide) (by decide) (by decide) ?_
  intro v ω' n' hv
  cases hv
  refine g_astore_n (lv' := [(2, .ref n2), (1, .ref (gb Θ)), (0, .ref b)]) dL_law__15 rfl (by decide) rfl ?_
  refine g_iconst (v := 1) dL_law__16 (by decide) ?_
  refine g_newarr (t0 := 3) (N' := 1) (a0 := (1, .inr (.inl (fun _ => 0)))) dL_law__17 rfl wd_2119 rfl (fun _ q => q) (fun _ => rfl) (by decide) (by decide) (by decide) (by decide) (by decide) ?_
  refine g_astore_n (lv' := [(3, .ref n4), (2, .ref n2), (1, .ref (gb Θ)), (0, .ref b)]) dL_law__19 rfl (by decide) rfl ?_
  refine g_iconst (v := 0) dL_law__20 (by decide) ?_
  refine g_istore (lv' := [(4, .int 0), (3, .ref n4), (2, .ref n2), (1, .ref (gb Θ)), (0, .ref b)]) dL_law__21 (by decide) rfl ?_
  refine G.lsub [4, 3, 2, 1, 0] rfl ?_
  refine G.less (B' := (8 * 512, 2100 * 512)) (by decide) (by decide) ?_
  exact lloop Θ hX hL hp 512 0 (by omega) (Nat.zero_le _) _ _ hI
