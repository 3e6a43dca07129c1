def PC_0 (Θ : GP) (x m o : Nat) (Inv : OW → Prop) : Prop := ∀ (ω : OW) (xs : Nat → Int32) (i : Nat), Inv ω → stI x m (fun ω n => F_X10_feed Θ x (xs (i + 1)) (xs (i + 2)) (xs (i + 3)) (xs (i + 4)) (xs (i + 5)) ω n) (fun ω n => F_X11_feed Θ m (xs (i + 1)) (xs (i + 2)) (xs (i + 3)) (xs (i + 4)) (xs (i + 5)) ω n) Inv ω
def PC_1 (Θ : GP) (x m o : Nat) (Inv : OW → Prop) : Prop := ∀ (ω : OW) (xs : Nat → Int32) (i : Nat), Inv ω → stI x m (fun ω n => F_X10_end Θ x (xs (i + 1)) ω n) (fun ω n => F_X11_end Θ m (xs (i + 1)) ω n) Inv ω
def PC_2 (Θ : GP) (x m o : Nat) (Inv : OW → Prop) : Prop := ∀ (ω : OW) (xs : Nat → Int32) (i : Nat), Inv ω → stW Θ m o (fun ω n => W_court Θ x o ω n) (fun ω n => F_X11_court Θ m ω n) Inv ω
def PC_3 (Θ : GP) (x m o : Nat) (Inv : OW → Prop) : Prop := ∀ (ω : OW) (xs : Nat → Int32) (i : Nat), Inv ω → stW Θ m o (fun ω n => W_law Θ x o ω n) (fun ω n => F_X11_law Θ m ω n) Inv ω
def PC_4 (Θ : GP) (x m o : Nat) (Inv : OW → Prop) : Prop := ∀ (ω : OW) (xs : Nat → Int32) (i : Nat), Inv ω → stI x m (fun ω n => F_X10_fault Θ x ω n) (fun ω n => F_X11_fault Θ m ω n) Inv ω
def PC_5 (Θ : GP) (x m o : Nat) (Inv : OW → Prop) : Prop := ∀ (ω : OW) (xs : Nat → Int32) (i : Nat), Inv ω → stW Θ m o (fun ω n => W_prop Θ x (xs (i + 1)) (xs (i + 2)) o ω n) (fun ω n => F_X11_prop Θ m (xs (i + 1)) (xs (i + 2)) ω n) Inv ω
def PC_6 (Θ : GP) (x m o : Nat) (Inv : OW → Prop) : Prop := ∀ (ω : OW) (xs : Nat → Int32) (i : Nat), Inv ω → stW Θ m o (fun ω n => W_slot Θ x (xs (i + 1)) o ω n) (fun ω n => F_X11_slot Θ m (xs (i + 1)) ω n) Inv ω
def PC_7 (Θ : GP) (x m o : Nat) (Inv : OW → Prop) : Prop := ∀ (ω : OW) (xs : Nat → Int32) (i : Nat), Inv ω → stW Θ m o (fun ω n => W_accused Θ x (xs (i + 1)) (xs (i + 2)) o ω n) (fun ω n => F_X11_accused Θ m (xs (i + 1)) (xs (i + 2)) ω n) Inv ω
def PC_8 (Θ : GP) (x m o : Nat) (Inv : OW → Prop) : Prop := ∀ (ω : OW) (xs : Nat → Int32) (i : Nat), Inv ω → stW Θ m o (fun ω n => W_fright Θ x (xs (i + 1)) (xs (i + 2)) (xs (i + 3)) (bI (xs (i + 4))) o ω n) (fun ω n => F_X11_fright Θ m (xs (i + 1)) (xs (i + 2)) (xs (i + 3)) (bI (xs (i + 4))) ω n) Inv ω
def PC_9 (Θ : GP) (x m o : Nat) (Inv : OW → Prop) : Prop := ∀ (ω : OW) (xs : Nat → Int32) (i : Nat), Inv ω → stW Θ m o (fun ω n => W_send Θ x (xs (i + 1)) o ω n) (fun ω n => F_X11_send Θ m (xs (i + 1)) ω n) Inv ω
def PC_10 (Θ : GP) (x m o : Nat) (Inv : OW → Prop) : Prop := ∀ (ω : OW) (xs : Nat → Int32) (i : Nat), Inv ω → stU Θ m (fun ω n => W_nail Θ x (xs (i + 1)) (xs (i + 2)) ω n) (fun ω n => F_X11_nail Θ m (xs (i + 1)) (xs (i + 2)) ω n) Inv ω
def PC_11 (Θ : GP) (x m o : Nat) (Inv : OW → Prop) : Prop := ∀ (ω : OW) (xs : Nat → Int32) (i : Nat), Inv ω → stW Θ m o (fun ω n => W_down Θ x (xs (i + 1)) o ω n) (fun ω n => F_X11_down Θ m (xs (i + 1)) ω n) Inv ω
def PC_12 (Θ : GP) (x m o : Nat) (Inv : OW → Prop) : Prop := ∀ (ω : OW) (xs : Nat → Int32) (i : Nat), Inv ω → stW Θ m o (fun ω n => W_mend Θ x (xs (i + 1)) o ω n) (fun ω n => F_X11_mend Θ m (xs (i + 1)) ω n) Inv ω
def PC_13 (Θ : GP) (x m o : Nat) (Inv : OW → Prop) : Prop := ∀ (ω : OW) (xs : Nat → Int32) (i : Nat), Inv ω → stU Θ m (fun ω n => W_recall Θ x (xs (i + 1)) ω n) (fun ω n => F_X11_recall Θ m (xs (i + 1)) ω n) Inv ω
def PC_14 (Θ : GP) (x m o : Nat) (Inv : OW → Prop) : Prop := ∀ (ω : OW) (xs : Nat → Int32) (i : Nat), Inv ω → stW Θ m o (fun ω n => W_inside Θ x (xs (i + 1)) o ω n) (fun ω n => F_X11_inside Θ m (xs (i + 1)) ω n) Inv ω
def PC_15 (Θ : GP) (x m o : Nat) (Inv : OW → Prop) : Prop := ∀ (ω : OW) (xs : Nat → Int32) (i : Nat), Inv ω → stW Θ m o (fun ω n => W_calm Θ x (xs (i + 1)) o ω n) (fun ω n => F_X11_calm Θ m (xs (i + 1)) ω n) Inv ω
def PC_16 (Θ : GP) (x m o : Nat) (Inv : OW → Prop) : Prop := ∀ (ω : OW) (xs : Nat → Int32) (i : Nat), Inv ω → stW Θ m o (fun ω n => W_mornings Θ x (xs (i + 1)) o ω n) (fun ω n => F_X11_mornings Θ m (xs (i + 1)) ω n) Inv ω
def PC_17 (Θ : GP) (x m o : Nat) (Inv : OW → Prop) : Prop := ∀ (ω : OW) (xs : Nat → Int32) (i : Nat), Inv ω → stW Θ m o (fun ω n => W_straight Θ x (xs (i + 1)) o ω n) (fun ω n => F_X11_straight Θ m (xs (i + 1)) ω n) Inv ω
def PC_18 (Θ : GP) (x m o : Nat) (Inv : OW → Prop) : Prop := ∀ (ω : OW) (xs : Nat → Int32) (i : Nat), Inv ω → stW Θ m o (fun ω n => W_tense Θ x (xs (i + 1)) (xs (i + 2)) o ω n) (fun ω n => F_X11_tense Θ m (xs (i + 1)) (xs (i + 2)) ω n) Inv ω
def PC_19 (Θ : GP) (x m o : Nat) (Inv : OW → Prop) : Prop := ∀ (ω : OW) (xs : Nat → Int32) (i : Nat), Inv ω → stW Θ m o (fun ω n => W_ways Θ x (xs (i + 1)) o ω n) (fun ω n => F_X11_ways Θ m (xs (i + 1)) ω n) Inv ω
def PC_20 (Θ : GP) (x m o : Nat) (Inv : OW → Prop) : Prop := ∀ (ω : OW) (xs : Nat → Int32) (i : Nat), Inv ω → stW Θ m o (fun ω n => W_at Θ x (xs (i + 1)) (xs (i + 2)) o ω n) (fun ω n => F_X11_at Θ m (xs (i + 1)) (xs (i + 2)) ω n) Inv ω
def PC_21 (Θ : GP) (x m o : Nat) (Inv : OW → Prop) : Prop := ∀ (ω : OW) (xs : Nat → Int32) (i : Nat), Inv ω → stW Θ m o (fun ω n => W_odds Θ x (xs (i + 1)) o ω n) (fun ω n => F_X11_odds Θ m (xs (i + 1)) ω n) Inv ω
def PC_22 (Θ : GP) (x m o : Nat) (Inv : OW → Prop) : Prop := ∀ (ω : OW) (xs : Nat → Int32) (i : Nat), Inv ω → stI x m (fun ω n => F_X10_gap Θ x ω n) (fun ω n => F_X11_gap Θ m ω n) Inv ω
def PC_23 (Θ : GP) (x m o : Nat) (Inv : OW → Prop) : Prop := ∀ (ω : OW) (xs : Nat → Int32) (i : Nat), Inv ω → stI x m (fun ω n => F_X10_errors Θ x (bI (xs (i + 1))) ω n) (fun ω n => F_X11_errors Θ m (bI (xs (i + 1))) ω n) Inv ω
def PC_24 (Θ : GP) (x m o : Nat) (Inv : OW → Prop) : Prop := ∀ (ω : OW) (xs : Nat → Int32) (i : Nat), Inv ω → stI x m (fun ω n => F_X10_swap Θ x ω n) (fun ω n => F_X11_swap Θ m ω n) Inv ω
def PC_25 (Θ : GP) (x m o : Nat) (Inv : OW → Prop) : Prop := ∀ (ω : OW) (xs : Nat → Int32) (i : Nat), Inv ω → stI x m (fun ω n => F_X10_next Θ x ω n) (fun ω n => F_X11_next Θ m ω n) Inv ω
def PC_26 (Θ : GP) (x m o : Nat) (Inv : OW → Prop) : Prop := ∀ (ω : OW) (xs : Nat → Int32) (i : Nat), Inv ω → stW Θ m o (fun ω n => W_found Θ x (xs (i + 1)) (bI (xs (i + 2))) o ω n) (fun ω n => F_X11_found Θ m (xs (i + 1)) (bI (xs (i + 2))) ω n) Inv ω
def PC_27 (Θ : GP) (x m o : Nat) (Inv : OW → Prop) : Prop := ∀ (ω : OW) (xs : Nat → Int32) (i : Nat), Inv ω → stW Θ m o (fun ω n => W_ask Θ x (xs (i + 1)) o ω n) (fun ω n => F_X11_ask Θ m (xs (i + 1)) ω n) Inv ω
def PC_28 (Θ : GP) (x m o : Nat) (Inv : OW → Prop) : Prop := ∀ (ω : OW) (xs : Nat → Int32) (i : Nat), Inv ω → stW Θ m o (fun ω n => W_car Θ x (xs (i + 1)) (xs (i + 2)) o ω n) (fun ω n => F_X11_car Θ m (xs (i + 1)) (xs (i + 2)) ω n) Inv ω
def PC_29 (Θ : GP) (x m o : Nat) (Inv : OW → Prop) : Prop := ∀ (ω : OW) (xs : Nat → Int32) (i : Nat), Inv ω → stW Θ m o (fun ω n => W_corners Θ x (xs (i + 1)) o ω n) (fun ω n => F_X11_corners Θ m (xs (i + 1)) ω n) Inv ω
def PC_30 (Θ : GP) (x m o : Nat) (Inv : OW → Prop) : Prop := ∀ (ω : OW) (xs : Nat → Int32) (i : Nat), Inv ω → stI x m (fun ω n => F_X10_cover Θ x ω n) (fun ω n => F_X11_cover Θ m ω n) Inv ω
def PC_31 (Θ : GP) (x m o : Nat) (Inv : OW → Prop) : Prop := ∀ (ω : OW) (xs : Nat → Int32) (i : Nat), Inv ω → stI x m (fun ω n => F_X10_leave Θ x ω n) (fun ω n => F_X11_leave Θ m ω n) Inv ω
def PC_32 (Θ : GP) (x m o : Nat) (Inv : OW → Prop) : Prop := ∀ (ω : OW) (xs : Nat → Int32) (i : Nat), Inv ω → stI x m (fun ω n => F_X10_bravest Θ x ω n) (fun ω n => F_X11_bravest Θ m ω n) Inv ω
def PC_33 (Θ : GP) (x m o : Nat) (Inv : OW → Prop) : Prop := ∀ (ω : OW) (xs : Nat → Int32) (i : Nat), Inv ω → stI x m (fun ω n => F_X10_alike Θ x ω n) (fun ω n => F_X11_alike Θ m ω n) Inv ω
def PC_34 (Θ : GP) (x m o : Nat) (Inv : OW → Prop) : Prop := ∀ (ω : OW) (xs : Nat → Int32) (i : Nat), Inv ω → stW Θ m o (fun ω n => W_usher Θ x (xs (i + 1)) o ω n) (fun ω n => F_X11_usher Θ m (xs (i + 1)) ω n) Inv ω
def PC_35 (Θ : GP) (x m o : Nat) (Inv : OW → Prop) : Prop := ∀ (ω : OW) (xs : Nat → Int32) (i : Nat), Inv ω → stW Θ m o (fun ω n => W_lasts Θ x (xs (i + 1)) (xs (i + 2)) o ω n) (fun ω n => F_X11_lasts Θ m (xs (i + 1)) (xs (i + 2)) ω n) Inv ω
def PC_36 (Θ : GP) (x m o : Nat) (Inv : OW → Prop) : Prop := ∀ (ω : OW) (xs : Nat → Int32) (i : Nat), Inv ω → stI x m (fun ω n => F_X10_all Θ x (bI (xs (i + 1))) ω n) (fun ω n => F_X11_all Θ m (bI (xs (i + 1))) ω n) Inv ω
def PC_37 (Θ : GP) (x m o : Nat) (Inv : OW → Prop) : Prop := ∀ (ω : OW) (xs : Nat → Int32) (i : Nat), Inv ω → stW Θ m o (fun ω n => W_share Θ x (xs (i + 1)) (xs (i + 2)) o ω n) (fun ω n => F_X11_share Θ m (xs (i + 1)) (xs (i + 2)) ω n) Inv ω
def PC_38 (Θ : GP) (x m o : Nat) (Inv : OW → Prop) : Prop := ∀ (ω : OW) (xs : Nat → Int32) (i : Nat), Inv ω → stI x m (fun ω n => F_X10_loudest Θ x ω n) (fun ω n => F_X11_loudest Θ m ω n) Inv ω
def PC_39 (Θ : GP) (x m o : Nat) (Inv : OW → Prop) : Prop := ∀ (ω : OW) (xs : Nat → Int32) (i : Nat), Inv ω → stW Θ m o (fun ω n => W_trial Θ x (xs (i + 1)) o ω n) (fun ω n => F_X11_trial Θ m (xs (i + 1)) ω n) Inv ω
def PC_40 (Θ : GP) (x m o : Nat) (Inv : OW → Prop) : Prop := ∀ (ω : OW) (xs : Nat → Int32) (i : Nat), Inv ω → stW Θ m o (fun ω n => W_span Θ x (xs (i + 1)) (bI (xs (i + 2))) o ω n) (fun ω n => F_X11_span Θ m (xs (i + 1)) (bI (xs (i + 2))) ω n) Inv ω
def PC_41 (Θ : GP) (x m o : Nat) (Inv : OW → Prop) : Prop := ∀ (ω : OW) (xs : Nat → Int32) (i : Nat), Inv ω → stW Θ m o (fun ω n => W_led Θ x (xs (i + 1)) (bI (xs (i + 2))) o ω n) (fun ω n => F_X11_led Θ m (xs (i + 1)) (bI (xs (i + 2))) ω n) Inv ω
def PC_42 (Θ : GP) (x m o : Nat) (Inv : OW → Prop) : Prop := ∀ (ω : OW) (xs : Nat → Int32) (i : Nat), Inv ω → stW Θ m o (fun ω n => W_log Θ x (xs (i + 1)) (xs (i + 2)) o ω n) (fun ω n => F_X11_log Θ m (xs (i + 1)) (xs (i + 2)) ω n) Inv ω
def PC_43 (Θ : GP) (x m o : Nat) (Inv : OW → Prop) : Prop := ∀ (ω : OW) (xs : Nat → Int32) (i : Nat), Inv ω → stI x m (fun ω n => F_X10_seed Θ x (xs (i + 1)) ω n) (fun ω n => F_X11_seed Θ m (xs (i + 1)) ω n) Inv ω
def PC_44 (Θ : GP) (x m o : Nat) (Inv : OW → Prop) : Prop := ∀ (ω : OW) (xs : Nat → Int32) (i : Nat), Inv ω → stI x m (fun ω n => F_X10_undo Θ x ω n) (fun ω n => F_X11_undo Θ m ω n) Inv ω
def PC_45 (Θ : GP) (x m o : Nat) (Inv : OW → Prop) : Prop := ∀ (ω : OW) (xs : Nat → Int32) (i : Nat), Inv ω → stV x m (fun ω n => F_X10_image Θ x ω n) (fun ω n => F_X11_image Θ m ω n) Inv ω
def PC_46 (Θ : GP) (x m o : Nat) (Inv : OW → Prop) : Prop := ∀ (ω : OW) (xs : Nat → Int32) (i : Nat), Inv ω → stI x m (fun ω n => F_X10_back Θ x ω n) (fun ω n => F_X11_back Θ m ω n) Inv ω
def PC_47 (Θ : GP) (x m o : Nat) (Inv : OW → Prop) : Prop := ∀ (ω : OW) (xs : Nat → Int32) (i : Nat), Inv ω → stI x m (fun ω n => F_X10_count Θ x (xs (i + 1)) ω n) (fun ω n => F_X11_count Θ m (xs (i + 1)) ω n) Inv ω
theorem lc_0 (Θ : GP) {b L : Nat} {xs : Nat → Int32} (hX : gX Θ = some (b, L, xs)) (hL : L ≤ 3072) {x m o i : Nat} (hi : i + 6 ≤ L) {tab : List ExceptionTableEntry} {Qv : Option Value → OW → Nat → Prop} {Qx : String → OW → Nat → Prop} {B : Nat × Nat} (hB1 : 8 ≤ B.1) (hB2 : 2100 ≤ B.2) {Inv : OW → Prop} {ω : OW} {n : Nat} (h : stI x m (fun ω n => F_X10_feed Θ x (xs (i + 1)) (xs (i + 2)) (xs (i + 3)) (xs (i + 4)) (xs (i + 5)) ω n) (fun ω n => F_X11_feed Θ m (xs (i + 1)) (xs (i + 2)) (xs (i + 3)) (xs (i + 4)) (xs (i + 5)) ω n) Inv ω) (K : ∀ ω' n', Inv ω' → G Θ yL_law_ cL_law_ 7 (some .boolean) 1000 tab Qv Qx (B.1 - 8, B.2 - 2100) 2492 [(0, .ref b), (1, .ref x), (2, .ref m), (3, .ref o), (4, .int (nI i))] [] ω' n') : G Θ yL_law_ cL_law_ 7 (some .boolean) 1000 tab Qv Qx B 248 [(0, .ref b), (1, .ref x), (2, .ref m), (3, .ref o), (4, .int (nI i))] [] ω n := by
  refine G.fr fun hf => ?_
  obtain ⟨hx, v, ω1, n1, e1, h⟩ := h n hf
  refine g_aload_n dL_law__248 rfl 1 rfl ?_
  refine g_scr (k := 1) (j0 := 0) (j4 := 4) hX dL_law__249 dL_law__250 dL_law__252 dL_law__253 dL_law__254 rfl rfl (by decide) (by omega) (by omega) ?_
  refine g_scr (k := 2) (j0 := 0) (j4 := 4) hX dL_law__255 dL_law__256 dL_law__258 dL_law__259 dL_law__260 rfl rfl (by decide) (by omega) (by omega) ?_
  refine g_scr (k := 3) (j0 := 0) (j4 := 4) hX dL_law__261 dL_law__262 dL_law__264 dL_law__265 dL_law__266 rfl rfl (by decide) (by omega) (by omega) ?_
  refine g_scr (k := 4) (j0 := 0) (j4 := 4) hX dL_law__267 dL_law__268 dL_law__270 dL_law__271 dL_law__272 rfl rfl (by decide) (by omega) (by omega) ?_
  refine g_scr (k := 5) (j0 := 0) (j4 := 4) hX dL_law__273 dL_law__274 dL_law__276 dL_law__277 dL_law__278 rfl rfl (by decide) (by omega) (by omega) ?_
  refine g_cvI (ci := 10) (As := [.int (xs (i + 1)), .int (xs (i + 2)), .int (xs (i + 3)), .int (xs (i + 4)), .int (xs (i + 5))]) mv_L_120 dL_law__279 rfl hx rfl rfl (Nat.le_of_ble_eq_true rfl) (ok_X10_feed Θ x (xs (i + 1)) (xs (i + 2)) (xs (i + 3)) (xs (i + 4)) (xs (i + 5)) _ _) e1 (by decide) (by omega) (by omega) ?_
  refine G.fr fun hf1 => ?_
  obtain ⟨hm, ω2, n3, e2, h⟩ := h _ hf1
  refine g_aload_n dL_law__282 rfl 2 rfl ?_
  refine g_scr (k := 1) (j0 := 0) (j4 := 4) hX dL_law__283 dL_law__284 dL_law__286 dL_law__287 dL_law__288 rfl rfl (by decide) (by omega) (by omega) ?_
  refine g_scr (k := 2) (j0 := 0) (j4 := 4) hX dL_law__289 dL_law__290 dL_law__292 dL_law__293 dL_law__294 rfl rfl (by decide) (by omega) (by omega) ?_
  refine g_scr (k := 3) (j0 := 0) (j4 := 4) hX dL_law__295 dL_law__296 dL_law__298 dL_law__299 dL_law__300 rfl rfl (by decide) (by omega) (by omega) ?_
  refine g_scr (k := 4) (j0 := 0) (j4 := 4) hX dL_law__301 dL_law__302 dL_law__304 dL_law__305 dL_law__306 rfl rfl (by decide) (by omega) (by omega) ?_
  refine g_scr (k := 5) (j0 := 0) (j4 := 4) hX dL_law__307 dL_law__308 dL_law__310 dL_law__311 dL_law__312 rfl rfl (by decide) (by omega) (by omega) ?_
  refine g_cvI (ci := 11) (As := [.int (xs (i + 1)), .int (xs (i + 2)), .int (xs (i + 3)), .int (xs (i + 4)), .int (xs (i + 5))]) mv_L_124 dL_law__313 rfl hm rfl rfl (Nat.le_of_ble_eq_true rfl) (ok_X11_feed Θ m (xs (i + 1)) (xs (i + 2)) (xs (i + 3)) (xs (i + 4)) (xs (i + 5)) _ _) e2 (by decide) (by show _ ≤ B.1 - _; omega) (by show _ ≤ B.2 - _; omega) ?_
  refine G.less (B' := (B.1 - 8, B.2 - 2100)) (by show B.1 - 8 ≤ B.1 - _ - _; omega) (by show B.2 - 2100 ≤ B.2 - _ - _; omega) ?_
  exact g_icmp_eq (tgt := 2492) dL_law__316 (by decide) (fun _ => K _ _ h) (fun c => absurd rfl c)
theorem lc_1 (Θ : GP) {b L : Nat} {xs : Nat → Int32} (hX : gX Θ = some (b, L, xs)) (hL : L ≤ 3072) {x m o i : Nat} (hi : i + 6 ≤ L) {tab : List ExceptionTableEntry} {Qv : Option Value → OW → Nat → Prop} {Qx : String → OW → Nat → Prop} {B : Nat × Nat} (hB1 : 8 ≤ B.1) (hB2 : 2100 ≤ B.2) {Inv : OW → Prop} {ω : OW} {n : Nat} (h : stI x m (fun ω n => F_X10_end Θ x (xs (i + 1)) ω n) (fun ω n => F_X11_end Θ m (xs (i + 1)) ω n) Inv ω) (K : ∀ ω' n', Inv ω' → G Θ yL_law_ cL_law_ 7 (some .boolean) 1000 tab Qv Qx (B.1 - 8, B.2 - 2100) 2492 [(0, .ref b), (1, .ref x), (2, .ref m), (3, .ref o), (4, .int (nI i))] [] ω' n') : G Θ yL_law_ cL_law_ 7 (some .boolean) 1000 tab Qv Qx B 321 [(0, .ref b), (1, .ref x), (2, .ref m), (3, .ref o), (4, .int (nI i))] [] ω n := by
  refine G.fr fun hf => ?_
  obtain ⟨hx, v, ω1, n1, e1, h⟩ := h n hf
  refine g_aload_n dL_law__321 rfl 1 rfl ?_
  refine g_scr (k := 1) (j0 := 0) (j4 := 4) hX dL_law__322 dL_law__323 dL_law__325 dL_law__326 dL_law__327 rfl rfl (by decide) (by omega) (by omega) ?_
  refine g_cvI (ci := 10) (As := [.int (xs (i + 1))]) mv_L_125 dL_law__328 rfl hx rfl rfl (Nat.le_of_ble_eq_true rfl) (ok_X10_end Θ x (xs (i + 1)) _ _) e1 (by decide) (by omega) (by omega) ?_
  refine G.fr fun hf1 => ?_
  obtain ⟨hm, ω2, n3, e2, h⟩ := h _ hf1
  refine g_aload_n dL_law__331 rfl 2 rfl ?_
  refine g_scr (k := 1) (j0 := 0) (j4 := 4) hX dL_law__332 dL_law__333 dL_law__335 dL_law__336 dL_law__337 rfl rfl (by decide) (by omega) (by omega) ?_
  refine g_cvI (ci := 11) (As := [.int (xs (i + 1))]) mv_L_129 dL_law__338 rfl hm rfl rfl (Nat.le_of_ble_eq_true rfl) (ok_X11_end Θ m (xs (i + 1)) _ _) e2 (by decide) (by show _ ≤ B.1 - _; omega) (by show _ ≤ B.2 - _; omega) ?_
  refine G.less (B' := (B.1 - 8, B.2 - 2100)) (by show B.1 - 8 ≤ B.1 - _ - _; omega) (by show B.2 - 2100 ≤ B.2 - _ - _; omega) ?_
  exact g_icmp_eq (tgt := 2492) dL_law__341 (by decide) (fun _ => K _ _ h) (fun c => absurd rfl c)
theorem lc_2 (Θ : GP) {b L : Nat} {xs : Nat → Int32} (hX : gX Θ = some (b, L, xs)) (hL : L ≤ 3072) {x m o i : Nat} (hi : i + 6 ≤ L) {tab : List ExceptionTableEntry} {Qv : Option Value → OW → Nat → Prop} {Qx : String → OW → Nat → Prop} {B : Nat × Nat} (hB1 : 8 ≤ B.1) (hB2 : 2100 ≤ B.2) {Inv : OW → Prop} {ω : OW} {n : Nat} (h : stW Θ m o (fun ω n => W_court Θ x o ω n) (fun ω n => F_X11_court Θ m ω n) Inv ω) (K : ∀ ω' n', Inv ω' → G Θ yL_law_ cL_law_ 7 (some .boolean) 1000 tab Qv Qx (B.1 - 8, B.2 - 2100) 2492 [(0, .ref b), (1, .ref x), (2, .ref m), (3, .ref o), (4, .int (nI i))] [] ω' n') : G Θ yL_law_ cL_law_ 7 (some .boolean) 1000 tab Qv Qx B 346 [(0, .ref b), (1, .ref x), (2, .ref m), (3, .ref o), (4, .int (nI i))] [] ω n := by
  refine G.fr fun hf => ?_
  obtain ⟨k, ω1, e1, h⟩ := h n hf
  refine g_aload_n dL_law__346 rfl 1 rfl ?_
  refine g_aload_n dL_law__347 rfl 3 rfl ?_
  refine g_cw (As := [.ref x, .ref o]) mw_130 dL_law__348 rfl rfl (Nat.le_of_ble_eq_true rfl) (okW_court Θ x o _ _ _ _ e1) (by decide) (by omega) (by omega) fun n2 => ?_
  refine G.fr fun hf1 => ?_
  obtain ⟨hm, v, ω2, n3, e2, hm2, ht, ho, h⟩ := h _ hf1
  refine g_istore (lv' := [(5, .int k), (0, .ref b), (1, .ref x), (2, .ref m), (3, .ref o), (4, .int (nI i))]) dL_law__351 (by decide) rfl ?_
  refine g_aload_n dL_law__353 rfl 3 rfl ?_
  refine g_cvI (ci := 11) (As := []) mv_L_135 dL_law__354 rfl hm rfl rfl (Nat.le_of_ble_eq_true rfl) (ok_X11_court Θ m _ _) e2 (by decide) (by show _ ≤ B.1 - _; omega) (by show _ ≤ B.2 - _; omega) ?_
  refine g_istore (lv' := [(6, .int v), (5, .int k), (0, .ref b), (1, .ref x), (2, .ref m), (3, .ref o), (4, .int (nI i))]) dL_law__357 (by decide) rfl ?_
  refine g_aload_n dL_law__359 rfl 4 rfl ?_
  refine g_cvI (ci := 11) (As := []) mv_L_136 dL_law__360 rfl hm2 rfl rfl (Nat.le_of_ble_eq_true rfl) (ok_X11_thrown Θ m _ _) (ht _) (by decide) (Nat.zero_le _) (Nat.zero_le _) ?_
  refine G.less (B' := (B.1 - 8, B.2 - 2100)) (by show B.1 - 8 ≤ B.1 - _ - _ - _; omega) (by show B.2 - 2100 ≤ B.2 - _ - _ - _; omega) ?_
  refine g_cmpW (j3 := 5) (j5 := 1) (j6 := 0) (e := 2492) dL_law__363 dL_law__365 dL_law__370 dL_law__372 dL_law__375 dL_law__376 dL_law__377 dL_law__378 dL_law__380 dL_law__381 dL_law__382 dL_law__387 rfl rfl rfl (by decide) rfl rfl rfl ho ?_
  refine G.lsub [2, 3, 4, 5, 6] rfl ?_
  exact K _ _ h
theorem lc_3 (Θ : GP) {b L : Nat} {xs : Nat → Int32} (hX : gX Θ = some (b, L, xs)) (hL : L ≤ 3072) {x m o i : Nat} (hi : i + 6 ≤ L) {tab : List ExceptionTableEntry} {Qv : Option Value → OW → Nat → Prop} {Qx : String → OW → Nat → Prop} {B : Nat × Nat} (hB1 : 8 ≤ B.1) (hB2 : 2100 ≤ B.2) {Inv : OW → Prop} {ω : OW} {n : Nat} (h : stW Θ m o (fun ω n => W_law Θ x o ω n) (fun ω n => F_X11_law Θ m ω n) Inv ω) (K : ∀ ω' n', Inv ω' → G Θ yL_law_ cL_law_ 7 (some .boolean) 1000 tab Qv Qx (B.1 - 8, B.2 - 2100) 2492 [(0, .ref b), (1, .ref x), (2, .ref m), (3, .ref o), (4, .int (nI i))] [] ω' n') : G Θ yL_law_ cL_law_ 7 (some .boolean) 1000 tab Qv Qx B 390 [(0, .ref b), (1, .ref x), (2, .ref m), (3, .ref o), (4, .int (nI i))] [] ω n := by
  refine G.fr fun hf => ?_
  obtain ⟨k, ω1, e1, h⟩ := h n hf
  refine g_aload_n dL_law__390 rfl 1 rfl ?_
  refine g_aload_n dL_law__391 rfl 3 rfl ?_
  refine g_cw (As := [.ref x, .ref o]) mw_139 dL_law__392 rfl rfl (Nat.le_of_ble_eq_true rfl) (okW_law Θ x o _ _ _ _ e1) (by decide) (by omega) (by omega) fun n2 => ?_
  refine G.fr fun hf1 => ?_
  obtain ⟨hm, v, ω2, n3, e2, hm2, ht, ho, h⟩ := h _ hf1
  refine g_istore (lv' := [(5, .int k), (0, .ref b), (1, .ref x), (2, .ref m), (3, .ref o), (4, .int (nI i))]) dL_law__395 (by decide) rfl ?_
  refine g_aload_n dL_law__397 rfl 3 rfl ?_
  refine g_cvI (ci := 11) (As := []) mv_L_141 dL_law__398 rfl hm rfl rfl (Nat.le_of_ble_eq_true rfl) (ok_X11_law Θ m _ _) e2 (by decide) (by show _ ≤ B.1 - _; omega) (by show _ ≤ B.2 - _; omega) ?_
  refine g_istore (lv' := [(6, .int v), (5, .int k), (0, .ref b), (1, .ref x), (2, .ref m), (3, .ref o), (4, .int (nI i))]) dL_law__401 (by decide) rfl ?_
  refine g_aload_n dL_law__403 rfl 4 rfl ?_
  refine g_cvI (ci := 11) (As := []) mv_L_136 dL_law__404 rfl hm2 rfl rfl (Nat.le_of_ble_eq_true rfl) (ok_X11_thrown Θ m _ _) (ht _) (by decide) (Nat.zero_le _) (Nat.zero_le _) ?_
  refine G.less (B' := (B.1 - 8, B.2 - 2100)) (by show B.1 - 8 ≤ B.1 - _ - _ - _; omega) (by show B.2 - 2100 ≤ B.2 - _ - _ - _; omega) ?_
  refine g_cmpW (j3 := 5) (j5 := 1) (j6 := 0) (e := 2492) dL_law__407 dL_law__409 dL_law__414 dL_law__416 dL_law__419 dL_law__420 dL_law__421 dL_law__422 dL_law__424 dL_law__425 dL_law__426 dL_law__431 rfl rfl rfl (by decide) rfl rfl rfl ho ?_
  refine G.lsub [2, 3, 4, 5, 6] rfl ?_
  exact K _ _ h
theorem lc_4 (Θ : GP) {b L : Nat} {xs : Nat → Int32} (hX : gX Θ = some (b, L, xs)) (hL : L ≤ 3072) {x m o i : Nat} (hi : i + 6 ≤ L) {tab : List ExceptionTableEntry} {Qv : Option Value → OW → Nat → Prop} {Qx : String → OW → Nat → Prop} {B : Nat × Nat} (hB1 : 8 ≤ B.1) (hB2 : 2100 ≤ B.2) {Inv : OW → Prop} {ω : OW} {n : Nat} (h : stI x m (fun ω n => F_X10_fault Θ x ω n) (fun ω n => F_X11_fault Θ m ω n) Inv ω) (K : ∀ ω' n', Inv ω' → G Θ yL_law_ cL_law_ 7 (some .boolean) 1000 tab Qv Qx (B.1 - 8, B.2 - 2100) 2492 [(0, .ref b), (1, .ref x), (2, .ref m), (3, .ref o), (4, .int (nI i))] [] ω' n') : G Θ yL_law_ cL_law_ 7 (some .boolean) 1000 tab Qv Qx B 434 [(0, .ref b), (1, .ref x), (2, .ref m), (3, .ref o), (4, .int (nI i))] [] ω n := by
  refine G.fr fun hf => ?_
  obtain ⟨hx, v, ω1, n1, e1, h⟩ := h n hf
  refine g_aload_n dL_law__434 rfl 1 rfl ?_
  refine g_cvI (ci := 10) (As := []) mv_L_142 dL_law__435 rfl hx rfl rfl (Nat.le_of_ble_eq_true rfl) (ok_X10_fault Θ x _ _) e1 (by decide) (by omega) (by omega) ?_
  refine G.fr fun hf1 => ?_
  obtain ⟨hm, ω2, n3, e2, h⟩ := h _ hf1
  refine g_aload_n dL_law__438 rfl 2 rfl ?_
  refine g_cvI (ci := 11) (As := []) mv_L_145 dL_law__439 rfl hm rfl rfl (Nat.le_of_ble_eq_true rfl) (ok_X11_fault Θ m _ _) e2 (by decide) (by show _ ≤ B.1 - _; omega) (by show _ ≤ B.2 - _; omega) ?_
  refine G.less (B' := (B.1 - 8, B.2 - 2100)) (by show B.1 - 8 ≤ B.1 - _ - _; omega) (by show B.2 - 2100 ≤ B.2 - _ - _; omega) ?_
  exact g_icmp_eq (tgt := 2492) dL_law__442 (by decide) (fun _ => K _ _ h) (fun c => absurd rfl c)
theorem lc_5 (Θ : GP) {b L : Nat} {xs : Nat → Int32} (hX : gX Θ = some (b, L, xs)) (hL : L ≤ 3072) {x m o i : Nat} (hi : i + 6 ≤ L) {tab : List ExceptionTableEntry} {Qv : Option Value → OW → Nat → Prop} {Qx : String → OW → Nat → Prop} {B : Nat × Nat} (hB1 : 8 ≤ B.1) (hB2 : 2100 ≤ B.2) {Inv : OW → Prop} {ω : OW} {n : Nat} (h : stW Θ m o (fun ω n => W_prop Θ x (xs (i + 1)) (xs (i + 2)) o ω n) (fun ω n => F_X11_prop Θ m (xs (i + 1)) (xs (i + 2)) ω n) Inv ω) (K : ∀ ω' n', Inv ω' → G Θ yL_law_ cL_law_ 7 (some .boolean) 1000 tab Qv Qx (B.1 - 8, B.2 - 2100) 2492 [(0, .ref b), (1, .ref x), (2, .ref m), (3, .ref o), (4, .int (nI i))] [] ω' n') : G Θ yL_law_ cL_law_ 7 (some .boolean) 1000 tab Qv Qx B 447 [(0, .ref b), (1, .ref x), (2, .ref m), (3, .ref o), (4, .int (nI i))] [] ω n := by
  refine G.fr fun hf => ?_
  obtain ⟨k, ω1, e1, h⟩ := h n hf
  refine g_aload_n dL_law__447 rfl 1 rfl ?_
  refine g_scr (k := 1) (j0 := 0) (j4 := 4) hX dL_law__448 dL_law__449 dL_law__451 dL_law__452 dL_law__453 rfl rfl (by decide) (by omega) (by omega) ?_
  refine g_scr (k := 2) (j0 := 0) (j4 := 4) hX dL_law__454 dL_law__455 dL_law__457 dL_law__458 dL_law__459 rfl rfl (by decide) (by omega) (by omega) ?_
  refine g_aload_n dL_law__460 rfl 3 rfl ?_
  refine g_cw (As := [.ref x, .int (xs (i + 1)), .int (xs (i + 2)), .ref o]) mw_146 dL_law__461 rfl rfl (Nat.le_of_ble_eq_true rfl) (okW_prop Θ x (xs (i + 1)) (xs (i + 2)) o _ _ _ _ e1) (by decide) (by omega) (by omega) fun n2 => ?_
  refine G.fr fun hf1 => ?_
  obtain ⟨hm, v, ω2, n3, e2, hm2, ht, ho, h⟩ := h _ hf1
  refine g_istore (lv' := [(5, .int k), (0, .ref b), (1, .ref x), (2, .ref m), (3, .ref o), (4, .int (nI i))]) dL_law__464 (by decide) rfl ?_
  refine g_aload_n dL_law__466 rfl 3 rfl ?_
  refine g_scr (k := 1) (j0 := 1) (j4 := 5) hX dL_law__467 dL_law__468 dL_law__470 dL_law__471 dL_law__472 rfl rfl (by decide) (by omega) (by omega) ?_
  refine g_scr (k := 2) (j0 := 1) (j4 := 5) hX dL_law__473 dL_law__474 dL_law__476 dL_law__477 dL_law__478 rfl rfl (by decide) (by omega) (by omega) ?_
  refine g_cvI (ci := 11) (As := [.int (xs (i + 1)), .int (xs (i + 2))]) mv_L_149 dL_law__479 rfl hm rfl rfl (Nat.le_of_ble_eq_true rfl) (ok_X11_prop Θ m (xs (i + 1)) (xs (i + 2)) _ _) e2 (by decide) (by show _ ≤ B.1 - _; omega) (by show _ ≤ B.2 - _; omega) ?_
  refine g_istore (lv' := [(6, .int v), (5, .int k), (0, .ref b), (1, .ref x), (2, .ref m), (3, .ref o), (4, .int (nI i))]) dL_law__482 (by decide) rfl ?_
  refine g_aload_n dL_law__484 rfl 4 rfl ?_
  refine g_cvI (ci := 11) (As := []) mv_L_136 dL_law__485 rfl hm2 rfl rfl (Nat.le_of_ble_eq_true rfl) (ok_X11_thrown Θ m _ _) (ht _) (by decide) (Nat.zero_le _) (Nat.zero_le _) ?_
  refine G.less (B' := (B.1 - 8, B.2 - 2100)) (by show B.1 - 8 ≤ B.1 - _ - _ - _; omega) (by show B.2 - 2100 ≤ B.2 - _ - _ - _; omega) ?_
  refine g_cmpW (j3 := 5) (j5 := 1) (j6 := 0) (e := 2492) dL_law__488 dL_law__490 dL_law__495 dL_law__497 dL_law__500 dL_law__501 dL_law__502 dL_law__503 dL_law__505 dL_law__506 dL_law__507 dL_law__512 rfl rfl rfl (by decide) rfl rfl rfl ho ?_
  refine G.lsub [2, 3, 4, 5, 6] rfl ?_
  exact K _ _ h
theorem lc_6 (Θ : GP) {b L : Nat} {xs : Nat → Int32} (hX : gX Θ = some (b, L, xs)) (hL : L ≤ 3072) {x m o i : Nat} (hi : i + 6 ≤ L) {tab : List ExceptionTableEntry} {Qv : Option Value → OW → Nat → Prop} {Qx : String → OW → Nat → Prop} {B : Nat × Nat} (hB1 : 8 ≤ B.1) (hB2 : 2100 ≤ B.2) {Inv : OW → Prop} {ω : OW} {n : Nat} (h : stW Θ m o (fun ω n => W_slot Θ x (xs (i + 1)) o ω n) (fun ω n => F_X11_slot Θ m (xs (i + 1)) ω n) Inv ω) (K : ∀ ω' n', Inv ω' → G Θ yL_law_ cL_law_ 7 (some .boolean) 1000 tab Qv Qx (B.1 - 8, B.2 - 2100) 2492 [(0, .ref b), (1, .ref x), (2, .ref m), (3, .ref o), (4, .int (nI i))] [] ω' n') : G Θ yL_law_ cL_law_ 7 (some .boolean) 1000 tab Qv Qx B 515 [(0, .ref b), (1, .ref x), (2, .ref m), (3, .ref o), (4, .int (nI i))] [] ω n := by
  refine G.fr fun hf => ?_
  obtain ⟨k, ω1, e1, h⟩ := h n hf
  refine g_aload_n dL_law__515 rfl 1 rfl ?_
  refine g_scr (k := 1) (j0 := 0) (j4 := 4) hX dL_law__516 dL_law__517 dL_law__519 dL_law__520 dL_law__521 rfl rfl (by decide) (by omega) (by omega) ?_
  refine g_aload_n dL_law__522 rfl 3 rfl ?_
  refine g_cw (As := [.ref x, .int (xs (i + 1)), .ref o]) mw_150 dL_law__523 rfl rfl (Nat.le_of_ble_eq_true rfl) (okW_slot Θ x (xs (i + 1)) o _ _ _ _ e1) (by decide) (by omega) (by omega) fun n2 => ?_
  refine G.fr fun hf1 => ?_
  obtain ⟨hm, v, ω2, n3, e2, hm2, ht, ho, h⟩ := h _ hf1
  refine g_istore (lv' := [(5, .int k), (0, .ref b), (1, .ref x), (2, .ref m), (3, .ref o), (4, .int (nI i))]) dL_law__526 (by decide) rfl ?_
  refine g_aload_n dL_law__528 rfl 3 rfl ?_
  refine g_scr (k := 1) (j0 := 1) (j4 := 5) hX dL_law__529 dL_law__530 dL_law__532 dL_law__533 dL_law__534 rfl rfl (by decide) (by omega) (by omega) ?_
  refine g_cvI (ci := 11) (As := [.int (xs (i + 1))]) mv_L_153 dL_law__535 rfl hm rfl rfl (Nat.le_of_ble_eq_true rfl) (ok_X11_slot Θ m (xs (i + 1)) _ _) e2 (by decide) (by show _ ≤ B.1 - _; omega) (by show _ ≤ B.2 - _; omega) ?_
  refine g_istore (lv' := [(6, .int v), (5, .int k), (0, .ref b), (1, .ref x), (2, .ref m), (3, .ref o), (4, .int (nI i))]) dL_law__538 (by decide) rfl ?_
  refine g_aload_n dL_law__540 rfl 4 rfl ?_
  refine g_cvI (ci := 11) (As := []) mv_L_136 dL_law__541 rfl hm2 rfl rfl (Nat.le_of_ble_eq_true rfl) (ok_X11_thrown Θ m _ _) (ht _) (by decide) (Nat.zero_le _) (Nat.zero_le _) ?_
  refine G.less (B' := (B.1 - 8, B.2 - 2100)) (by show B.1 - 8 ≤ B.1 - _ - _ - _; omega) (by show B.2 - 2100 ≤ B.2 - _ - _ - _; omega) ?_
  refine g_cmpW (j3 := 5) (j5 := 1) (j6 := 0) (e := 2492) dL_law__544 dL_law__546 dL_law__551 dL_law__553 dL_law__556 dL_law__557 dL_law__558 dL_law__559 dL_law__561 dL_law__562 dL_law__563 dL_law__568 rfl rfl rfl (by decide) rfl rfl rfl ho ?_
  refine G.lsub [2, 3, 4, 5, 6] rfl ?_
  exact K _ _ h
theorem lc_7 (Θ : GP) {b L : Nat} {xs : Nat → Int32} (hX : gX Θ = some (b, L, xs)) (hL : L ≤ 3072) {x m o i : Nat} (hi : i + 6 ≤ L) {tab : List ExceptionTableEntry} {Qv : Option Value → OW → Nat → Prop} {Qx : String → OW → Nat → Prop} {B : Nat × Nat} (hB1 : 8 ≤ B.1) (hB2 : 2100 ≤ B.2) {Inv : OW → Prop} {ω : OW} {n : Nat} (h : stW Θ m o (fun ω n => W_accused Θ x (xs (i + 1)) (xs (i + 2)) o ω n) (fun ω n => F_X11_accused Θ m (xs (i + 1)) (xs (i + 2)) ω n) Inv ω) (K : ∀ ω' n', Inv ω' → G Θ yL_law_ cL_law_ 7 (some .boolean) 1000 tab Qv Qx (B.1 - 8, B.2 - 2100) 2492 [(0, .ref b), (1, .ref x), (2, .ref m), (3, .ref o), (4, .int (nI i))] [] ω' n') : G Θ yL_law_ cL_law_ 7 (some .boolean) 1000 tab Qv Qx B 571 [(0, .ref b), (1, .ref x), (2, .ref m), (3, .ref o), (4, .int (nI i))] [] ω n := by
  refine G.fr fun hf => ?_
  obtain ⟨k, ω1, e1, h⟩ := h n hf
  refine g_aload_n dL_law__571 rfl 1 rfl ?_
  refine g_scr (k := 1) (j0 := 0) (j4 := 4) hX dL_law__572 dL_law__573 dL_law__575 dL_law__576 dL_law__577 rfl rfl (by decide) (by omega) (by omega) ?_
  refine g_scr (k := 2) (j0 := 0) (j4 := 4) hX dL_law__578 dL_law__579 dL_law__581 dL_law__582 dL_law__583 rfl rfl (by decide) (by omega) (by omega) ?_
  refine g_aload_n dL_law__584 rfl 3 rfl ?_
  refine g_cw (As := [.ref x, .int (xs (i + 1)), .int (xs (i + 2)), .ref o]) mw_154 dL_law__585 rfl rfl (Nat.le_of_ble_eq_true rfl) (okW_accused Θ x (xs (i + 1)) (xs (i + 2)) o _ _ _ _ e1) (by decide) (by omega) (by omega) fun n2 => ?_
  refine G.fr fun hf1 => ?_
  obtain ⟨hm, v, ω2, n3, e2, hm2, ht, ho, h⟩ := h _ hf1
  refine g_istore (lv' := [(5, .int k), (0, .ref b), (1, .ref x), (2, .ref m), (3, .ref o), (4, .int (nI i))]) dL_law__588 (by decide) rfl ?_
  refine g_aload_n dL_law__590 rfl 3 rfl ?_
  refine g_scr (k := 1) (j0 := 1) (j4 := 5) hX dL_law__591 dL_law__592 dL_law__594 dL_law__595 dL_law__596 rfl rfl (by decide) (by omega) (by omega) ?_
  refine g_scr (k := 2) (j0 := 1) (j4 := 5) hX dL_law__597 dL_law__598 dL_law__600 dL_law__601 dL_law__602 rfl rfl (by decide) (by omega) (by omega) ?_
  refine g_cvI (ci := 11) (As := [.int (xs (i + 1)), .int (xs (i + 2))]) mv_L_156 dL_law__603 rfl hm rfl rfl (Nat.le_of_ble_eq_true rfl) (ok_X11_accused Θ m (xs (i + 1)) (xs (i + 2)) _ _) e2 (by decide) (by show _ ≤ B.1 - _; omega) (by show _ ≤ B.2 - _; omega) ?_
  refine g_istore (lv' := [(6, .int v), (5, .int k), (0, .ref b), (1, .ref x), (2, .ref m), (3, .ref o), (4, .int (nI i))]) dL_law__606 (by decide) rfl ?_
  refine g_aload_n dL_law__608 rfl 4 rfl ?_
  refine g_cvI (ci := 11) (As := []) mv_L_136 dL_law__609 rfl hm2 rfl rfl (Nat.le_of_ble_eq_true rfl) (ok_X11_thrown Θ m _ _) (ht _) (by decide) (Nat.zero_le _) (Nat.zero_le _) ?_
  refine G.less (B' := (B.1 - 8, B.2 - 2100)) (by show B.1 - 8 ≤ B.1 - _ - _ - _; omega) (by show B.2 - 2100 ≤ B.2 - _ - _ - _; omega) ?_
  refine g_cmpW (j3 := 5) (j5 := 1) (j6 := 0) (e := 2492) dL_law__612 dL_law__614 dL_law__619 dL_law__621 dL_law__624 dL_law__625 dL_law__626 dL_law__627 dL_law__629 dL_law__630 dL_law__631 dL_law__636 rfl rfl rfl (by decide) rfl rfl rfl ho ?_
  refine G.lsub [2, 3, 4, 5, 6] rfl ?_
  exact K _ _ h
theorem lc_8 (Θ : GP) {b L : Nat} {xs : Nat → Int32} (hX : gX Θ = some (b, L, xs)) (hL : L ≤ 3072) {x m o i : Nat} (hi : i + 6 ≤ L) {tab : List ExceptionTableEntry} {Qv : Option Value → OW → Nat → Prop} {Qx : String → OW → Nat → Prop} {B : Nat × Nat} (hB1 : 8 ≤ B.1) (hB2 : 2100 ≤ B.2) {Inv : OW → Prop} {ω : OW} {n : Nat} (h : stW Θ m o (fun ω n => W_fright Θ x (xs (i + 1)) (xs (i + 2)) (xs (i + 3)) (bI (xs (i + 4))) o ω n) (fun ω n => F_X11_fright Θ m (xs (i + 1)) (xs (i + 2)) (xs (i + 3)) (bI (xs (i + 4))) ω n) Inv ω) (K : ∀ ω' n', Inv ω' → G Θ yL_law_ cL_law_ 7 (some .boolean) 1000 tab Qv Qx (B.1 - 8, B.2 - 2100) 2492 [(0, .ref b), (1, .ref x), (2, .ref m), (3, .ref o), (4, .int (nI i))] [] ω' n') : G Θ yL_law_ cL_law_ 7 (some .boolean) 1000 tab Qv Qx B 639 [(0, .ref b), (1, .ref x), (2, .ref m), (3, .ref o), (4, .int (nI i))] [] ω n := by
  refine G.fr fun hf => ?_
  obtain ⟨k, ω1, e1, h⟩ := h n hf
  refine g_aload_n dL_law__639 rfl 1 rfl ?_
  refine g_scr (k := 1) (j0 := 0) (j4 := 4) hX dL_law__640 dL_law__641 dL_law__643 dL_law__644 dL_law__645 rfl rfl (by decide) (by omega) (by omega) ?_
  refine g_scr (k := 2) (j0 := 0) (j4 := 4) hX dL_law__646 dL_law__647 dL_law__649 dL_law__650 dL_law__651 rfl rfl (by decide) (by omega) (by omega) ?_
  refine g_scr (k := 3) (j0 := 0) (j4 := 4) hX dL_law__652 dL_law__653 dL_law__655 dL_law__656 dL_law__657 rfl rfl (by decide) (by omega) (by omega) ?_
  refine g_scr (k := 4) (j0 := 0) (j4 := 4) hX dL_law__658 dL_law__659 dL_law__661 dL_law__662 dL_law__663 rfl rfl (by decide) (by omega) (by omega) ?_
  refine g_bx dL_law__664 dL_law__667 dL_law__668 dL_law__671 rfl rfl ?_
  refine g_aload_n dL_law__672 rfl 3 rfl ?_
  refine g_cw (As := [.ref x, .int (xs (i + 1)), .int (xs (i + 2)), .int (xs (i + 3)), .int (bI (xs (i + 4))), .ref o]) mw_157 dL_law__673 rfl rfl (Nat.le_of_ble_eq_true rfl) (okW_fright Θ x (xs (i + 1)) (xs (i + 2)) (xs (i + 3)) (bI (xs (i + 4))) o _ _ _ _ e1) (by decide) (by omega) (by omega) fun n2 => ?_
  refine G.fr fun hf1 => ?_
  obtain ⟨hm, v, ω2, n3, e2, hm2, ht, ho, h⟩ := h _ hf1
  refine g_istore (lv' := [(5, .int k), (0, .ref b), (1, .ref x), (2, .ref m), (3, .ref o), (4, .int (nI i))]) dL_law__676 (by decide) rfl ?_
  refine g_aload_n dL_law__678 rfl 3 rfl ?_
  refine g_scr (k := 1) (j0 := 1) (j4 := 5) hX dL_law__679 dL_law__680 dL_law__682 dL_law__683 dL_law__684 rfl rfl (by decide) (by omega) (by omega) ?_
  refine g_scr (k := 2) (j0 := 1) (j4 := 5) hX dL_law__685 dL_law__686 dL_law__688 dL_law__689 dL_law__690 rfl rfl (by decide) (by omega) (by omega) ?_
  refine g_scr (k := 3) (j0 := 1) (j4 := 5) hX dL_law__691 dL_law__692 dL_law__694 dL_law__695 dL_law__696 rfl rfl (by decide) (by omega) (by omega) ?_
  refine g_scr (k := 4) (j0 := 1) (j4 := 5) hX dL_law__697 dL_law__698 dL_law__700 dL_law__701 dL_law__702 rfl rfl (by decide) (by omega) (by omega) ?_
  refine g_bx dL_law__703 dL_law__706 dL_law__707 dL_law__710 rfl rfl ?_
  refine g_cvI (ci := 11) (As := [.int (xs (i + 1)), .int (xs (i + 2)), .int (xs (i + 3)), .int (bI (xs (i + 4)))]) mv_L_160 dL_law__711 rfl hm rfl rfl (Nat.le_of_ble_eq_true rfl) (ok_X11_fright Θ m (xs (i + 1)) (xs (i + 2)) (xs (i + 3)) (bI (xs (i + 4))) _ _) e2 (by decide) (by show _ ≤ B.1 - _; omega) (by show _ ≤ B.2 - _; omega) ?_
  refine g_istore (lv' := [(6, .int v), (5, .int k), (0, .ref b), (1, .ref x), (2, .ref m), (3, .ref o), (4, .int (nI i))]) dL_law__714 (by decide) rfl ?_
  refine g_aload_n dL_law__716 rfl 4 rfl ?_
  refine g_cvI (ci := 11) (As := []) mv_L_136 dL_law__717 rfl hm2 rfl rfl (Nat.le_of_ble_eq_true rfl) (ok_X11_thrown Θ m _ _) (ht _) (by decide) (Nat.zero_le _) (Nat.zero_le _) ?_
  refine G.less (B' := (B.1 - 8, B.2 - 2100)) (by show B.1 - 8 ≤ B.1 - _ - _ - _; omega) (by show B.2 - 2100 ≤ B.2 - _ - _ - _; omega) ?_
  refine g_cmpW (j3 := 5) (j5 := 1) (j6 := 0) (e := 2492) dL_law__720 dL_law__722 dL_law__727 dL_law__729 dL_law__732 dL_law__733 dL_law__734 dL_law__735 dL_law__737 dL_law__738 dL_law__739 dL_law__744 rfl rfl rfl (by decide) rfl rfl rfl ho ?_
  refine G.lsub [2, 3, 4, 5, 6] rfl ?_
  exact K _ _ h
theorem lc_9 (Θ : GP) {b L : Nat} {xs : Nat → Int32} (hX : gX Θ = some (b, L, xs)) (hL : L ≤ 3072) {x m o i : Nat} (hi : i + 6 ≤ L) {tab : List ExceptionTableEntry} {Qv : Option Value → OW → Nat → Prop} {Qx : String → OW → Nat → Prop} {B : Nat × Nat} (hB1 : 8 ≤ B.1) (hB2 : 2100 ≤ B.2) {Inv : OW → Prop} {ω : OW} {n : Nat} (h : stW Θ m o (fun ω n => W_send Θ x (xs (i + 1)) o ω n) (fun ω n => F_X11_send Θ m (xs (i + 1)) ω n) Inv ω) (K : ∀ ω' n', Inv ω' → G Θ yL_law_ cL_law_ 7 (some .boolean) 1000 tab Qv Qx (B.1 - 8, B.2 - 2100) 2492 [(0, .ref b), (1, .ref x), (2, .ref m), (3, .ref o), (4, .int (nI i))] [] ω' n') : G Θ yL_law_ cL_law_ 7 (some .boolean) 1000 tab Qv Qx B 747 [(0, .ref b), (1, .ref x), (2, .ref m), (3, .ref o), (4, .int (nI i))] [] ω n := by
  refine G.fr fun hf => ?_
  obtain ⟨k, ω1, e1, h⟩ := h n hf
  refine g_aload_n dL_law__747 rfl 1 rfl ?_
  refine g_scr (k := 1) (j0 := 0) (j4 := 4) hX dL_law__748 dL_law__749 dL_law__751 dL_law__752 dL_law__753 rfl rfl (by decide) (by omega) (by omega) ?_
  refine g_aload_n dL_law__754 rfl 3 rfl ?_
  refine g_cw (As := [.ref x, .int (xs (i + 1)), .ref o]) mw_161 dL_law__755 rfl rfl (Nat.le_of_ble_eq_true rfl) (okW_send Θ x (xs (i + 1)) o _ _ _ _ e1) (by decide) (by omega) (by omega) fun n2 => ?_
  refine G.fr fun hf1 => ?_
  obtain ⟨hm, v, ω2, n3, e2, hm2, ht, ho, h⟩ := h _ hf1
  refine g_istore (lv' := [(5, .int k), (0, .ref b), (1, .ref x), (2, .ref m), (3, .ref o), (4, .int (nI i))]) dL_law__758 (by decide) rfl ?_
  refine g_aload_n dL_law__760 rfl 3 rfl ?_
  refine g_scr (k := 1) (j0 := 1) (j4 := 5) hX dL_law__761 dL_law__762 dL_law__764 dL_law__765 dL_law__766 rfl rfl (by decide) (by omega) (by omega) ?_
  refine g_cvI (ci := 11) (As := [.int (xs (i + 1))]) mv_L_163 dL_law__767 rfl hm rfl rfl (Nat.le_of_ble_eq_true rfl) (ok_X11_send Θ m (xs (i + 1)) _ _) e2 (by decide) (by show _ ≤ B.1 - _; omega) (by show _ ≤ B.2 - _; omega) ?_
  refine g_istore (lv' := [(6, .int v), (5, .int k), (0, .ref b), (1, .ref x), (2, .ref m), (3, .ref o), (4, .int (nI i))]) dL_law__770 (by decide) rfl ?_
  refine g_aload_n dL_law__772 rfl 4 rfl ?_
  refine g_cvI (ci := 11) (As := []) mv_L_136 dL_law__773 rfl hm2 rfl rfl (Nat.le_of_ble_eq_true rfl) (ok_X11_thrown Θ m _ _) (ht _) (by decide) (Nat.zero_le _) (Nat.zero_le _) ?_
  refine G.less (B' := (B.1 - 8, B.2 - 2100)) (by show B.1 - 8 ≤ B.1 - _ - _ - _; omega) (by show B.2 - 2100 ≤ B.2 - _ - _ - _; omega) ?_
  refine g_cmpW (j3 := 5) (j5 := 1) (j6 := 0) (e := 2492) dL_law__776 dL_law__778 dL_law__783 dL_law__785 dL_law__788 dL_law__789 dL_law__790 dL_law__791 dL_law__793 dL_law__794 dL_law__795 dL_law__800 rfl rfl rfl (by decide) rfl rfl rfl ho ?_
  refine G.lsub [2, 3, 4, 5, 6] rfl ?_
  exact K _ _ h
theorem lc_10 (Θ : GP) {b L : Nat} {xs : Nat → Int32} (hX : gX Θ = some (b, L, xs)) (hL : L ≤ 3072) {x m o i : Nat} (hi : i + 6 ≤ L) {tab : List ExceptionTableEntry} {Qv : Option Value → OW → Nat → Prop} {Qx : String → OW → Nat → Prop} {B : Nat × Nat} (hB1 : 8 ≤ B.1) (hB2 : 2100 ≤ B.2) {Inv : OW → Prop} {ω : OW} {n : Nat} (h : stU Θ m (fun ω n => W_nail Θ x (xs (i + 1)) (xs (i + 2)) ω n) (fun ω n => F_X11_nail Θ m (xs (i + 1)) (xs (i + 2)) ω n) Inv ω) (K : ∀ ω' n', Inv ω' → G Θ yL_law_ cL_law_ 7 (some .boolean) 1000 tab Qv Qx (B.1 - 8, B.2 - 2100) 2492 [(0, .ref b), (1, .ref x), (2, .ref m), (3, .ref o), (4, .int (nI i))] [] ω' n') : G Θ yL_law_ cL_law_ 7 (some .boolean) 1000 tab Qv Qx B 803 [(0, .ref b), (1, .ref x), (2, .ref m), (3, .ref o), (4, .int (nI i))] [] ω n := by
  refine G.fr fun hf => ?_
  obtain ⟨k, ω1, e1, h⟩ := h n hf
  refine g_aload_n dL_law__803 rfl 1 rfl ?_
  refine g_scr (k := 1) (j0 := 0) (j4 := 4) hX dL_law__804 dL_law__805 dL_law__807 dL_law__808 dL_law__809 rfl rfl (by decide) (by omega) (by omega) ?_
  refine g_scr (k := 2) (j0 := 0) (j4 := 4) hX dL_law__810 dL_law__811 dL_law__813 dL_law__814 dL_law__815 rfl rfl (by decide) (by omega) (by omega) ?_
  refine g_cw (As := [.ref x, .int (xs (i + 1)), .int (xs (i + 2))]) mw_164 dL_law__816 rfl rfl (Nat.le_of_ble_eq_true rfl) (okW_nail Θ x (xs (i + 1)) (xs (i + 2)) _ _ _ _ e1) (by decide) (by omega) (by omega) fun n2 => ?_
  refine G.fr fun hf1 => ?_
  obtain ⟨hm, ω2, n3, e2, hm2, ht, h⟩ := h _ hf1
  refine g_istore (lv' := [(5, .int k), (0, .ref b), (1, .ref x), (2, .ref m), (3, .ref o), (4, .int (nI i))]) dL_law__819 (by decide) rfl ?_
  refine g_aload_n dL_law__821 rfl 3 rfl ?_
  refine g_scr (k := 1) (j0 := 1) (j4 := 5) hX dL_law__822 dL_law__823 dL_law__825 dL_law__826 dL_law__827 rfl rfl (by decide) (by omega) (by omega) ?_
  refine g_scr (k := 2) (j0 := 1) (j4 := 5) hX dL_law__828 dL_law__829 dL_law__831 dL_law__832 dL_law__833 rfl rfl (by decide) (by omega) (by omega) ?_
  refine g_cvI (ci := 11) (As := [.int (xs (i + 1)), .int (xs (i + 2))]) mv_L_167 dL_law__834 rfl hm rfl rfl (Nat.le_of_ble_eq_true rfl) (ok_X11_nail Θ m (xs (i + 1)) (xs (i + 2)) _ _) e2 (by decide) (by show _ ≤ B.1 - _; omega) (by show _ ≤ B.2 - _; omega) ?_
  refine g_aload_n dL_law__837 rfl 3 rfl ?_
  refine g_cvI (ci := 11) (As := []) mv_L_136 dL_law__838 rfl hm2 rfl rfl (Nat.le_of_ble_eq_true rfl) (ok_X11_thrown Θ m _ _) (ht _) (by decide) (Nat.zero_le _) (Nat.zero_le _) ?_
  refine G.less (B' := (B.1 - 8, B.2 - 2100)) (by show B.1 - 8 ≤ B.1 - _ - _ - _; omega) (by show B.2 - 2100 ≤ B.2 - _ - _ - _; omega) ?_
  refine g_iload dL_law__841 0 rfl ?_
  refine g_icmp_eq (tgt := 848) dL_law__843 (by decide) (fun _ => ?_) (fun c => absurd rfl c)
  refine g_goto (tgt := 2492) dL_law__848 (by decide) ?_
  refine G.lsub [1, 2, 3, 4, 5] rfl ?_
  exact K _ _ h
theorem lc_11 (Θ : GP) {b L : Nat} {xs : Nat → Int32} (hX : gX Θ = some (b, L, xs)) (hL : L ≤ 3072) {x m o i : Nat} (hi : i + 6 ≤ L) {tab : List ExceptionTableEntry} {Qv : Option Value → OW → Nat → Prop} {Qx : String → OW → Nat → Prop} {B : Nat × Nat} (hB1 : 8 ≤ B.1) (hB2 : 2100 ≤ B.2) {Inv : OW → Prop} {ω : OW} {n : Nat} (h : stW Θ m o (fun ω n => W_down Θ x (xs (i + 1)) o ω n) (fun ω n => F_X11_down Θ m (xs (i + 1)) ω n) Inv ω) (K : ∀ ω' n', Inv ω' → G Θ yL_law_ cL_law_ 7 (some .boolean) 1000 tab Qv Qx (B.1 - 8, B.2 - 2100) 2492 [(0, .ref b), (1, .ref x), (2, .ref m), (3, .ref o), (4, .int (nI i))] [] ω' n') : G Θ yL_law_ cL_law_ 7 (some .boolean) 1000 tab Qv Qx B 851 [(0, .ref b), (1, .ref x), (2, .ref m), (3, .ref o), (4, .int (nI i))] [] ω n := by
  refine G.fr fun hf => ?_
  obtain ⟨k, ω1, e1, h⟩ := h n hf
  refine g_aload_n dL_law__851 rfl 1 rfl ?_
  refine g_scr (k := 1) (j0 := 0) (j4 := 4) hX dL_law__852 dL_law__853 dL_law__855 dL_law__856 dL_law__857 rfl rfl (by decide) (by omega) (by omega) ?_
  refine g_aload_n dL_law__858 rfl 3 rfl ?_
  refine g_cw (As := [.ref x, .int (xs (i + 1)), .ref o]) mw_168 dL_law__859 rfl rfl (Nat.le_of_ble_eq_true rfl) (okW_down Θ x (xs (i + 1)) o _ _ _ _ e1) (by decide) (by omega) (by omega) fun n2 => ?_
  refine G.fr fun hf1 => ?_
  obtain ⟨hm, v, ω2, n3, e2, hm2, ht, ho, h⟩ := h _ hf1
  refine g_istore (lv' := [(5, .int k), (0, .ref b), (1, .ref x), (2, .ref m), (3, .ref o), (4, .int (nI i))]) dL_law__862 (by decide) rfl ?_
  refine g_aload_n dL_law__864 rfl 3 rfl ?_
  refine g_scr (k := 1) (j0 := 1) (j4 := 5) hX dL_law__865 dL_law__866 dL_law__868 dL_law__869 dL_law__870 rfl rfl (by decide) (by omega) (by omega) ?_
  refine g_cvI (ci := 11) (As := [.int (xs (i + 1))]) mv_L_170 dL_law__871 rfl hm rfl rfl (Nat.le_of_ble_eq_true rfl) (ok_X11_down Θ m (xs (i + 1)) _ _) e2 (by decide) (by show _ ≤ B.1 - _; omega) (by show _ ≤ B.2 - _; omega) ?_
  refine g_istore (lv' := [(6, .int v), (5, .int k), (0, .ref b), (1, .ref x), (2, .ref m), (3, .ref o), (4, .int (nI i))]) dL_law__874 (by decide) rfl ?_
  refine g_aload_n dL_law__876 rfl 4 rfl ?_
  refine g_cvI (ci := 11) (As := []) mv_L_136 dL_law__877 rfl hm2 rfl rfl (Nat.le_of_ble_eq_true rfl) (ok_X11_thrown Θ m _ _) (ht _) (by decide) (Nat.zero_le _) (Nat.zero_le _) ?_
  refine G.less (B' := (B.1 - 8, B.2 - 2100)) (by show B.1 - 8 ≤ B.1 - _ - _ - _; omega) (by show B.2 - 2100 ≤ B.2 - _ - _ - _; omega) ?_
  refine g_cmpW (j3 := 5) (j5 := 1) (j6 := 0) (e := 2492) dL_law__880 dL_law__882 dL_law__887 dL_law__889 dL_law__892 dL_law__893 dL_law__894 dL_law__895 dL_law__897 dL_law__898 dL_law__899 dL_law__904 rfl rfl rfl (by decide) rfl rfl rfl ho ?_
  refine G.lsub [2, 3, 4, 5, 6] rfl ?_
  exact K _ _ h
theorem lc_12 (Θ : GP) {b L : Nat} {xs : Nat → Int32} (hX : gX Θ = some (b, L, xs)) (hL : L ≤ 3072) {x m o i : Nat} (hi : i + 6 ≤ L) {tab : List ExceptionTableEntry} {Qv : Option Value → OW → Nat → Prop} {Qx : String → OW → Nat → Prop} {B : Nat × Nat} (hB1 : 8 ≤ B.1) (hB2 : 2100 ≤ B.2) {Inv : OW → Prop} {ω : OW} {n : Nat} (h : stW Θ m o (fun ω n => W_mend Θ x (xs (i + 1)) o ω n) (fun ω n => F_X11_mend Θ m (xs (i + 1)) ω n) Inv ω) (K : ∀ ω' n', Inv ω' → G Θ yL_law_ cL_law_ 7 (some .boolean) 1000 tab Qv Qx (B.1 - 8, B.2 - 2100) 2492 [(0, .ref b), (1, .ref x), (2, .ref m), (3, .ref o), (4, .int (nI i))] [] ω' n') : G Θ yL_law_ cL_law_ 7 (some .boolean) 1000 tab Qv Qx B 907 [(0, .ref b), (1, .ref x), (2, .ref m), (3, .ref o), (4, .int (nI i))] [] ω n := by
  refine G.fr fun hf => ?_
  obtain ⟨k, ω1, e1, h⟩ := h n hf
  refine g_aload_n dL_law__907 rfl 1 rfl ?_
  refine g_scr (k := 1) (j0 := 0) (j4 := 4) hX dL_law__908 dL_law__909 dL_law__911 dL_law__912 dL_law__913 rfl rfl (by decide) (by omega) (by omega) ?_
  refine g_aload_n dL_law__914 rfl 3 rfl ?_
  refine g_cw (As := [.ref x, .int (xs (i + 1)), .ref o]) mw_171 dL_law__915 rfl rfl (Nat.le_of_ble_eq_true rfl) (okW_mend Θ x (xs (i + 1)) o _ _ _ _ e1) (by decide) (by omega) (by omega) fun n2 => ?_
  refine G.fr fun hf1 => ?_
  obtain ⟨hm, v, ω2, n3, e2, hm2, ht, ho, h⟩ := h _ hf1
  refine g_istore (lv' := [(5, .int k), (0, .ref b), (1, .ref x), (2, .ref m), (3, .ref o), (4, .int (nI i))]) dL_law__918 (by decide) rfl ?_
  refine g_aload_n dL_law__920 rfl 3 rfl ?_
  refine g_scr (k := 1) (j0 := 1) (j4 := 5) hX dL_law__921 dL_law__922 dL_law__924 dL_law__925 dL_law__926 rfl rfl (by decide) (by omega) (by omega) ?_
  refine g_cvI (ci := 11) (As := [.int (xs (i + 1))]) mv_L_173 dL_law__927 rfl hm rfl rfl (Nat.le_of_ble_eq_true rfl) (ok_X11_mend Θ m (xs (i + 1)) _ _) e2 (by decide) (by show _ ≤ B.1 - _; omega) (by show _ ≤ B.2 - _; omega) ?_
  refine g_istore (lv' := [(6, .int v), (5, .int k), (0, .ref b), (1, .ref x), (2, .ref m), (3, .ref o), (4, .int (nI i))]) dL_law__930 (by decide) rfl ?_
  refine g_aload_n dL_law__932 rfl 4 rfl ?_
  refine g_cvI (ci := 11) (As := []) mv_L_136 dL_law__933 rfl hm2 rfl rfl (Nat.le_of_ble_eq_true rfl) (ok_X11_thrown Θ m _ _) (ht _) (by decide) (Nat.zero_le _) (Nat.zero_le _) ?_
  refine G.less (B' := (B.1 - 8, B.2 - 2100)) (by show B.1 - 8 ≤ B.1 - _ - _ - _; omega) (by show B.2 - 2100 ≤ B.2 - _ - _ - _; omega) ?_
  refine g_cmpW (j3 := 5) (j5 := 1) (j6 := 0) (e := 2492) dL_law__936 dL_law__938 dL_law__943 dL_law__945 dL_law__948 dL_law__949 dL_law__950 dL_law__951 dL_law__953 dL_law__954 dL_law__955 dL_law__960 rfl rfl rfl (by decide) rfl rfl rfl ho ?_
  refine G.lsub [2, 3, 4, 5, 6] rfl ?_
  exact K _ _ h
theorem lc_13 (Θ : GP) {b L : Nat} {xs : Nat → Int32} (hX : gX Θ = some (b, L, xs)) (hL : L ≤ 3072) {x m o i : Nat} (hi : i + 6 ≤ L) {tab : List ExceptionTableEntry} {Qv : Option Value → OW → Nat → Prop} {Qx : String → OW → Nat → Prop} {B : Nat × Nat} (hB1 : 8 ≤ B.1) (hB2 : 2100 ≤ B.2) {Inv : OW → Prop} {ω : OW} {n : Nat} (h : stU Θ m (fun ω n => W_recall Θ x (xs (i + 1)) ω n) (fun ω n => F_X11_recall Θ m (xs (i + 1)) ω n) Inv ω) (K : ∀ ω' n', Inv ω' → G Θ yL_law_ cL_law_ 7 (some .boolean) 1000 tab Qv Qx (B.1 - 8, B.2 - 2100) 2492 [(0, .ref b), (1, .ref x), (2, .ref m), (3, .ref o), (4, .int (nI i))] [] ω' n') : G Θ yL_law_ cL_law_ 7 (some .boolean) 1000 tab Qv Qx B 963 [(0, .ref b), (1, .ref x), (2, .ref m), (3, .ref o), (4, .int (nI i))] [] ω n := by
  refine G.fr fun hf => ?_
  obtain ⟨k, ω1, e1, h⟩ := h n hf
  refine g_aload_n dL_law__963 rfl 1 rfl ?_
  refine g_scr (k := 1) (j0 := 0) (j4 := 4) hX dL_law__964 dL_law__965 dL_law__967 dL_law__968 dL_law__969 rfl rfl (by decide) (by omega) (by omega) ?_
  refine g_cw (As := [.ref x, .int (xs (i + 1))]) mw_174 dL_law__970 rfl rfl (Nat.le_of_ble_eq_true rfl) (okW_recall Θ x (xs (i + 1)) _ _ _ _ e1) (by decide) (by omega) (by omega) fun n2 => ?_
  refine G.fr fun hf1 => ?_
  obtain ⟨hm, ω2, n3, e2, hm2, ht, h⟩ := h _ hf1
  refine g_istore (lv' := [(5, .int k), (0, .ref b), (1, .ref x), (2, .ref m), (3, .ref o), (4, .int (nI i))]) dL_law__973 (by decide) rfl ?_
  refine g_aload_n dL_law__975 rfl 3 rfl ?_
  refine g_scr (k := 1) (j0 := 1) (j4 := 5) hX dL_law__976 dL_law__977 dL_law__979 dL_law__980 dL_law__981 rfl rfl (by decide) (by omega) (by omega) ?_
  refine g_cvI (ci := 11) (As := [.int (xs (i + 1))]) mv_L_177 dL_law__982 rfl hm rfl rfl (Nat.le_of_ble_eq_true rfl) (ok_X11_recall Θ m (xs (i + 1)) _ _) e2 (by decide) (by show _ ≤ B.1 - _; omega) (by show _ ≤ B.2 - _; omega) ?_
  refine g_aload_n dL_law__985 rfl 3 rfl ?_
  refine g_cvI (ci := 11) (As := []) mv_L_136 dL_law__986 rfl hm2 rfl rfl (Nat.le_of_ble_eq_true rfl) (ok_X11_thrown Θ m _ _) (ht _) (by decide) (Nat.zero_le _) (Nat.zero_le _) ?_
  refine G.less (B' := (B.1 - 8, B.2 - 2100)) (by show B.1 - 8 ≤ B.1 - _ - _ - _; omega) (by show B.2 - 2100 ≤ B.2 - _ - _ - _; omega) ?_
  refine g_iload dL_law__989 0 rfl ?_
  refine g_icmp_eq (tgt := 996) dL_law__991 (by decide) (fun _ => ?_) (fun c => absurd rfl c)
  refine g_goto (tgt := 2492) dL_law__996 (by decide) ?_
  refine G.lsub [1, 2, 3, 4, 5] rfl ?_
  exact K _ _ h
theorem lc_14 (Θ : GP) {b L : Nat} {xs : Nat → Int32} (hX : gX Θ = some (b, L, xs)) (hL : L ≤ 3072) {x m o i : Nat} (hi : i + 6 ≤ L) {tab : List ExceptionTableEntry} {Qv : Option Value → OW → Nat → Prop} {Qx : String → OW → Nat → Prop} {B : Nat × Nat} (hB1 : 8 ≤ B.1) (hB2 : 2100 ≤ B.2) {Inv : OW → Prop} {ω : OW} {n : Nat} (h : stW Θ m o (fun ω n => W_inside Θ x (xs (i + 1)) o ω n) (fun ω n => F_X11_inside Θ m (xs (i + 1)) ω n) Inv ω) (K : ∀ ω' n', Inv ω' → G Θ yL_law_ cL_law_ 7 (some .boolean) 1000 tab Qv Qx (B.1 - 8, B.2 - 2100) 2492 [(0, .ref b), (1, .ref x), (2, .ref m), (3, .ref o), (4, .int (nI i))] [] ω' n') : G Θ yL_law_ cL_law_ 7 (some .boolean) 1000 tab Qv Qx B 999 [(0, .ref b), (1, .ref x), (2, .ref m), (3, .ref o), (4, .int (nI i))] [] ω n := by
  refine G.fr fun hf => ?_
  obtain ⟨k, ω1, e1, h⟩ := h n hf
  refine g_aload_n dL_law__999 rfl 1 rfl ?_
  refine g_scr (k := 1) (j0 := 0) (j4 := 4) hX dL_law__1000 dL_law__1001 dL_law__1003 dL_law__1004 dL_law__1005 rfl rfl (by decide) (by omega) (by omega) ?_
  refine g_aload_n dL_law__1006 rfl 3 rfl ?_
  refine g_cw (As := [.ref x, .int (xs (i + 1)), .ref o]) mw_178 dL_law__1007 rfl rfl (Nat.le_of_ble_eq_true rfl) (okW_inside Θ x (xs (i + 1)) o _ _ _ _ e1) (by decide) (by omega) (by omega) fun n2 => ?_
  refine G.fr fun hf1 => ?_
  obtain ⟨hm, v, ω2, n3, e2, hm2, ht, ho, h⟩ := h _ hf1
  refine g_istore (lv' := [(5, .int k), (0, .ref b), (1, .ref x), (2, .ref m), (3, .ref o), (4, .int (nI i))]) dL_law__1010 (by decide) rfl ?_
  refine g_aload_n dL_law__1012 rfl 3 rfl ?_
  refine g_scr (k := 1) (j0 := 1) (j4 := 5) hX dL_law__1013 dL_law__1014 dL_law__1016 dL_law__1017 dL_law__1018 rfl rfl (by decide) (by omega) (by omega) ?_
  refine g_cvI (ci := 11) (As := [.int (xs (i + 1))]) mv_L_180 dL_law__1019 rfl hm rfl rfl (Nat.le_of_ble_eq_true rfl) (ok_X11_inside Θ m (xs (i + 1)) _ _) e2 (by decide) (by show _ ≤ B.1 - _; omega) (by show _ ≤ B.2 - _; omega) ?_
  refine g_istore (lv' := [(6, .int v), (5, .int k), (0, .ref b), (1, .ref x), (2, .ref m), (3, .ref o), (4, .int (nI i))]) dL_law__1022 (by decide) rfl ?_
  refine g_aload_n dL_law__1024 rfl 4 rfl ?_
  refine g_cvI (ci := 11) (As := []) mv_L_136 dL_law__1025 rfl hm2 rfl rfl (Nat.le_of_ble_eq_true rfl) (ok_X11_thrown Θ m _ _) (ht _) (by decide) (Nat.zero_le _) (Nat.zero_le _) ?_
  refine G.less (B' := (B.1 - 8, B.2 - 2100)) (by show B.1 - 8 ≤ B.1 - _ - _ - _; omega) (by show B.2 - 2100 ≤ B.2 - _ - _ - _; omega) ?_
  refine g_cmpW (j3 := 5) (j5 := 1) (j6 := 0) (e := 2492) dL_law__1028 dL_law__1030 dL_law__1035 dL_law__1037 dL_law__1040 dL_law__1041 dL_law__1042 dL_law__1043 dL_law__1045 dL_law__1046 dL_law__1047 dL_law__1052 rfl rfl rfl (by decide) rfl rfl rfl ho ?_
  refine G.lsub [2, 3, 4, 5, 6] rfl ?_
  exact K _ _ h
theorem lc_15 (Θ : GP) {b L : Nat} {xs : Nat → Int32} (hX : gX Θ = some (b, L, xs)) (hL : L ≤ 3072) {x m o i : Nat} (hi : i + 6 ≤ L) {tab : List ExceptionTableEntry} {Qv : Option Value → OW → Nat → Prop} {Qx : String → OW → Nat → Prop} {B : Nat × Nat} (hB1 : 8 ≤ B.1) (hB2 : 2100 ≤ B.2) {Inv : OW → Prop} {ω : OW} {n : Nat} (h : stW Θ m o (fun ω n => W_calm Θ x (xs (i + 1)) o ω n) (fun ω n => F_X11_calm Θ m (xs (i + 1)) ω n) Inv ω) (K : ∀ ω' n', Inv ω' → G Θ yL_law_ cL_law_ 7 (some .boolean) 1000 tab Qv Qx (B.1 - 8, B.2 - 2100) 2492 [(0, .ref b), (1, .ref x), (2, .ref m), (3, .ref o), (4, .int (nI i))] [] ω' n') : G Θ yL_law_ cL_law_ 7 (some .boolean) 1000 tab Qv Qx B 1055 [(0, .ref b), (1, .ref x), (2, .ref m), (3, .ref o), (4, .int (nI i))] [] ω n := by
  refine G.fr fun hf => ?_
  obtain ⟨k, ω1, e1, h⟩ := h n hf
  refine g_aload_n dL_law__1055 rfl 1 rfl ?_
  refine g_scr (k := 1) (j0 := 0) (j4 := 4) hX dL_law__1056 dL_law__1057 dL_law__1059 dL_law__1060 dL_law__1061 rfl rfl (by decide) (by omega) (by omega) ?_
  refine g_aload_n dL_law__1062 rfl 3 rfl ?_
  refine g_cw (As := [.ref x, .int (xs (i + 1)), .ref o]) mw_181 dL_law__1063 rfl rfl (Nat.le_of_ble_eq_true rfl) (okW_calm Θ x (xs (i + 1)) o _ _ _ _ e1) (by decide) (by omega) (by omega) fun n2 => ?_
  refine G.fr fun hf1 => ?_
  obtain ⟨hm, v, ω2, n3, e2, hm2, ht, ho, h⟩ := h _ hf1
  refine g_istore (lv' := [(5, .int k), (0, .ref b), (1, .ref x), (2, .ref m), (3, .ref o), (4, .int (nI i))]) dL_law__1066 (by decide) rfl ?_
  refine g_aload_n dL_law__1068 rfl 3 rfl ?_
  refine g_scr (k := 1) (j0 := 1) (j4 := 5) hX dL_law__1069 dL_law__1070 dL_law__1072 dL_law__1073 dL_law__1074 rfl rfl (by decide) (by omega) (by omega) ?_
  refine g_cvI (ci := 11) (As := [.int (xs (i + 1))]) mv_L_183 dL_law__1075 rfl hm rfl rfl (Nat.le_of_ble_eq_true rfl) (ok_X11_calm Θ m (xs (i + 1)) _ _) e2 (by decide) (by show _ ≤ B.1 - _; omega) (by show _ ≤ B.2 - _; omega) ?_
  refine g_istore (lv' := [(6, .int v), (5, .int k), (0, .ref b), (1, .ref x), (2, .ref m), (3, .ref o), (4, .int (nI i))]) dL_law__1078 (by decide) rfl ?_
  refine g_aload_n dL_law__1080 rfl 4 rfl ?_
  refine g_cvI (ci := 11) (As := []) mv_L_136 dL_law__1081 rfl hm2 rfl rfl (Nat.le_of_ble_eq_true rfl) (ok_X11_thrown Θ m _ _) (ht _) (by decide) (Nat.zero_le _) (Nat.zero_le _) ?_
  refine G.less (B' := (B.1 - 8, B.2 - 2100)) (by show B.1 - 8 ≤ B.1 - _ - _ - _; omega) (by show B.2 - 2100 ≤ B.2 - _ - _ - _; omega) ?_
  refine g_cmpW (j3 := 5) (j5 := 1) (j6 := 0) (e := 2492) dL_law__1084 dL_law__1086 dL_law__1091 dL_law__1093 dL_law__1096 dL_law__1097 dL_law__1098 dL_law__1099 dL_law__1101 dL_law__1102 dL_law__1103 dL_law__1108 rfl rfl rfl (by decide) rfl rfl rfl ho ?_
  refine G.lsub [2, 3, 4, 5, 6] rfl ?_
  exact K _ _ h
theorem lc_16 (Θ : GP) {b L : Nat} {xs : Nat → Int32} (hX : gX Θ = some (b, L, xs)) (hL : L ≤ 3072) {x m o i : Nat} (hi : i + 6 ≤ L) {tab : List ExceptionTableEntry} {Qv : Option Value → OW → Nat → Prop} {Qx : String → OW → Nat → Prop} {B : Nat × Nat} (hB1 : 8 ≤ B.1) (hB2 : 2100 ≤ B.2) {Inv : OW → Prop} {ω : OW} {n : Nat} (h : stW Θ m o (fun ω n => W_mornings Θ x (xs (i + 1)) o ω n) (fun ω n => F_X11_mornings Θ m (xs (i + 1)) ω n) Inv ω) (K : ∀ ω' n', Inv ω' → G Θ yL_law_ cL_law_ 7 (some .boolean) 1000 tab Qv Qx (B.1 - 8, B.2 - 2100) 2492 [(0, .ref b), (1, .ref x), (2, .ref m), (3, .ref o), (4, .int (nI i))] [] ω' n') : G Θ yL_law_ cL_law_ 7 (some .boolean) 1000 tab Qv Qx B 1111 [(0, .ref b), (1, .ref x), (2, .ref m), (3, .ref o), (4, .int (nI i))] [] ω n := by
  refine G.fr fun hf => ?_
  obtain ⟨k, ω1, e1, h⟩ := h n hf
  refine g_aload_n dL_law__1111 rfl 1 rfl ?_
  refine g_scr (k := 1) (j0 := 0) (j4 := 4) hX dL_law__1112 dL_law__1113 dL_law__1115 dL_law__1116 dL_law__1117 rfl rfl (by decide) (by omega) (by omega) ?_
  refine g_aload_n dL_law__1118 rfl 3 rfl ?_
  refine g_cw (As := [.ref x, .int (xs (i + 1)), .ref o]) mw_184 dL_law__1119 rfl rfl (Nat.le_of_ble_eq_true rfl) (okW_mornings Θ x (xs (i + 1)) o _ _ _ _ e1) (by decide) (by omega) (by omega) fun n2 => ?_
  refine G.fr fun hf1 => ?_
  obtain ⟨hm, v, ω2, n3, e2, hm2, ht, ho, h⟩ := h _ hf1
  refine g_istore (lv' := [(5, .int k), (0, .ref b), (1, .ref x), (2, .ref m), (3, .ref o), (4, .int (nI i))]) dL_law__1122 (by decide) rfl ?_
  refine g_aload_n dL_law__1124 rfl 3 rfl ?_
  refine g_scr (k := 1) (j0 := 1) (j4 := 5) hX dL_law__1125 dL_law__1126 dL_law__1128 dL_law__1129 dL_law__1130 rfl rfl (by decide) (by omega) (by omega) ?_
  refine g_cvI (ci := 11) (As := [.int (xs (i + 1))]) mv_L_186 dL_law__1131 rfl hm rfl rfl (Nat.le_of_ble_eq_true rfl) (ok_X11_mornings Θ m (xs (i + 1)) _ _) e2 (by decide) (by show _ ≤ B.1 - _; omega) (by show _ ≤ B.2 - _; omega) ?_
  refine g_istore (lv' := [(6, .int v), (5, .int k), (0, .ref b), (1, .ref x), (2, .ref m), (3, .ref o), (4, .int (nI i))]) dL_law__1134 (by decide) rfl ?_
  refine g_aload_n dL_law__1136 rfl 4 rfl ?_
  refine g_cvI (ci := 11) (As := []) mv_L_136 dL_law__1137 rfl hm2 rfl rfl (Nat.le_of_ble_eq_true rfl) (ok_X11_thrown Θ m _ _) (ht _) (by decide) (Nat.zero_le _) (Nat.zero_le _) ?_
  refine G.less (B' := (B.1 - 8, B.2 - 2100)) (by show B.1 - 8 ≤ B.1 - _ - _ - _; omega) (by show B.2 - 2100 ≤ B.2 - _ - _ - _; omega) ?_
  refine g_cmpW (j3 := 5) (j5 := 1) (j6 := 0) (e := 2492) dL_law__1140 dL_law__1142 dL_law__1147 dL_law__1149 dL_law__1152 dL_law__1153 dL_law__1154 dL_law__1155 dL_law__1157 dL_law__1158 dL_law__1159 dL_law__1164 rfl rfl rfl (by decide) rfl rfl rfl ho ?_
  refine G.lsub [2, 3, 4, 5, 6] rfl ?_
  exact K _ _ h
theorem lc_17 (Θ : GP) {b L : Nat} {xs : Nat → Int32} (hX : gX Θ = some (b, L, xs)) (hL : L ≤ 3072) {x m o i : Nat} (hi : i + 6 ≤ L) {tab : List ExceptionTableEntry} {Qv : Option Value → OW → Nat → Prop} {Qx : String → OW → Nat → Prop} {B : Nat × Nat} (hB1 : 8 ≤ B.1) (hB2 : 2100 ≤ B.2) {Inv : OW → Prop} {ω : OW} {n : Nat} (h : stW Θ m o (fun ω n => W_straight Θ x (xs (i + 1)) o ω n) (fun ω n => F_X11_straight Θ m (xs (i + 1)) ω n) Inv ω) (K : ∀ ω' n', Inv ω' → G Θ yL_law_ cL_law_ 7 (some .boolean) 1000 tab Qv Qx (B.1 - 8, B.2 - 2100) 2492 [(0, .ref b), (1, .ref x), (2, .ref m), (3, .ref o), (4, .int (nI i))] [] ω' n') : G Θ yL_law_ cL_law_ 7 (some .boolean) 1000 tab Qv Qx B 1167 [(0, .ref b), (1, .ref x), (2, .ref m), (3, .ref o), (4, .int (nI i))] [] ω n := by
  refine G.fr fun hf => ?_
  obtain ⟨k, ω1, e1, h⟩ := h n hf
  refine g_aload_n dL_law__1167 rfl 1 rfl ?_
  refine g_scr (k := 1) (j0 := 0) (j4 := 4) hX dL_law__1168 dL_law__1169 dL_law__1171 dL_law__1172 dL_law__1173 rfl rfl (by decide) (by omega) (by omega) ?_
  refine g_aload_n dL_law__1174 rfl 3 rfl ?_
  refine g_cw (As := [.ref x, .int (xs (i + 1)), .ref o]) mw_187 dL_law__1175 rfl rfl (Nat.le_of_ble_eq_true rfl) (okW_straight Θ x (xs (i + 1)) o _ _ _ _ e1) (by decide) (by omega) (by omega) fun n2 => ?_
  refine G.fr fun hf1 => ?_
  obtain ⟨hm, v, ω2, n3, e2, hm2, ht, ho, h⟩ := h _ hf1
  refine g_istore (lv' := [(5, .int k), (0, .ref b), (1, .ref x), (2, .ref m), (3, .ref o), (4, .int (nI i))]) dL_law__1178 (by decide) rfl ?_
  refine g_aload_n dL_law__1180 rfl 3 rfl ?_
  refine g_scr (k := 1) (j0 := 1) (j4 := 5) hX dL_law__1181 dL_law__1182 dL_law__1184 dL_law__1185 dL_law__1186 rfl rfl (by decide) (by omega) (by omega) ?_
  refine g_cvI (ci := 11) (As := [.int (xs (i + 1))]) mv_L_189 dL_law__1187 rfl hm rfl rfl (Nat.le_of_ble_eq_true rfl) (ok_X11_straight Θ m (xs (i + 1)) _ _) e2 (by decide) (by show _ ≤ B.1 - _; omega) (by show _ ≤ B.2 - _; omega) ?_
  refine g_istore (lv' := [(6, .int v), (5, .int k), (0, .ref b), (1, .ref x), (2, .ref m), (3, .ref o), (4, .int (nI i))]) dL_law__1190 (by decide) rfl ?_
  refine g_aload_n dL_law__1192 rfl 4 rfl ?_
  refine g_cvI (ci := 11) (As := []) mv_L_136 dL_law__1193 rfl hm2 rfl rfl (Nat.le_of_ble_eq_true rfl) (ok_X11_thrown Θ m _ _) (ht _) (by decide) (Nat.zero_le _) (Nat.zero_le _) ?_
  refine G.less (B' := (B.1 - 8, B.2 - 2100)) (by show B.1 - 8 ≤ B.1 - _ - _ - _; omega) (by show B.2 - 2100 ≤ B.2 - _ - _ - _; omega) ?_
  refine g_cmpW (j3 := 5) (j5 := 1) (j6 := 0) (e := 2492) dL_law__1196 dL_law__1198 dL_law__1203 dL_law__1205 dL_law__1208 dL_law__1209 dL_law__1210 dL_law__1211 dL_law__1213 dL_law__1214 dL_law__1215 dL_law__1220 rfl rfl rfl (by decide) rfl rfl rfl ho ?_
  refine G.lsub [2, 3, 4, 5, 6] rfl ?_
  exact K _ _ h
theorem lc_18 (Θ : GP) {b L : Nat} {xs : Nat → Int32} (hX : gX Θ = some (b, L, xs)) (hL : L ≤ 3072) {x m o i : Nat} (hi : i + 6 ≤ L) {tab : List ExceptionTableEntry} {Qv : Option Value → OW → Nat → Prop} {Qx : String → OW → Nat → Prop} {B : Nat × Nat} (hB1 : 8 ≤ B.1) (hB2 : 2100 ≤ B.2) {Inv : OW → Prop} {ω : OW} {n : Nat} (h : stW Θ m o (fun ω n => W_tense Θ x (xs (i + 1)) (xs (i + 2)) o ω n) (fun ω n => F_X11_tense Θ m (xs (i + 1)) (xs (i + 2)) ω n) Inv ω) (K : ∀ ω' n', Inv ω' → G Θ yL_law_ cL_law_ 7 (some .boolean) 1000 tab Qv Qx (B.1 - 8, B.2 - 2100) 2492 [(0, .ref b), (1, .ref x), (2, .ref m), (3, .ref o), (4, .int (nI i))] [] ω' n') : G Θ yL_law_ cL_law_ 7 (some .boolean) 1000 tab Qv Qx B 1223 [(0, .ref b), (1, .ref x), (2, .ref m), (3, .ref o), (4, .int (nI i))] [] ω n := by
  refine G.fr fun hf => ?_
  obtain ⟨k, ω1, e1, h⟩ := h n hf
  refine g_aload_n dL_law__1223 rfl 1 rfl ?_
  refine g_scr (k := 1) (j0 := 0) (j4 := 4) hX dL_law__1224 dL_law__1225 dL_law__1227 dL_law__1228 dL_law__1229 rfl rfl (by decide) (by omega) (by omega) ?_
  refine g_scr (k := 2) (j0 := 0) (j4 := 4) hX dL_law__1230 dL_law__1231 dL_law__1233 dL_law__1234 dL_law__1235 rfl rfl (by decide) (by omega) (by omega) ?_
  refine g_aload_n dL_law__1236 rfl 3 rfl ?_
  refine g_cw (As := [.ref x, .int (xs (i + 1)), .int (xs (i + 2)), .ref o]) mw_190 dL_law__1237 rfl rfl (Nat.le_of_ble_eq_true rfl) (okW_tense Θ x (xs (i + 1)) (xs (i + 2)) o _ _ _ _ e1) (by decide) (by omega) (by omega) fun n2 => ?_
  refine G.fr fun hf1 => ?_
  obtain ⟨hm, v, ω2, n3, e2, hm2, ht, ho, h⟩ := h _ hf1
  refine g_istore (lv' := [(5, .int k), (0, .ref b), (1, .ref x), (2, .ref m), (3, .ref o), (4, .int (nI i))]) dL_law__1240 (by decide) rfl ?_
  refine g_aload_n dL_law__1242 rfl 3 rfl ?_
  refine g_scr (k := 1) (j0 := 1) (j4 := 5) hX dL_law__1243 dL_law__1244 dL_law__1246 dL_law__1247 dL_law__1248 rfl rfl (by decide) (by omega) (by omega) ?_
  refine g_scr (k := 2) (j0 := 1) (j4 := 5) hX dL_law__1249 dL_law__1250 dL_law__1252 dL_law__1253 dL_law__1254 rfl rfl (by decide) (by omega) (by omega) ?_
  refine g_cvI (ci := 11) (As := [.int (xs (i + 1)), .int (xs (i + 2))]) mv_L_192 dL_law__1255 rfl hm rfl rfl (Nat.le_of_ble_eq_true rfl) (ok_X11_tense Θ m (xs (i + 1)) (xs (i + 2)) _ _) e2 (by decide) (by show _ ≤ B.1 - _; omega) (by show _ ≤ B.2 - _; omega) ?_
  refine g_istore (lv' := [(6, .int v), (5, .int k), (0, .ref b), (1, .ref x), (2, .ref m), (3, .ref o), (4, .int (nI i))]) dL_law__1258 (by decide) rfl ?_
  refine g_aload_n dL_law__1260 rfl 4 rfl ?_
  refine g_cvI (ci := 11) (As := []) mv_L_136 dL_law__1261 rfl hm2 rfl rfl (Nat.le_of_ble_eq_true rfl) (ok_X11_thrown Θ m _ _) (ht _) (by decide) (Nat.zero_le _) (Nat.zero_le _) ?_
  refine G.less (B' := (B.1 - 8, B.2 - 2100)) (by show B.1 - 8 ≤ B.1 - _ - _ - _; omega) (by show B.2 - 2100 ≤ B.2 - _ - _ - _; omega) ?_
  refine g_cmpW (j3 := 5) (j5 := 1) (j6 := 0) (e := 2492) dL_law__1264 dL_law__1266 dL_law__1271 dL_law__1273 dL_law__1276 dL_law__1277 dL_law__1278 dL_law__1279 dL_law__1281 dL_law__1282 dL_law__1283 dL_law__1288 rfl rfl rfl (by decide) rfl rfl rfl ho ?_
  refine G.lsub [2, 3, 4, 5, 6] rfl ?_
  exact K _ _ h
theorem lc_19 (Θ : GP) {b L : Nat} {xs : Nat → Int32} (hX : gX Θ = some (b, L, xs)) (hL : L ≤ 3072) {x m o i : Nat} (hi : i + 6 ≤ L) {tab : List ExceptionTableEntry} {Qv : Option Value → OW → Nat → Prop} {Qx : String → OW → Nat → Prop} {B : Nat × Nat} (hB1 : 8 ≤ B.1) (hB2 : 2100 ≤ B.2) {Inv : OW → Prop} {ω : OW} {n : Nat} (h : stW Θ m o (fun ω n => W_ways Θ x (xs (i + 1)) o ω n) (fun ω n => F_X11_ways Θ m (xs (i + 1)) ω n) Inv ω) (K : ∀ ω' n', Inv ω' → G Θ yL_law_ cL_law_ 7 (some .boolean) 1000 tab Qv Qx (B.1 - 8, B.2 - 2100) 2492 [(0, .ref b), (1, .ref x), (2, .ref m), (3, .ref o), (4, .int (nI i))] [] ω' n') : G Θ yL_law_ cL_law_ 7 (some .boolean) 1000 tab Qv Qx B 1291 [(0, .ref b), (1, .ref x), (2, .ref m), (3, .ref o), (4, .int (nI i))] [] ω n := by
  refine G.fr fun hf => ?_
  obtain ⟨k, ω1, e1, h⟩ := h n hf
  refine g_aload_n dL_law__1291 rfl 1 rfl ?_
  refine g_scr (k := 1) (j0 := 0) (j4 := 4) hX dL_law__1292 dL_law__1293 dL_law__1295 dL_law__1296 dL_law__1297 rfl rfl (by decide) (by omega) (by omega) ?_
  refine g_aload_n dL_law__1298 rfl 3 rfl ?_
  refine g_cw (As := [.ref x, .int (xs (i + 1)), .ref o]) mw_193 dL_law__1299 rfl rfl (Nat.le_of_ble_eq_true rfl) (okW_ways Θ x (xs (i + 1)) o _ _ _ _ e1) (by decide) (by omega) (by omega) fun n2 => ?_
  refine G.fr fun hf1 => ?_
  obtain ⟨hm, v, ω2, n3, e2, hm2, ht, ho, h⟩ := h _ hf1
  refine g_istore (lv' := [(5, .int k), (0, .ref b), (1, .ref x), (2, .ref m), (3, .ref o), (4, .int (nI i))]) dL_law__1302 (by decide) rfl ?_
  refine g_aload_n dL_law__1304 rfl 3 rfl ?_
  refine g_scr (k := 1) (j0 := 1) (j4 := 5) hX dL_law__1305 dL_law__1306 dL_law__1308 dL_law__1309 dL_law__1310 rfl rfl (by decide) (by omega) (by omega) ?_
  refine g_cvI (ci := 11) (As := [.int (xs (i + 1))]) mv_L_195 dL_law__1311 rfl hm rfl rfl (Nat.le_of_ble_eq_true rfl) (ok_X11_ways Θ m (xs (i + 1)) _ _) e2 (by decide) (by show _ ≤ B.1 - _; omega) (by show _ ≤ B.2 - _; omega) ?_
  refine g_istore (lv' := [(6, .int v), (5, .int k), (0, .ref b), (1, .ref x), (2, .ref m), (3, .ref o), (4, .int (nI i))]) dL_law__1314 (by decide) rfl ?_
  refine g_aload_n dL_law__1316 rfl 4 rfl ?_
  refine g_cvI (ci := 11) (As := []) mv_L_136 dL_law__1317 rfl hm2 rfl rfl (Nat.le_of_ble_eq_true rfl) (ok_X11_thrown Θ m _ _) (ht _) (by decide) (Nat.zero_le _) (Nat.zero_le _) ?_
  refine G.less (B' := (B.1 - 8, B.2 - 2100)) (by show B.1 - 8 ≤ B.1 - _ - _ - _; omega) (by show B.2 - 2100 ≤ B.2 - _ - _ - _; omega) ?_
  refine g_cmpW (j3 := 5) (j5 := 1) (j6 := 0) (e := 2492) dL_law__1320 dL_law__1322 dL_law__1327 dL_law__1329 dL_law__1332 dL_law__1333 dL_law__1334 dL_law__1335 dL_law__1337 dL_law__1338 dL_law__1339 dL_law__1344 rfl rfl rfl (by decide) rfl rfl rfl ho ?_
  refine G.lsub [2, 3, 4, 5, 6] rfl ?_
  exact K _ _ h
theorem lc_20 (Θ : GP) {b L : Nat} {xs : Nat → Int32} (hX : gX Θ = some (b, L, xs)) (hL : L ≤ 3072) {x m o i : Nat} (hi : i + 6 ≤ L) {tab : List ExceptionTableEntry} {Qv : Option Value → OW → Nat → Prop} {Qx : String → OW → Nat → Prop} {B : Nat × Nat} (hB1 : 8 ≤ B.1) (hB2 : 2100 ≤ B.2) {Inv : OW → Prop} {ω : OW} {n : Nat} (h : stW Θ m o (fun ω n => W_at Θ x (xs (i + 1)) (xs (i + 2)) o ω n) (fun ω n => F_X11_at Θ m (xs (i + 1)) (xs (i + 2)) ω n) Inv ω) (K : ∀ ω' n', Inv ω' → G Θ yL_law_ cL_law_ 7 (some .boolean) 1000 tab Qv Qx (B.1 - 8, B.2 - 2100) 2492 [(0, .ref b), (1, .ref x), (2, .ref m), (3, .ref o), (4, .int (nI i))] [] ω' n') : G Θ yL_law_ cL_law_ 7 (some .boolean) 1000 tab Qv Qx B 1347 [(0, .ref b), (1, .ref x), (2, .ref m), (3, .ref o), (4, .int (nI i))] [] ω n := by
  refine G.fr fun hf => ?_
  obtain ⟨k, ω1, e1, h⟩ := h n hf
  refine g_aload_n dL_law__1347 rfl 1 rfl ?_
  refine g_scr (k := 1) (j0 := 0) (j4 := 4) hX dL_law__1348 dL_law__1349 dL_law__1351 dL_law__1352 dL_law__1353 rfl rfl (by decide) (by omega) (by omega) ?_
  refine g_scr (k := 2) (j0 := 0) (j4 := 4) hX dL_law__1354 dL_law__1355 dL_law__1357 dL_law__1358 dL_law__1359 rfl rfl (by decide) (by omega) (by omega) ?_
  refine g_aload_n dL_law__1360 rfl 3 rfl ?_
  refine g_cw (As := [.ref x, .int (xs (i + 1)), .int (xs (i + 2)), .ref o]) mw_196 dL_law__1361 rfl rfl (Nat.le_of_ble_eq_true rfl) (okW_at Θ x (xs (i + 1)) (xs (i + 2)) o _ _ _ _ e1) (by decide) (by omega) (by omega) fun n2 => ?_
  refine G.fr fun hf1 => ?_
  obtain ⟨hm, v, ω2, n3, e2, hm2, ht, ho, h⟩ := h _ hf1
  refine g_istore (lv' := [(5, .int k), (0, .ref b), (1, .ref x), (2, .ref m), (3, .ref o), (4, .int (nI i))]) dL_law__1364 (by decide) rfl ?_
  refine g_aload_n dL_law__1366 rfl 3 rfl ?_
  refine g_scr (k := 1) (j0 := 1) (j4 := 5) hX dL_law__1367 dL_law__1368 dL_law__1370 dL_law__1371 dL_law__1372 rfl rfl (by decide) (by omega) (by omega) ?_
  refine g_scr (k := 2) (j0 := 1) (j4 := 5) hX dL_law__1373 dL_law__1374 dL_law__1376 dL_law__1377 dL_law__1378 rfl rfl (by decide) (by omega) (by omega) ?_
  refine g_cvI (ci := 11) (As := [.int (xs (i + 1)), .int (xs (i + 2))]) mv_L_198 dL_law__1379 rfl hm rfl rfl (Nat.le_of_ble_eq_true rfl) (ok_X11_at Θ m (xs (i + 1)) (xs (i + 2)) _ _) e2 (by decide) (by show _ ≤ B.1 - _; omega) (by show _ ≤ B.2 - _; omega) ?_
  refine g_istore (lv' := [(6, .int v), (5, .int k), (0, .ref b), (1, .ref x), (2, .ref m), (3, .ref o), (4, .int (nI i))]) dL_law__1382 (by decide) rfl ?_
  refine g_aload_n dL_law__1384 rfl 4 rfl ?_
  refine g_cvI (ci := 11) (As := []) mv_L_136 dL_law__1385 rfl hm2 rfl rfl (Nat.le_of_ble_eq_true rfl) (ok_X11_thrown Θ m _ _) (ht _) (by decide) (Nat.zero_le _) (Nat.zero_le _) ?_
  refine G.less (B' := (B.1 - 8, B.2 - 2100)) (by show B.1 - 8 ≤ B.1 - _ - _ - _; omega) (by show B.2 - 2100 ≤ B.2 - _ - _ - _; omega) ?_
  refine g_cmpW (j3 := 5) (j5 := 1) (j6 := 0) (e := 2492) dL_law__1388 dL_law__1390 dL_law__1395 dL_law__1397 dL_law__1400 dL_law__1401 dL_law__1402 dL_law__1403 dL_law__1405 dL_law__1406 dL_law__1407 dL_law__1412 rfl rfl rfl (by decide) rfl rfl rfl ho ?_
  refine G.lsub [2, 3, 4, 5, 6] rfl ?_
  exact K _ _ h
theorem lc_21 (Θ : GP) {b L : Nat} {xs : Nat → Int32} (hX : gX Θ = some (b, L, xs)) (hL : L ≤ 3072) {x m o i : Nat} (hi : i + 6 ≤ L) {tab : List ExceptionTableEntry} {Qv : Option Value → OW → Nat → Prop} {Qx : String → OW → Nat → Prop} {B : Nat × Nat} (hB1 : 8 ≤ B.1) (hB2 : 2100 ≤ B.2) {Inv : OW → Prop} {ω : OW} {n : Nat} (h : stW Θ m o (fun ω n => W_odds Θ x (xs (i + 1)) o ω n) (fun ω n => F_X11_odds Θ m (xs (i + 1)) ω n) Inv ω) (K : ∀ ω' n', Inv ω' → G Θ yL_law_ cL_law_ 7 (some .boolean) 1000 tab Qv Qx (B.1 - 8, B.2 - 2100) 2492 [(0, .ref b), (1, .ref x), (2, .ref m), (3, .ref o), (4, .int (nI i))] [] ω' n') : G Θ yL_law_ cL_law_ 7 (some .boolean) 1000 tab Qv Qx B 1415 [(0, .ref b), (1, .ref x), (2, .ref m), (3, .ref o), (4, .int (nI i))] [] ω n := by
  refine G.fr fun hf => ?_
  obtain ⟨k, ω1, e1, h⟩ := h n hf
  refine g_aload_n dL_law__1415 rfl 1 rfl ?_
  refine g_scr (k := 1) (j0 := 0) (j4 := 4) hX dL_law__1416 dL_law__1417 dL_law__1419 dL_law__1420 dL_law__1421 rfl rfl (by decide) (by omega) (by omega) ?_
  refine g_aload_n dL_law__1422 rfl 3 rfl ?_
  refine g_cw (As := [.ref x, .int (xs (i + 1)), .ref o]) mw_199 dL_law__1423 rfl rfl (Nat.le_of_ble_eq_true rfl) (okW_odds Θ x (xs (i + 1)) o _ _ _ _ e1) (by decide) (by omega) (by omega) fun n2 => ?_
  refine G.fr fun hf1 => ?_
  obtain ⟨hm, v, ω2, n3, e2, hm2, ht, ho, h⟩ := h _ hf1
  refine g_istore (lv' := [(5, .int k), (0, .ref b), (1, .ref x), (2, .ref m), (3, .ref o), (4, .int (nI i))]) dL_law__1426 (by decide) rfl ?_
  refine g_aload_n dL_law__1428 rfl 3 rfl ?_
  refine g_scr (k := 1) (j0 := 1) (j4 := 5) hX dL_law__1429 dL_law__1430 dL_law__1432 dL_law__1433 dL_law__1434 rfl rfl (by decide) (by omega) (by omega) ?_
  refine g_cvI (ci := 11) (As := [.int (xs (i + 1))]) mv_L_201 dL_law__1435 rfl hm rfl rfl (Nat.le_of_ble_eq_true rfl) (ok_X11_odds Θ m (xs (i + 1)) _ _) e2 (by decide) (by show _ ≤ B.1 - _; omega) (by show _ ≤ B.2 - _; omega) ?_
  refine g_istore (lv' := [(6, .int v), (5, .int k), (0, .ref b), (1, .ref x), (2, .ref m), (3, .ref o), (4, .int (nI i))]) dL_law__1438 (by decide) rfl ?_
  refine g_aload_n dL_law__1440 rfl 4 rfl ?_
  refine g_cvI (ci := 11) (As := []) mv_L_136 dL_law__1441 rfl hm2 rfl rfl (Nat.le_of_ble_eq_true rfl) (ok_X11_thrown Θ m _ _) (ht _) (by decide) (Nat.zero_le _) (Nat.zero_le _) ?_
  refine G.less (B' := (B.1 - 8, B.2 - 2100)) (by show B.1 - 8 ≤ B.1 - _ - _ - _; omega) (by show B.2 - 2100 ≤ B.2 - _ - _ - _; omega) ?_
  refine g_cmpW (j3 := 5) (j5 := 1) (j6 := 0) (e := 2492) dL_law__1444 dL_law__1446 dL_law__1451 dL_law__1453 dL_law__1456 dL_law__1457 dL_law__1458 dL_law__1459 dL_law__1461 dL_law__1462 dL_law__1463 dL_law__1468 rfl rfl rfl (by decide) rfl rfl rfl ho ?_
  refine G.lsub [2, 3, 4, 5, 6] rfl ?_
  exact K _ _ h
theorem lc_22 (Θ : GP) {b L : Nat} {xs : Nat → Int32} (hX : gX Θ = some (b, L, xs)) (hL : L ≤ 3072) {x m o i : Nat} (hi : i + 6 ≤ L) {tab : List ExceptionTableEntry} {Qv : Option Value → OW → Nat → Prop} {Qx : String → OW → Nat → Prop} {B : Nat × Nat} (hB1 : 8 ≤ B.1) (hB2 : 2100 ≤ B.2) {Inv : OW → Prop} {ω : OW} {n : Nat} (h : stI x m (fun ω n => F_X10_gap Θ x ω n) (fun ω n => F_X11_gap Θ m ω n) Inv ω) (K : ∀ ω' n', Inv ω' → G Θ yL_law_ cL_law_ 7 (some .boolean) 1000 tab Qv Qx (B.1 - 8, B.2 - 2100) 2492 [(0, .ref b), (1, .ref x), (2, .ref m), (3, .ref o), (4, .int (nI i))] [] ω' n') : G Θ yL_law_ cL_law_ 7 (some .boolean) 1000 tab Qv Qx B 1471 [(0, .ref b), (1, .ref x), (2, .ref m), (3, .ref o), (4, .int (nI i))] [] ω n := by
  refine G.fr fun hf => ?_
  obtain ⟨hx, v, ω1, n1, e1, h⟩ := h n hf
  refine g_aload_n dL_law__1471 rfl 1 rfl ?_
  refine g_cvI (ci := 10) (As := []) mv_L_202 dL_law__1472 rfl hx rfl rfl (Nat.le_of_ble_eq_true rfl) (ok_X10_gap Θ x _ _) e1 (by decide) (by omega) (by omega) ?_
  refine G.fr fun hf1 => ?_
  obtain ⟨hm, ω2, n3, e2, h⟩ := h _ hf1
  refine g_aload_n dL_law__1475 rfl 2 rfl ?_
  refine g_cvI (ci := 11) (As := []) mv_L_205 dL_law__1476 rfl hm rfl rfl (Nat.le_of_ble_eq_true rfl) (ok_X11_gap Θ m _ _) e2 (by decide) (by show _ ≤ B.1 - _; omega) (by show _ ≤ B.2 - _; omega) ?_
  refine G.less (B' := (B.1 - 8, B.2 - 2100)) (by show B.1 - 8 ≤ B.1 - _ - _; omega) (by show B.2 - 2100 ≤ B.2 - _ - _; omega) ?_
  exact g_icmp_eq (tgt := 2492) dL_law__1479 (by decide) (fun _ => K _ _ h) (fun c => absurd rfl c)
theorem lc_23 (Θ : GP) {b L : Nat} {xs : Nat → Int32} (hX : gX Θ = some (b, L, xs)) (hL : L ≤ 3072) {x m o i : Nat} (hi : i + 6 ≤ L) {tab : List ExceptionTableEntry} {Qv : Option Value → OW → Nat → Prop} {Qx : String → OW → Nat → Prop} {B : Nat × Nat} (hB1 : 8 ≤ B.1) (hB2 : 2100 ≤ B.2) {Inv : OW → Prop} {ω : OW} {n : Nat} (h : stI x m (fun ω n => F_X10_errors Θ x (bI (xs (i + 1))) ω n) (fun ω n => F_X11_errors Θ m (bI (xs (i + 1))) ω n) Inv ω) (K : ∀ ω' n', Inv ω' → G Θ yL_law_ cL_law_ 7 (some .boolean) 1000 tab Qv Qx (B.1 - 8, B.2 - 2100) 2492 [(0, .ref b), (1, .ref x), (2, .ref m), (3, .ref o), (4, .int (nI i))] [] ω' n') : G Θ yL_law_ cL_law_ 7 (some .boolean) 1000 tab Qv Qx B 1484 [(0, .ref b), (1, .ref x), (2, .ref m), (3, .ref o), (4, .int (nI i))] [] ω n := by
  refine G.fr fun hf => ?_
  obtain ⟨hx, v, ω1, n1, e1, h⟩ := h n hf
  refine g_aload_n dL_law__1484 rfl 1 rfl ?_
  refine g_scr (k := 1) (j0 := 0) (j4 := 4) hX dL_law__1485 dL_law__1486 dL_law__1488 dL_law__1489 dL_law__1490 rfl rfl (by decide) (by omega) (by omega) ?_
  refine g_bx dL_law__1491 dL_law__1494 dL_law__1495 dL_law__1498 rfl rfl ?_
  refine g_cvI (ci := 10) (As := [.int (bI (xs (i + 1)))]) mv_L_206 dL_law__1499 rfl hx rfl rfl (Nat.le_of_ble_eq_true rfl) (ok_X10_errors Θ x (bI (xs (i + 1))) _ _) e1 (by decide) (by omega) (by omega) ?_
  refine G.fr fun hf1 => ?_
  obtain ⟨hm, ω2, n3, e2, h⟩ := h _ hf1
  refine g_aload_n dL_law__1502 rfl 2 rfl ?_
  refine g_scr (k := 1) (j0 := 0) (j4 := 4) hX dL_law__1503 dL_law__1504 dL_law__1506 dL_law__1507 dL_law__1508 rfl rfl (by decide) (by omega) (by omega) ?_
  refine g_bx dL_law__1509 dL_law__1512 dL_law__1513 dL_law__1516 rfl rfl ?_
  refine g_cvI (ci := 11) (As := [.int (bI (xs (i + 1)))]) mv_L_210 dL_law__1517 rfl hm rfl rfl (Nat.le_of_ble_eq_true rfl) (ok_X11_errors Θ m (bI (xs (i + 1))) _ _) e2 (by decide) (by show _ ≤ B.1 - _; omega) (by show _ ≤ B.2 - _; omega) ?_
  refine G.less (B' := (B.1 - 8, B.2 - 2100)) (by show B.1 - 8 ≤ B.1 - _ - _; omega) (by show B.2 - 2100 ≤ B.2 - _ - _; omega) ?_
  exact g_icmp_eq (tgt := 2492) dL_law__1520 (by decide) (fun _ => K _ _ h) (fun c => absurd rfl c)
theorem lc_24 (Θ : GP) {b L : Nat} {xs : Nat → Int32} (hX : gX Θ = some (b, L, xs)) (hL : L ≤ 3072) {x m o i : Nat} (hi : i + 6 ≤ L) {tab : List ExceptionTableEntry} {Qv : Option Value → OW → Nat → Prop} {Qx : String → OW → Nat → Prop} {B : Nat × Nat} (hB1 : 8 ≤ B.1) (hB2 : 2100 ≤ B.2) {Inv : OW → Prop} {ω : OW} {n : Nat} (h : stI x m (fun ω n => F_X10_swap Θ x ω n) (fun ω n => F_X11_swap Θ m ω n) Inv ω) (K : ∀ ω' n', Inv ω' → G Θ yL_law_ cL_law_ 7 (some .boolean) 1000 tab Qv Qx (B.1 - 8, B.2 - 2100) 2492 [(0, .ref b), (1, .ref x), (2, .ref m), (3, .ref o), (4, .int (nI i))] [] ω' n') : G Θ yL_law_ cL_law_ 7 (some .boolean) 1000 tab Qv Qx B 1525 [(0, .ref b), (1, .ref x), (2, .ref m), (3, .ref o), (4, .int (nI i))] [] ω n := by
  refine G.fr fun hf => ?_
  obtain ⟨hx, v, ω1, n1, e1, h⟩ := h n hf
  refine g_aload_n dL_law__1525 rfl 1 rfl ?_
  refine g_cvI (ci := 10) (As := []) mv_L_211 dL_law__1526 rfl hx rfl rfl (Nat.le_of_ble_eq_true rfl) (ok_X10_swap Θ x _ _) e1 (by decide) (by omega) (by omega) ?_
  refine G.fr fun hf1 => ?_
  obtain ⟨hm, ω2, n3, e2, h⟩ := h _ hf1
  refine g_aload_n dL_law__1529 rfl 2 rfl ?_
  refine g_cvI (ci := 11) (As := []) mv_L_214 dL_law__1530 rfl hm rfl rfl (Nat.le_of_ble_eq_true rfl) (ok_X11_swap Θ m _ _) e2 (by decide) (by show _ ≤ B.1 - _; omega) (by show _ ≤ B.2 - _; omega) ?_
  refine G.less (B' := (B.1 - 8, B.2 - 2100)) (by show B.1 - 8 ≤ B.1 - _ - _; omega) (by show B.2 - 2100 ≤ B.2 - _ - _; omega) ?_
  exact g_icmp_eq (tgt := 2492) dL_law__1533 (by decide) (fun _ => K _ _ h) (fun c => absurd rfl c)
theorem lc_25 (Θ : GP) {b L : Nat} {xs : Nat → Int32} (hX : gX Θ = some (b, L, xs)) (hL : L ≤ 3072) {x m o i : Nat} (hi : i + 6 ≤ L) {tab : List ExceptionTableEntry} {Qv : Option Value → OW → Nat → Prop} {Qx : String → OW → Nat → Prop} {B : Nat × Nat} (hB1 : 8 ≤ B.1) (hB2 : 2100 ≤ B.2) {Inv : OW → Prop} {ω : OW} {n : Nat} (h : stI x m (fun ω n => F_X10_next Θ x ω n) (fun ω n => F_X11_next Θ m ω n) Inv ω) (K : ∀ ω' n', Inv ω' → G Θ yL_law_ cL_law_ 7 (some .boolean) 1000 tab Qv Qx (B.1 - 8, B.2 - 2100) 2492 [(0, .ref b), (1, .ref x), (2, .ref m), (3, .ref o), (4, .int (nI i))] [] ω' n') : G Θ yL_law_ cL_law_ 7 (some .boolean) 1000 tab Qv Qx B 1538 [(0, .ref b), (1, .ref x), (2, .ref m), (3, .ref o), (4, .int (nI i))] [] ω n := by
  refine G.fr fun hf => ?_
  obtain ⟨hx, v, ω1, n1, e1, h⟩ := h n hf
  refine g_aload_n dL_law__1538 rfl 1 rfl ?_
  refine g_cvI (ci := 10) (As := []) mv_L_215 dL_law__1539 rfl hx rfl rfl (Nat.le_of_ble_eq_true rfl) (ok_X10_next Θ x _ _) e1 (by decide) (by omega) (by omega) ?_
  refine G.fr fun hf1 => ?_
  obtain ⟨hm, ω2, n3, e2, h⟩ := h _ hf1
  refine g_aload_n dL_law__1542 rfl 2 rfl ?_
  refine g_cvI (ci := 11) (As := []) mv_L_218 dL_law__1543 rfl hm rfl rfl (Nat.le_of_ble_eq_true rfl) (ok_X11_next Θ m _ _) e2 (by decide) (by show _ ≤ B.1 - _; omega) (by show _ ≤ B.2 - _; omega) ?_
  refine G.less (B' := (B.1 - 8, B.2 - 2100)) (by show B.1 - 8 ≤ B.1 - _ - _; omega) (by show B.2 - 2100 ≤ B.2 - _ - _; omega) ?_
  exact g_icmp_eq (tgt := 2492) dL_law__1546 (by decide) (fun _ => K _ _ h) (fun c => absurd rfl c)
theorem lc_26 (Θ : GP) {b L : Nat} {xs : Nat → Int32} (hX : gX Θ = some (b, L, xs)) (hL : L ≤ 3072) {x m o i : Nat} (hi : i + 6 ≤ L) {tab : List ExceptionTableEntry} {Qv : Option Value → OW → Nat → Prop} {Qx : String → OW → Nat → Prop} {B : Nat × Nat} (hB1 : 8 ≤ B.1) (hB2 : 2100 ≤ B.2) {Inv : OW → Prop} {ω : OW} {n : Nat} (h : stW Θ m o (fun ω n => W_found Θ x (xs (i + 1)) (bI (xs (i + 2))) o ω n) (fun ω n => F_X11_found Θ m (xs (i + 1)) (bI (xs (i + 2))) ω n) Inv ω) (K : ∀ ω' n', Inv ω' → G Θ yL_law_ cL_law_ 7 (some .boolean) 1000 tab Qv Qx (B.1 - 8, B.2 - 2100) 2492 [(0, .ref b), (1, .ref x), (2, .ref m), (3, .ref o), (4, .int (nI i))] [] ω' n') : G Θ yL_law_ cL_law_ 7 (some .boolean) 1000 tab Qv Qx B 1551 [(0, .ref b), (1, .ref x), (2, .ref m), (3, .ref o), (4, .int (nI i))] [] ω n := by
  refine G.fr fun hf => ?_
  obtain ⟨k, ω1, e1, h⟩ := h n hf
  refine g_aload_n dL_law__1551 rfl 1 rfl ?_
  refine g_scr (k := 1) (j0 := 0) (j4 := 4) hX dL_law__1552 dL_law__1553 dL_law__1555 dL_law__1556 dL_law__1557 rfl rfl (by decide) (by omega) (by omega) ?_
  refine g_scr (k := 2) (j0 := 0) (j4 := 4) hX dL_law__1558 dL_law__1559 dL_law__1561 dL_law__1562 dL_law__1563 rfl rfl (by decide) (by omega) (by omega) ?_
  refine g_bx dL_law__1564 dL_law__1567 dL_law__1568 dL_law__1571 rfl rfl ?_
  refine g_aload_n dL_law__1572 rfl 3 rfl ?_
  refine g_cw (As := [.ref x, .int (xs (i + 1)), .int (bI (xs (i + 2))), .ref o]) mw_219 dL_law__1573 rfl rfl (Nat.le_of_ble_eq_true rfl) (okW_found Θ x (xs (i + 1)) (bI (xs (i + 2))) o _ _ _ _ e1) (by decide) (by omega) (by omega) fun n2 => ?_
  refine G.fr fun hf1 => ?_
  obtain ⟨hm, v, ω2, n3, e2, hm2, ht, ho, h⟩ := h _ hf1
  refine g_istore (lv' := [(5, .int k), (0, .ref b), (1, .ref x), (2, .ref m), (3, .ref o), (4, .int (nI i))]) dL_law__1576 (by decide) rfl ?_
  refine g_aload_n dL_law__1578 rfl 3 rfl ?_
  refine g_scr (k := 1) (j0 := 1) (j4 := 5) hX dL_law__1579 dL_law__1580 dL_law__1582 dL_law__1583 dL_law__1584 rfl rfl (by decide) (by omega) (by omega) ?_
  refine g_scr (k := 2) (j0 := 1) (j4 := 5) hX dL_law__1585 dL_law__1586 dL_law__1588 dL_law__1589 dL_law__1590 rfl rfl (by decide) (by omega) (by omega) ?_
  refine g_bx dL_law__1591 dL_law__1594 dL_law__1595 dL_law__1598 rfl rfl ?_
  refine g_cvI (ci := 11) (As := [.int (xs (i + 1)), .int (bI (xs (i + 2)))]) mv_L_222 dL_law__1599 rfl hm rfl rfl (Nat.le_of_ble_eq_true rfl) (ok_X11_found Θ m (xs (i + 1)) (bI (xs (i + 2))) _ _) e2 (by decide) (by show _ ≤ B.1 - _; omega) (by show _ ≤ B.2 - _; omega) ?_
  refine g_istore (lv' := [(6, .int v), (5, .int k), (0, .ref b), (1, .ref x), (2, .ref m), (3, .ref o), (4, .int (nI i))]) dL_law__1602 (by decide) rfl ?_
  refine g_aload_n dL_law__1604 rfl 4 rfl ?_
  refine g_cvI (ci := 11) (As := []) mv_L_136 dL_law__1605 rfl hm2 rfl rfl (Nat.le_of_ble_eq_true rfl) (ok_X11_thrown Θ m _ _) (ht _) (by decide) (Nat.zero_le _) (Nat.zero_le _) ?_
  refine G.less (B' := (B.1 - 8, B.2 - 2100)) (by show B.1 - 8 ≤ B.1 - _ - _ - _; omega) (by show B.2 - 2100 ≤ B.2 - _ - _ - _; omega) ?_
  refine g_cmpW (j3 := 5) (j5 := 1) (j6 := 0) (e := 2492) dL_law__1608 dL_law__1610 dL_law__1615 dL_law__1617 dL_law__1620 dL_law__1621 dL_law__1622 dL_law__1623 dL_law__1625 dL_law__1626 dL_law__1627 dL_law__1632 rfl rfl rfl (by decide) rfl rfl rfl ho ?_
  refine G.lsub [2, 3, 4, 5, 6] rfl ?_
  exact K _ _ h
theorem lc_27 (Θ : GP) {b L : Nat} {xs : Nat → Int32} (hX : gX Θ = some (b, L, xs)) (hL : L ≤ 3072) {x m o i : Nat} (hi : i + 6 ≤ L) {tab : List ExceptionTableEntry} {Qv : Option Value → OW → Nat → Prop} {Qx : String → OW → Nat → Prop} {B : Nat × Nat} (hB1 : 8 ≤ B.1) (hB2 : 2100 ≤ B.2) {Inv : OW → Prop} {ω : OW} {n : Nat} (h : stW Θ m o (fun ω n => W_ask Θ x (xs (i + 1)) o ω n) (fun ω n => F_X11_ask Θ m (xs (i + 1)) ω n) Inv ω) (K : ∀ ω' n', Inv ω' → G Θ yL_law_ cL_law_ 7 (some .boolean) 1000 tab Qv Qx (B.1 - 8, B.2 - 2100) 2492 [(0, .ref b), (1, .ref x), (2, .ref m), (3, .ref o), (4, .int (nI i))] [] ω' n') : G Θ yL_law_ cL_law_ 7 (some .boolean) 1000 tab Qv Qx B 1635 [(0, .ref b), (1, .ref x), (2, .ref m), (3, .ref o), (4, .int (nI i))] [] ω n := by
  refine G.fr fun hf => ?_
  obtain ⟨k, ω1, e1, h⟩ := h n hf
  refine g_aload_n dL_law__1635 rfl 1 rfl ?_
  refine g_scr (k := 1) (j0 := 0) (j4 := 4) hX dL_law__1636 dL_law__1637 dL_law__1639 dL_law__1640 dL_law__1641 rfl rfl (by decide) (by omega) (by omega) ?_
  refine g_aload_n dL_law__1642 rfl 3 rfl ?_
  refine g_cw (As := [.ref x, .int (xs (i + 1)), .ref o]) mw_223 dL_law__1643 rfl rfl (Nat.le_of_ble_eq_true rfl) (okW_ask Θ x (xs (i + 1)) o _ _ _ _ e1) (by decide) (by omega) (by omega) fun n2 => ?_
  refine G.fr fun hf1 => ?_
  obtain ⟨hm, v, ω2, n3, e2, hm2, ht, ho, h⟩ := h _ hf1
  refine g_istore (lv' := [(5, .int k), (0, .ref b), (1, .ref x), (2, .ref m), (3, .ref o), (4, .int (nI i))]) dL_law__1646 (by decide) rfl ?_
  refine g_aload_n dL_law__1648 rfl 3 rfl ?_
  refine g_scr (k := 1) (j0 := 1) (j4 := 5) hX dL_law__1649 dL_law__1650 dL_law__1652 dL_law__1653 dL_law__1654 rfl rfl (by decide) (by omega) (by omega) ?_
  refine g_cvI (ci := 11) (As := [.int (xs (i + 1))]) mv_L_225 dL_law__1655 rfl hm rfl rfl (Nat.le_of_ble_eq_true rfl) (ok_X11_ask Θ m (xs (i + 1)) _ _) e2 (by decide) (by show _ ≤ B.1 - _; omega) (by show _ ≤ B.2 - _; omega) ?_
  refine g_istore (lv' := [(6, .int v), (5, .int k), (0, .ref b), (1, .ref x), (2, .ref m), (3, .ref o), (4, .int (nI i))]) dL_law__1658 (by decide) rfl ?_
  refine g_aload_n dL_law__1660 rfl 4 rfl ?_
  refine g_cvI (ci := 11) (As := []) mv_L_136 dL_law__1661 rfl hm2 rfl rfl (Nat.le_of_ble_eq_true rfl) (ok_X11_thrown Θ m _ _) (ht _) (by decide) (Nat.zero_le _) (Nat.zero_le _) ?_
  refine G.less (B' := (B.1 - 8, B.2 - 2100)) (by show B.1 - 8 ≤ B.1 - _ - _ - _; omega) (by show B.2 - 2100 ≤ B.2 - _ - _ - _; omega) ?_
  refine g_cmpW (j3 := 5) (j5 := 1) (j6 := 0) (e := 2492) dL_law__1664 dL_law__1666 dL_law__1671 dL_law__1673 dL_law__1676 dL_law__1677 dL_law__1678 dL_law__1679 dL_law__1681 dL_law__1682 dL_law__1683 dL_law__1688 rfl rfl rfl (by decide) rfl rfl rfl ho ?_
  refine G.lsub [2, 3, 4, 5, 6] rfl ?_
  exact K _ _ h
theorem lc_28 (Θ : GP) {b L : Nat} {xs : Nat → Int32} (hX : gX Θ = some (b, L, xs)) (hL : L ≤ 3072) {x m o i : Nat} (hi : i + 6 ≤ L) {tab : List ExceptionTableEntry} {Qv : Option Value → OW → Nat → Prop} {Qx : String → OW → Nat → Prop} {B : Nat × Nat} (hB1 : 8 ≤ B.1) (hB2 : 2100 ≤ B.2) {Inv : OW → Prop} {ω : OW} {n : Nat} (h : stW Θ m o (fun ω n => W_car Θ x (xs (i + 1)) (xs (i + 2)) o ω n) (fun ω n => F_X11_car Θ m (xs (i + 1)) (xs (i + 2)) ω n) Inv ω) (K : ∀ ω' n', Inv ω' → G Θ yL_law_ cL_law_ 7 (some .boolean) 1000 tab Qv Qx (B.1 - 8, B.2 - 2100) 2492 [(0, .ref b), (1, .ref x), (2, .ref m), (3, .ref o), (4, .int (nI i))] [] ω' n') : G Θ yL_law_ cL_law_ 7 (some .boolean) 1000 tab Qv Qx B 1691 [(0, .ref b), (1, .ref x), (2, .ref m), (3, .ref o), (4, .int (nI i))] [] ω n := by
  refine G.fr fun hf => ?_
  obtain ⟨k, ω1, e1, h⟩ := h n hf
  refine g_aload_n dL_law__1691 rfl 1 rfl ?_
  refine g_scr (k := 1) (j0 := 0) (j4 := 4) hX dL_law__1692 dL_law__1693 dL_law__1695 dL_law__1696 dL_law__1697 rfl rfl (by decide) (by omega) (by omega) ?_
  refine g_scr (k := 2) (j0 := 0) (j4 := 4) hX dL_law__1698 dL_law__1699 dL_law__1701 dL_law__1702 dL_law__1703 rfl rfl (by decide) (by omega) (by omega) ?_
  refine g_aload_n dL_law__1704 rfl 3 rfl ?_
  refine g_cw (As := [.ref x, .int (xs (i + 1)), .int (xs (i + 2)), .ref o]) mw_226 dL_law__1705 rfl rfl (Nat.le_of_ble_eq_true rfl) (okW_car Θ x (xs (i + 1)) (xs (i + 2)) o _ _ _ _ e1) (by decide) (by omega) (by omega) fun n2 => ?_
  refine G.fr fun hf1 => ?_
  obtain ⟨hm, v, ω2, n3, e2, hm2, ht, ho, h⟩ := h _ hf1
  refine g_istore (lv' := [(5, .int k), (0, .ref b), (1, .ref x), (2, .ref m), (3, .ref o), (4, .int (nI i))]) dL_law__1708 (by decide) rfl ?_
  refine g_aload_n dL_law__1710 rfl 3 rfl ?_
  refine g_scr (k := 1) (j0 := 1) (j4 := 5) hX dL_law__1711 dL_law__1712 dL_law__1714 dL_law__1715 dL_law__1716 rfl rfl (by decide) (by omega) (by omega) ?_
  refine g_scr (k := 2) (j0 := 1) (j4 := 5) hX dL_law__1717 dL_law__1718 dL_law__1720 dL_law__1721 dL_law__1722 rfl rfl (by decide) (by omega) (by omega) ?_
  refine g_cvI (ci := 11) (As := [.int (xs (i + 1)), .int (xs (i + 2))]) mv_L_228 dL_law__1723 rfl hm rfl rfl (Nat.le_of_ble_eq_true rfl) (ok_X11_car Θ m (xs (i + 1)) (xs (i + 2)) _ _) e2 (by decide) (by show _ ≤ B.1 - _; omega) (by show _ ≤ B.2 - _; omega) ?_
  refine g_istore (lv' := [(6, .int v), (5, .int k), (0, .ref b), (1, .ref x), (2, .ref m), (3, .ref o), (4, .int (nI i))]) dL_law__1726 (by decide) rfl ?_
  refine g_aload_n dL_law__1728 rfl 4 rfl ?_
  refine g_cvI (ci := 11) (As := []) mv_L_136 dL_law__1729 rfl hm2 rfl rfl (Nat.le_of_ble_eq_true rfl) (ok_X11_thrown Θ m _ _) (ht _) (by decide) (Nat.zero_le _) (Nat.zero_le _) ?_
  refine G.less (B' := (B.1 - 8, B.2 - 2100)) (by show B.1 - 8 ≤ B.1 - _ - _ - _; omega) (by show B.2 - 2100 ≤ B.2 - _ - _ - _; omega) ?_
  refine g_cmpW (j3 := 5) (j5 := 1) (j6 := 0) (e := 2492) dL_law__1732 dL_law__1734 dL_law__1739 dL_law__1741 dL_law__1744 dL_law__1745 dL_law__1746 dL_law__1747 dL_law__1749 dL_law__1750 dL_law__1751 dL_law__1756 rfl rfl rfl (by decide) rfl rfl rfl ho ?_
  refine G.lsub [2, 3, 4, 5, 6] rfl ?_
  exact K _ _ h
theorem lc_29 (Θ : GP) {b L : Nat} {xs : Nat → Int32} (hX : gX Θ = some (b, L, xs)) (hL : L ≤ 3072) {x m o i : Nat} (hi : i + 6 ≤ L) {tab : List ExceptionTableEntry} {Qv : Option Value → OW → Nat → Prop} {Qx : String → OW → Nat → Prop} {B : Nat × Nat} (hB1 : 8 ≤ B.1) (hB2 : 2100 ≤ B.2) {Inv : OW → Prop} {ω : OW} {n : Nat} (h : stW Θ m o (fun ω n => W_corners Θ x (xs (i + 1)) o ω n) (fun ω n => F_X11_corners Θ m (xs (i + 1)) ω n) Inv ω) (K : ∀ ω' n', Inv ω' → G Θ yL_law_ cL_law_ 7 (some .boolean) 1000 tab Qv Qx (B.1 - 8, B.2 - 2100) 2492 [(0, .ref b), (1, .ref x), (2, .ref m), (3, .ref o), (4, .int (nI i))] [] ω' n') : G Θ yL_law_ cL_law_ 7 (some .boolean) 1000 tab Qv Qx B 1759 [(0, .ref b), (1, .ref x), (2, .ref m), (3, .ref o), (4, .int (nI i))] [] ω n := by
  refine G.fr fun hf => ?_
  obtain ⟨k, ω1, e1, h⟩ := h n hf
  refine g_aload_n dL_law__1759 rfl 1 rfl ?_
  refine g_scr (k := 1) (j0 := 0) (j4 := 4) hX dL_law__1760 dL_law__1761 dL_law__1763 dL_law__1764 dL_law__1765 rfl rfl (by decide) (by omega) (by omega) ?_
  refine g_aload_n dL_law__1766 rfl 3 rfl ?_
  refine g_cw (As := [.ref x, .int (xs (i + 1)), .ref o]) mw_229 dL_law__1767 rfl rfl (Nat.le_of_ble_eq_true rfl) (okW_corners Θ x (xs (i + 1)) o _ _ _ _ e1) (by decide) (by omega) (by omega) fun n2 => ?_
  refine G.fr fun hf1 => ?_
  obtain ⟨hm, v, ω2, n3, e2, hm2, ht, ho, h⟩ := h _ hf1
  refine g_istore (lv' := [(5, .int k), (0, .ref b), (1, .ref x), (2, .ref m), (3, .ref o), (4, .int (nI i))]) dL_law__1770 (by decide) rfl ?_
  refine g_aload_n dL_law__1772 rfl 3 rfl ?_
  refine g_scr (k := 1) (j0 := 1) (j4 := 5) hX dL_law__1773 dL_law__1774 dL_law__1776 dL_law__1777 dL_law__1778 rfl rfl (by decide) (by omega) (by omega) ?_
  refine g_cvI (ci := 11) (As := [.int (xs (i + 1))]) mv_L_231 dL_law__1779 rfl hm rfl rfl (Nat.le_of_ble_eq_true rfl) (ok_X11_corners Θ m (xs (i + 1)) _ _) e2 (by decide) (by show _ ≤ B.1 - _; omega) (by show _ ≤ B.2 - _; omega) ?_
  refine g_istore (lv' := [(6, .int v), (5, .int k), (0, .ref b), (1, .ref x), (2, .ref m), (3, .ref o), (4, .int (nI i))]) dL_law__1782 (by decide) rfl ?_
  refine g_aload_n dL_law__1784 rfl 4 rfl ?_
  refine g_cvI (ci := 11) (As := []) mv_L_136 dL_law__1785 rfl hm2 rfl rfl (Nat.le_of_ble_eq_true rfl) (ok_X11_thrown Θ m _ _) (ht _) (by decide) (Nat.zero_le _) (Nat.zero_le _) ?_
  refine G.less (B' := (B.1 - 8, B.2 - 2100)) (by show B.1 - 8 ≤ B.1 - _ - _ - _; omega) (by show B.2 - 2100 ≤ B.2 - _ - _ - _; omega) ?_
  refine g_cmpW (j3 := 5) (j5 := 1) (j6 := 0) (e := 2492) dL_law__1788 dL_law__1790 dL_law__1795 dL_law__1797 dL_law__1800 dL_law__1801 dL_law__1802 dL_law__1803 dL_law__1805 dL_law__1806 dL_law__1807 dL_law__1812 rfl rfl rfl (by decide) rfl rfl rfl ho ?_
  refine G.lsub [2, 3, 4, 5, 6] rfl ?_
  exact K _ _ h
theorem lc_30 (Θ : GP) {b L : Nat} {xs : Nat → Int32} (hX : gX Θ = some (b, L, xs)) (hL : L ≤ 3072) {x m o i : Nat} (hi : i + 6 ≤ L) {tab : List ExceptionTableEntry} {Qv : Option Value → OW → Nat → Prop} {Qx : String → OW → Nat → Prop} {B : Nat × Nat} (hB1 : 8 ≤ B.1) (hB2 : 2100 ≤ B.2) {Inv : OW → Prop} {ω : OW} {n : Nat} (h : stI x m (fun ω n => F_X10_cover Θ x ω n) (fun ω n => F_X11_cover Θ m ω n) Inv ω) (K : ∀ ω' n', Inv ω' → G Θ yL_law_ cL_law_ 7 (some .boolean) 1000 tab Qv Qx (B.1 - 8, B.2 - 2100) 2492 [(0, .ref b), (1, .ref x), (2, .ref m), (3, .ref o), (4, .int (nI i))] [] ω' n') : G Θ yL_law_ cL_law_ 7 (some .boolean) 1000 tab Qv Qx B 1815 [(0, .ref b), (1, .ref x), (2, .ref m), (3, .ref o), (4, .int (nI i))] [] ω n := by
  refine G.fr fun hf => ?_
  obtain ⟨hx, v, ω1, n1, e1, h⟩ := h n hf
  refine g_aload_n dL_law__1815 rfl 1 rfl ?_
  refine g_cvI (ci := 10) (As := []) mv_L_232 dL_law__1816 rfl hx rfl rfl (Nat.le_of_ble_eq_true rfl) (ok_X10_cover Θ x _ _) e1 (by decide) (by omega) (by omega) ?_
  refine G.fr fun hf1 => ?_
  obtain ⟨hm, ω2, n3, e2, h⟩ := h _ hf1
  refine g_aload_n dL_law__1819 rfl 2 rfl ?_
  refine g_cvI (ci := 11) (As := []) mv_L_235 dL_law__1820 rfl hm rfl rfl (Nat.le_of_ble_eq_true rfl) (ok_X11_cover Θ m _ _) e2 (by decide) (by show _ ≤ B.1 - _; omega) (by show _ ≤ B.2 - _; omega) ?_
  refine G.less (B' := (B.1 - 8, B.2 - 2100)) (by show B.1 - 8 ≤ B.1 - _ - _; omega) (by show B.2 - 2100 ≤ B.2 - _ - _; omega) ?_
  exact g_icmp_eq (tgt := 2492) dL_law__1823 (by decide) (fun _ => K _ _ h) (fun c => absurd rfl c)
theorem lc_31 (Θ : GP) {b L : Nat} {xs : Nat → Int32} (hX : gX Θ = some (b, L, xs)) (hL : L ≤ 3072) {x m o i : Nat} (hi : i + 6 ≤ L) {tab : List ExceptionTableEntry} {Qv : Option Value → OW → Nat → Prop} {Qx : String → OW → Nat → Prop} {B : Nat × Nat} (hB1 : 8 ≤ B.1) (hB2 : 2100 ≤ B.2) {Inv : OW → Prop} {ω : OW} {n : Nat} (h : stI x m (fun ω n => F_X10_leave Θ x ω n) (fun ω n => F_X11_leave Θ m ω n) Inv ω) (K : ∀ ω' n', Inv ω' → G Θ yL_law_ cL_law_ 7 (some .boolean) 1000 tab Qv Qx (B.1 - 8, B.2 - 2100) 2492 [(0, .ref b), (1, .ref x), (2, .ref m), (3, .ref o), (4, .int (nI i))] [] ω' n') : G Θ yL_law_ cL_law_ 7 (some .boolean) 1000 tab Qv Qx B 1828 [(0, .ref b), (1, .ref x), (2, .ref m), (3, .ref o), (4, .int (nI i))] [] ω n := by
  refine G.fr fun hf => ?_
  obtain ⟨hx, v, ω1, n1, e1, h⟩ := h n hf
  refine g_aload_n dL_law__1828 rfl 1 rfl ?_
  refine g_cvI (ci := 10) (As := []) mv_L_236 dL_law__1829 rfl hx rfl rfl (Nat.le_of_ble_eq_true rfl) (ok_X10_leave Θ x _ _) e1 (by decide) (by omega) (by omega) ?_
  refine G.fr fun hf1 => ?_
  obtain ⟨hm, ω2, n3, e2, h⟩ := h _ hf1
  refine g_aload_n dL_law__1832 rfl 2 rfl ?_
  refine g_cvI (ci := 11) (As := []) mv_L_239 dL_law__1833 rfl hm rfl rfl (Nat.le_of_ble_eq_true rfl) (ok_X11_leave Θ m _ _) e2 (by decide) (by show _ ≤ B.1 - _; omega) (by show _ ≤ B.2 - _; omega) ?_
  refine G.less (B' := (B.1 - 8, B.2 - 2100)) (by show B.1 - 8 ≤ B.1 - _ - _; omega) (by show B.2 - 2100 ≤ B.2 - _ - _; omega) ?_
  exact g_icmp_eq (tgt := 2492) dL_law__1836 (by decide) (fun _ => K _ _ h) (fun c => absurd rfl c)
theorem lc_32 (Θ : GP) {b L : Nat} {xs : Nat → Int32} (hX : gX Θ = some (b, L, xs)) (hL : L ≤ 3072) {x m o i : Nat} (hi : i + 6 ≤ L) {tab : List ExceptionTableEntry} {Qv : Option Value → OW → Nat → Prop} {Qx : String → OW → Nat → Prop} {B : Nat × Nat} (hB1 : 8 ≤ B.1) (hB2 : 2100 ≤ B.2) {Inv : OW → Prop} {ω : OW} {n : Nat} (h : stI x m (fun ω n => F_X10_bravest Θ x ω n) (fun ω n => F_X11_bravest Θ m ω n) Inv ω) (K : ∀ ω' n', Inv ω' → G Θ yL_law_ cL_law_ 7 (some .boolean) 1000 tab Qv Qx (B.1 - 8, B.2 - 2100) 2492 [(0, .ref b), (1, .ref x), (2, .ref m), (3, .ref o), (4, .int (nI i))] [] ω' n') : G Θ yL_law_ cL_law_ 7 (some .boolean) 1000 tab Qv Qx B 1841 [(0, .ref b), (1, .ref x), (2, .ref m), (3, .ref o), (4, .int (nI i))] [] ω n := by
  refine G.fr fun hf => ?_
  obtain ⟨hx, v, ω1, n1, e1, h⟩ := h n hf
  refine g_aload_n dL_law__1841 rfl 1 rfl ?_
  refine g_cvI (ci := 10) (As := []) mv_L_240 dL_law__1842 rfl hx rfl rfl (Nat.le_of_ble_eq_true rfl) (ok_X10_bravest Θ x _ _) e1 (by decide) (by omega) (by omega) ?_
  refine G.fr fun hf1 => ?_
  obtain ⟨hm, ω2, n3, e2, h⟩ := h _ hf1
  refine g_aload_n dL_law__1845 rfl 2 rfl ?_
  refine g_cvI (ci := 11) (As := []) mv_L_243 dL_law__1846 rfl hm rfl rfl (Nat.le_of_ble_eq_true rfl) (ok_X11_bravest Θ m _ _) e2 (by decide) (by show _ ≤ B.1 - _; omega) (by show _ ≤ B.2 - _; omega) ?_
  refine G.less (B' := (B.1 - 8, B.2 - 2100)) (by show B.1 - 8 ≤ B.1 - _ - _; omega) (by show B.2 - 2100 ≤ B.2 - _ - _; omega) ?_
  exact g_icmp_eq (tgt := 2492) dL_law__1849 (by decide) (fun _ => K _ _ h) (fun c => absurd rfl c)
theorem lc_33 (Θ : GP) {b L : Nat} {xs : Nat → Int32} (hX : gX Θ = some (b, L, xs)) (hL : L ≤ 3072) {x m o i : Nat} (hi : i + 6 ≤ L) {tab : List ExceptionTableEntry} {Qv : Option Value → OW → Nat → Prop} {Qx : String → OW → Nat → Prop} {B : Nat × Nat} (hB1 : 8 ≤ B.1) (hB2 : 2100 ≤ B.2) {Inv : OW → Prop} {ω : OW} {n : Nat} (h : stI x m (fun ω n => F_X10_alike Θ x ω n) (fun ω n => F_X11_alike Θ m ω n) Inv ω) (K : ∀ ω' n', Inv ω' → G Θ yL_law_ cL_law_ 7 (some .boolean) 1000 tab Qv Qx (B.1 - 8, B.2 - 2100) 2492 [(0, .ref b), (1, .ref x), (2, .ref m), (3, .ref o), (4, .int (nI i))] [] ω' n') : G Θ yL_law_ cL_law_ 7 (some .boolean) 1000 tab Qv Qx B 1854 [(0, .ref b), (1, .ref x), (2, .ref m), (3, .ref o), (4, .int (nI i))] [] ω n := by
  refine G.fr fun hf => ?_
  obtain ⟨hx, v, ω1, n1, e1, h⟩ := h n hf
  refine g_aload_n dL_law__1854 rfl 1 rfl ?_
  refine g_cvI (ci := 10) (As := []) mv_L_244 dL_law__1855 rfl hx rfl rfl (Nat.le_of_ble_eq_true rfl) (ok_X10_alike Θ x _ _) e1 (by decide) (by omega) (by omega) ?_
  refine G.fr fun hf1 => ?_
  obtain ⟨hm, ω2, n3, e2, h⟩ := h _ hf1
  refine g_aload_n dL_law__1858 rfl 2 rfl ?_
  refine g_cvI (ci := 11) (As := []) mv_L_247 dL_law__1859 rfl hm rfl rfl (Nat.le_of_ble_eq_true rfl) (ok_X11_alike Θ m _ _) e2 (by decide) (by show _ ≤ B.1 - _; omega) (by show _ ≤ B.2 - _; omega) ?_
  refine G.less (B' := (B.1 - 8, B.2 - 2100)) (by show B.1 - 8 ≤ B.1 - _ - _; omega) (by show B.2 - 2100 ≤ B.2 - _ - _; omega) ?_
  exact g_icmp_eq (tgt := 2492) dL_law__1862 (by decide) (fun _ => K _ _ h) (fun c => absurd rfl c)
theorem lc_34 (Θ : GP) {b L : Nat} {xs : Nat → Int32} (hX : gX Θ = some (b, L, xs)) (hL : L ≤ 3072) {x m o i : Nat} (hi : i + 6 ≤ L) {tab : List ExceptionTableEntry} {Qv : Option Value → OW → Nat → Prop} {Qx : String → OW → Nat → Prop} {B : Nat × Nat} (hB1 : 8 ≤ B.1) (hB2 : 2100 ≤ B.2) {Inv : OW → Prop} {ω : OW} {n : Nat} (h : stW Θ m o (fun ω n => W_usher Θ x (xs (i + 1)) o ω n) (fun ω n => F_X11_usher Θ m (xs (i + 1)) ω n) Inv ω) (K : ∀ ω' n', Inv ω' → G Θ yL_law_ cL_law_ 7 (some .boolean) 1000 tab Qv Qx (B.1 - 8, B.2 - 2100) 2492 [(0, .ref b), (1, .ref x), (2, .ref m), (3, .ref o), (4, .int (nI i))] [] ω' n') : G Θ yL_law_ cL_law_ 7 (some .boolean) 1000 tab Qv Qx B 1867 [(0, .ref b), (1, .ref x), (2, .ref m), (3, .ref o), (4, .int (nI i))] [] ω n := by
  refine G.fr fun hf => ?_
  obtain ⟨k, ω1, e1, h⟩ := h n hf
  refine g_aload_n dL_law__1867 rfl 1 rfl ?_
  refine g_scr (k := 1) (j0 := 0) (j4 := 4) hX dL_law__1868 dL_law__1869 dL_law__1871 dL_law__1872 dL_law__1873 rfl rfl (by decide) (by omega) (by omega) ?_
  refine g_aload_n dL_law__1874 rfl 3 rfl ?_
  refine g_cw (As := [.ref x, .int (xs (i + 1)), .ref o]) mw_248 dL_law__1875 rfl rfl (Nat.le_of_ble_eq_true rfl) (okW_usher Θ x (xs (i + 1)) o _ _ _ _ e1) (by decide) (by omega) (by omega) fun n2 => ?_
  refine G.fr fun hf1 => ?_
  obtain ⟨hm, v, ω2, n3, e2, hm2, ht, ho, h⟩ := h _ hf1
  refine g_istore (lv' := [(5, .int k), (0, .ref b), (1, .ref x), (2, .ref m), (3, .ref o), (4, .int (nI i))]) dL_law__1878 (by decide) rfl ?_
  refine g_aload_n dL_law__1880 rfl 3 rfl ?_
  refine g_scr (k := 1) (j0 := 1) (j4 := 5) hX dL_law__1881 dL_law__1882 dL_law__1884 dL_law__1885 dL_law__1886 rfl rfl (by decide) (by omega) (by omega) ?_
  refine g_cvI (ci := 11) (As := [.int (xs (i + 1))]) mv_L_250 dL_law__1887 rfl hm rfl rfl (Nat.le_of_ble_eq_true rfl) (ok_X11_usher Θ m (xs (i + 1)) _ _) e2 (by decide) (by show _ ≤ B.1 - _; omega) (by show _ ≤ B.2 - _; omega) ?_
  refine g_istore (lv' := [(6, .int v), (5, .int k), (0, .ref b), (1, .ref x), (2, .ref m), (3, .ref o), (4, .int (nI i))]) dL_law__1890 (by decide) rfl ?_
  refine g_aload_n dL_law__1892 rfl 4 rfl ?_
  refine g_cvI (ci := 11) (As := []) mv_L_136 dL_law__1893 rfl hm2 rfl rfl (Nat.le_of_ble_eq_true rfl) (ok_X11_thrown Θ m _ _) (ht _) (by decide) (Nat.zero_le _) (Nat.zero_le _) ?_
  refine G.less (B' := (B.1 - 8, B.2 - 2100)) (by show B.1 - 8 ≤ B.1 - _ - _ - _; omega) (by show B.2 - 2100 ≤ B.2 - _ - _ - _; omega) ?_
  refine g_cmpW (j3 := 5) (j5 := 1) (j6 := 0) (e := 2492) dL_law__1896 dL_law__1898 dL_law__1903 dL_law__1905 dL_law__1908 dL_law__1909 dL_law__1910 dL_law__1911 dL_law__1913 dL_law__1914 dL_law__1915 dL_law__1920 rfl rfl rfl (by decide) rfl rfl rfl ho ?_
  refine G.lsub [2, 3, 4, 5, 6] rfl ?_
  exact K _ _ h
theorem lc_35 (Θ : GP) {b L : Nat} {xs : Nat → Int32} (hX : gX Θ = some (b, L, xs)) (hL : L ≤ 3072) {x m o i : Nat} (hi : i + 6 ≤ L) {tab : List ExceptionTableEntry} {Qv : Option Value → OW → Nat → Prop} {Qx : String → OW → Nat → Prop} {B : Nat × Nat} (hB1 : 8 ≤ B.1) (hB2 : 2100 ≤ B.2) {Inv : OW → Prop} {ω : OW} {n : Nat} (h : stW Θ m o (fun ω n => W_lasts Θ x (xs (i + 1)) (xs (i + 2)) o ω n) (fun ω n => F_X11_lasts Θ m (xs (i + 1)) (xs (i + 2)) ω n) Inv ω) (K : ∀ ω' n', Inv ω' → G Θ yL_law_ cL_law_ 7 (some .boolean) 1000 tab Qv Qx (B.1 - 8, B.2 - 2100) 2492 [(0, .ref b), (1, .ref x), (2, .ref m), (3, .ref o), (4, .int (nI i))] [] ω' n') : G Θ yL_law_ cL_law_ 7 (some .boolean) 1000 tab Qv Qx B 1923 [(0, .ref b), (1, .ref x), (2, .ref m), (3, .ref o), (4, .int (nI i))] [] ω n := by
  refine G.fr fun hf => ?_
  obtain ⟨k, ω1, e1, h⟩ := h n hf
  refine g_aload_n dL_law__1923 rfl 1 rfl ?_
  refine g_scr (k := 1) (j0 := 0) (j4 := 4) hX dL_law__1924 dL_law__1925 dL_law__1927 dL_law__1928 dL_law__1929 rfl rfl (by decide) (by omega) (by omega) ?_
  refine g_scr (k := 2) (j0 := 0) (j4 := 4) hX dL_law__1930 dL_law__1931 dL_law__1933 dL_law__1934 dL_law__1935 rfl rfl (by decide) (by omega) (by omega) ?_
  refine g_aload_n dL_law__1936 rfl 3 rfl ?_
  refine g_cw (As := [.ref x, .int (xs (i + 1)), .int (xs (i + 2)), .ref o]) mw_251 dL_law__1937 rfl rfl (Nat.le_of_ble_eq_true rfl) (okW_lasts Θ x (xs (i + 1)) (xs (i + 2)) o _ _ _ _ e1) (by decide) (by omega) (by omega) fun n2 => ?_
  refine G.fr fun hf1 => ?_
  obtain ⟨hm, v, ω2, n3, e2, hm2, ht, ho, h⟩ := h _ hf1
  refine g_istore (lv' := [(5, .int k), (0, .ref b), (1, .ref x), (2, .ref m), (3, .ref o), (4, .int (nI i))]) dL_law__1940 (by decide) rfl ?_
  refine g_aload_n dL_law__1942 rfl 3 rfl ?_
  refine g_scr (k := 1) (j0 := 1) (j4 := 5) hX dL_law__1943 dL_law__1944 dL_law__1946 dL_law__1947 dL_law__1948 rfl rfl (by decide) (by omega) (by omega) ?_
  refine g_scr (k := 2) (j0 := 1) (j4 := 5) hX dL_law__1949 dL_law__1950 dL_law__1952 dL_law__1953 dL_law__1954 rfl rfl (by decide) (by omega) (by omega) ?_
  refine g_cvI (ci := 11) (As := [.int (xs (i + 1)), .int (xs (i + 2))]) mv_L_253 dL_law__1955 rfl hm rfl rfl (Nat.le_of_ble_eq_true rfl) (ok_X11_lasts Θ m (xs (i + 1)) (xs (i + 2)) _ _) e2 (by decide) (by show _ ≤ B.1 - _; omega) (by show _ ≤ B.2 - _; omega) ?_
  refine g_istore (lv' := [(6, .int v), (5, .int k), (0, .ref b), (1, .ref x), (2, .ref m), (3, .ref o), (4, .int (nI i))]) dL_law__1958 (by decide) rfl ?_
  refine g_aload_n dL_law__1960 rfl 4 rfl ?_
  refine g_cvI (ci := 11) (As := []) mv_L_136 dL_law__1961 rfl hm2 rfl rfl (Nat.le_of_ble_eq_true rfl) (ok_X11_thrown Θ m _ _) (ht _) (by decide) (Nat.zero_le _) (Nat.zero_le _) ?_
  refine G.less (B' := (B.1 - 8, B.2 - 2100)) (by show B.1 - 8 ≤ B.1 - _ - _ - _; omega) (by show B.2 - 2100 ≤ B.2 - _ - _ - _; omega) ?_
  refine g_cmpW (j3 := 5) (j5 := 1) (j6 := 0) (e := 2492) dL_law__1964 dL_law__1966 dL_law__1971 dL_law__1973 dL_law__1976 dL_law__1977 dL_law__1978 dL_law__1979 dL_law__1981 dL_law__1982 dL_law__1983 dL_law__1988 rfl rfl rfl (by decide) rfl rfl rfl ho ?_
  refine G.lsub [2, 3, 4, 5, 6] rfl ?_
  exact K _ _ h
theorem lc_36 (Θ : GP) {b L : Nat} {xs : Nat → Int32} (hX : gX Θ = some (b, L, xs)) (hL : L ≤ 3072) {x m o i : Nat} (hi : i + 6 ≤ L) {tab : List ExceptionTableEntry} {Qv : Option Value → OW → Nat → Prop} {Qx : String → OW → Nat → Prop} {B : Nat × Nat} (hB1 : 8 ≤ B.1) (hB2 : 2100 ≤ B.2) {Inv : OW → Prop} {ω : OW} {n : Nat} (h : stI x m (fun ω n => F_X10_all Θ x (bI (xs (i + 1))) ω n) (fun ω n => F_X11_all Θ m (bI (xs (i + 1))) ω n) Inv ω) (K : ∀ ω' n', Inv ω' → G Θ yL_law_ cL_law_ 7 (some .boolean) 1000 tab Qv Qx (B.1 - 8, B.2 - 2100) 2492 [(0, .ref b), (1, .ref x), (2, .ref m), (3, .ref o), (4, .int (nI i))] [] ω' n') : G Θ yL_law_ cL_law_ 7 (some .boolean) 1000 tab Qv Qx B 1991 [(0, .ref b), (1, .ref x), (2, .ref m), (3, .ref o), (4, .int (nI i))] [] ω n := by
  refine G.fr fun hf => ?_
  obtain ⟨hx, v, ω1, n1, e1, h⟩ := h n hf
  refine g_aload_n dL_law__1991 rfl 1 rfl ?_
  refine g_scr (k := 1) (j0 := 0) (j4 := 4) hX dL_law__1992 dL_law__1993 dL_law__1995 dL_law__1996 dL_law__1997 rfl rfl (by decide) (by omega) (by omega) ?_
  refine g_bx dL_law__1998 dL_law__2001 dL_law__2002 dL_law__2005 rfl rfl ?_
  refine g_cvI (ci := 10) (As := [.int (bI (xs (i + 1)))]) mv_L_254 dL_law__2006 rfl hx rfl rfl (Nat.le_of_ble_eq_true rfl) (ok_X10_all Θ x (bI (xs (i + 1))) _ _) e1 (by decide) (by omega) (by omega) ?_
  refine G.fr fun hf1 => ?_
  obtain ⟨hm, ω2, n3, e2, h⟩ := h _ hf1
  refine g_aload_n dL_law__2009 rfl 2 rfl ?_
  refine g_scr (k := 1) (j0 := 0) (j4 := 4) hX dL_law__2010 dL_law__2011 dL_law__2013 dL_law__2014 dL_law__2015 rfl rfl (by decide) (by omega) (by omega) ?_
  refine g_bx dL_law__2016 dL_law__2019 dL_law__2020 dL_law__2023 rfl rfl ?_
  refine g_cvI (ci := 11) (As := [.int (bI (xs (i + 1)))]) mv_L_257 dL_law__2024 rfl hm rfl rfl (Nat.le_of_ble_eq_true rfl) (ok_X11_all Θ m (bI (xs (i + 1))) _ _) e2 (by decide) (by show _ ≤ B.1 - _; omega) (by show _ ≤ B.2 - _; omega) ?_
  refine G.less (B' := (B.1 - 8, B.2 - 2100)) (by show B.1 - 8 ≤ B.1 - _ - _; omega) (by show B.2 - 2100 ≤ B.2 - _ - _; omega) ?_
  exact g_icmp_eq (tgt := 2492) dL_law__2027 (by decide) (fun _ => K _ _ h) (fun c => absurd rfl c)
theorem lc_37 (Θ : GP) {b L : Nat} {xs : Nat → Int32} (hX : gX Θ = some (b, L, xs)) (hL : L ≤ 3072) {x m o i : Nat} (hi : i + 6 ≤ L) {tab : List ExceptionTableEntry} {Qv : Option Value → OW → Nat → Prop} {Qx : String → OW → Nat → Prop} {B : Nat × Nat} (hB1 : 8 ≤ B.1) (hB2 : 2100 ≤ B.2) {Inv : OW → Prop} {ω : OW} {n : Nat} (h : stW Θ m o (fun ω n => W_share Θ x (xs (i + 1)) (xs (i + 2)) o ω n) (fun ω n => F_X11_share Θ m (xs (i + 1)) (xs (i + 2)) ω n) Inv ω) (K : ∀ ω' n', Inv ω' → G Θ yL_law_ cL_law_ 7 (some .boolean) 1000 tab Qv Qx (B.1 - 8, B.2 - 2100) 2492 [(0, .ref b), (1, .ref x), (2, .ref m), (3, .ref o), (4, .int (nI i))] [] ω' n') : G Θ yL_law_ cL_law_ 7 (some .boolean) 1000 tab Qv Qx B 2032 [(0, .ref b), (1, .ref x), (2, .ref m), (3, .ref o), (4, .int (nI i))] [] ω n := by
  refine G.fr fun hf => ?_
  obtain ⟨k, ω1, e1, h⟩ := h n hf
  refine g_aload_n dL_law__2032 rfl 1 rfl ?_
  refine g_scr (k := 1) (j0 := 0) (j4 := 4) hX dL_law__2033 dL_law__2034 dL_law__2036 dL_law__2037 dL_law__2038 rfl rfl (by decide) (by omega) (by omega) ?_
  refine g_scr (k := 2) (j0 := 0) (j4 := 4) hX dL_law__2039 dL_law__2040 dL_law__2042 dL_law__2043 dL_law__2044 rfl rfl (by decide) (by omega) (by omega) ?_
  refine g_aload_n dL_law__2045 rfl 3 rfl ?_
  refine g_cw (As := [.ref x, .int (xs (i + 1)), .int (xs (i + 2)), .ref o]) mw_258 dL_law__2046 rfl rfl (Nat.le_of_ble_eq_true rfl) (okW_share Θ x (xs (i + 1)) (xs (i + 2)) o _ _ _ _ e1) (by decide) (by omega) (by omega) fun n2 => ?_
  refine G.fr fun hf1 => ?_
  obtain ⟨hm, v, ω2, n3, e2, hm2, ht, ho, h⟩ := h _ hf1
  refine g_istore (lv' := [(5, .int k), (0, .ref b), (1, .ref x), (2, .ref m), (3, .ref o), (4, .int (nI i))]) dL_law__2049 (by decide) rfl ?_
  refine g_aload_n dL_law__2051 rfl 3 rfl ?_
  refine g_scr (k := 1) (j0 := 1) (j4 := 5) hX dL_law__2052 dL_law__2053 dL_law__2055 dL_law__2056 dL_law__2057 rfl rfl (by decide) (by omega) (by omega) ?_
  refine g_scr (k := 2) (j0 := 1) (j4 := 5) hX dL_law__2058 dL_law__2059 dL_law__2061 dL_law__2062 dL_law__2063 rfl rfl (by decide) (by omega) (by omega) ?_
  refine g_cvI (ci := 11) (As := [.int (xs (i + 1)), .int (xs (i + 2))]) mv_L_260 dL_law__2064 rfl hm rfl rfl (Nat.le_of_ble_eq_true rfl) (ok_X11_share Θ m (xs (i + 1)) (xs (i + 2)) _ _) e2 (by decide) (by show _ ≤ B.1 - _; omega) (by show _ ≤ B.2 - _; omega) ?_
  refine g_istore (lv' := [(6, .int v), (5, .int k), (0, .ref b), (1, .ref x), (2, .ref m), (3, .ref o), (4, .int (nI i))]) dL_law__2067 (by decide) rfl ?_
  refine g_aload_n dL_law__2069 rfl 4 rfl ?_
  refine g_cvI (ci := 11) (As := []) mv_L_136 dL_law__2070 rfl hm2 rfl rfl (Nat.le_of_ble_eq_true rfl) (ok_X11_thrown Θ m _ _) (ht _) (by decide) (Nat.zero_le _) (Nat.zero_le _) ?_
  refine G.less (B' := (B.1 - 8, B.2 - 2100)) (by show B.1 - 8 ≤ B.1 - _ - _ - _; omega) (by show B.2 - 2100 ≤ B.2 - _ - _ - _; omega) ?_
  refine g_cmpW (j3 := 5) (j5 := 1) (j6 := 0) (e := 2492) dL_law__2073 dL_law__2075 dL_law__2080 dL_law__2082 dL_law__2085 dL_law__2086 dL_law__2087 dL_law__2088 dL_law__2090 dL_law__2091 dL_law__2092 dL_law__2097 rfl rfl rfl (by decide) rfl rfl rfl ho ?_
  refine G.lsub [2, 3, 4, 5, 6] rfl ?_
  exact K _ _ h
theorem lc_38 (Θ : GP) {b L : Nat} {xs : Nat → Int32} (hX : gX Θ = some (b, L, xs)) (hL : L ≤ 3072) {x m o i : Nat} (hi : i + 6 ≤ L) {tab : List ExceptionTableEntry} {Qv : Option Value → OW → Nat → Prop} {Qx : String → OW → Nat → Prop} {B : Nat × Nat} (hB1 : 8 ≤ B.1) (hB2 : 2100 ≤ B.2) {Inv : OW → Prop} {ω : OW} {n : Nat} (h : stI x m (fun ω n => F_X10_loudest Θ x ω n) (fun ω n => F_X11_loudest Θ m ω n) Inv ω) (K : ∀ ω' n', Inv ω' → G Θ yL_law_ cL_law_ 7 (some .boolean) 1000 tab Qv Qx (B.1 - 8, B.2 - 2100) 2492 [(0, .ref b), (1, .ref x), (2, .ref m), (3, .ref o), (4, .int (nI i))] [] ω' n') : G Θ yL_law_ cL_law_ 7 (some .boolean) 1000 tab Qv Qx B 2100 [(0, .ref b), (1, .ref x), (2, .ref m), (3, .ref o), (4, .int (nI i))] [] ω n := by
  refine G.fr fun hf => ?_
  obtain ⟨hx, v, ω1, n1, e1, h⟩ := h n hf
  refine g_aload_n dL_law__2100 rfl 1 rfl ?_
  refine g_cvI (ci := 10) (As := []) mv_L_261 dL_law__2101 rfl hx rfl rfl (Nat.le_of_ble_eq_true rfl) (ok_X10_loudest Θ x _ _) e1 (by decide) (by omega) (by omega) ?_
  refine G.fr fun hf1 => ?_
  obtain ⟨hm, ω2, n3, e2, h⟩ := h _ hf1
  refine g_aload_n dL_law__2104 rfl 2 rfl ?_
  refine g_cvI (ci := 11) (As := []) mv_L_264 dL_law__2105 rfl hm rfl rfl (Nat.le_of_ble_eq_true rfl) (ok_X11_loudest Θ m _ _) e2 (by decide) (by show _ ≤ B.1 - _; omega) (by show _ ≤ B.2 - _; omega) ?_
  refine G.less (B' := (B.1 - 8, B.2 - 2100)) (by show B.1 - 8 ≤ B.1 - _ - _; omega) (by show B.2 - 2100 ≤ B.2 - _ - _; omega) ?_
  exact g_icmp_eq (tgt := 2492) dL_law__2108 (by decide) (fun _ => K _ _ h) (fun c => absurd rfl c)
theorem lc_39 (Θ : GP) {b L : Nat} {xs : Nat → Int32} (hX : gX Θ = some (b, L, xs)) (hL : L ≤ 3072) {x m o i : Nat} (hi : i + 6 ≤ L) {tab : List ExceptionTableEntry} {Qv : Option Value → OW → Nat → Prop} {Qx : String → OW → Nat → Prop} {B : Nat × Nat} (hB1 : 8 ≤ B.1) (hB2 : 2100 ≤ B.2) {Inv : OW → Prop} {ω : OW} {n : Nat} (h : stW Θ m o (fun ω n => W_trial Θ x (xs (i + 1)) o ω n) (fun ω n => F_X11_trial Θ m (xs (i + 1)) ω n) Inv ω) (K : ∀ ω' n', Inv ω' → G Θ yL_law_ cL_law_ 7 (some .boolean) 1000 tab Qv Qx (B.1 - 8, B.2 - 2100) 2492 [(0, .ref b), (1, .ref x), (2, .ref m), (3, .ref o), (4, .int (nI i))] [] ω' n') : G Θ yL_law_ cL_law_ 7 (some .boolean) 1000 tab Qv Qx B 2113 [(0, .ref b), (1, .ref x), (2, .ref m), (3, .ref o), (4, .int (nI i))] [] ω n := by
  refine G.fr fun hf => ?_
  obtain ⟨k, ω1, e1, h⟩ := h n hf
  refine g_aload_n dL_law__2113 rfl 1 rfl ?_
  refine g_scr (k := 1) (j0 := 0) (j4 := 4) hX dL_law__2114 dL_law__2115 dL_law__2117 dL_law__2118 dL_law__2119 rfl rfl (by decide) (by omega) (by omega) ?_
  refine g_aload_n dL_law__2120 rfl 3 rfl ?_
  refine g_cw (As := [.ref x, .int (xs (i + 1)), .ref o]) mw_265 dL_law__2121 rfl rfl (Nat.le_of_ble_eq_true rfl) (okW_trial Θ x (xs (i + 1)) o _ _ _ _ e1) (by decide) (by omega) (by omega) fun n2 => ?_
  refine G.fr fun hf1 => ?_
  obtain ⟨hm, v, ω2, n3, e2, hm2, ht, ho, h⟩ := h _ hf1
  refine g_istore (lv' := [(5, .int k), (0, .ref b), (1, .ref x), (2, .ref m), (3, .ref o), (4, .int (nI i))]) dL_law__2124 (by decide) rfl ?_
  refine g_aload_n dL_law__2126 rfl 3 rfl ?_
  refine g_scr (k := 1) (j0 := 1) (j4 := 5) hX dL_law__2127 dL_law__2128 dL_law__2130 dL_law__2131 dL_law__2132 rfl rfl (by decide) (by omega) (by omega) ?_
  refine g_cvI (ci := 11) (As := [.int (xs (i + 1))]) mv_L_267 dL_law__2133 rfl hm rfl rfl (Nat.le_of_ble_eq_true rfl) (ok_X11_trial Θ m (xs (i + 1)) _ _) e2 (by decide) (by show _ ≤ B.1 - _; omega) (by show _ ≤ B.2 - _; omega) ?_
  refine g_istore (lv' := [(6, .int v), (5, .int k), (0, .ref b), (1, .ref x), (2, .ref m), (3, .ref o), (4, .int (nI i))]) dL_law__2136 (by decide) rfl ?_
  refine g_aload_n dL_law__2138 rfl 4 rfl ?_
  refine g_cvI (ci := 11) (As := []) mv_L_136 dL_law__2139 rfl hm2 rfl rfl (Nat.le_of_ble_eq_true rfl) (ok_X11_thrown Θ m _ _) (ht _) (by decide) (Nat.zero_le _) (Nat.zero_le _) ?_
  refine G.less (B' := (B.1 - 8, B.2 - 2100)) (by show B.1 - 8 ≤ B.1 - _ - _ - _; omega) (by show B.2 - 2100 ≤ B.2 - _ - _ - _; omega) ?_
  refine g_cmpW (j3 := 5) (j5 := 1) (j6 := 0) (e := 2492) dL_law__2142 dL_law__2144 dL_law__2149 dL_law__2151 dL_law__2154 dL_law__2155 dL_law__2156 dL_law__2157 dL_law__2159 dL_law__2160 dL_law__2161 dL_law__2166 rfl rfl rfl (by decide) rfl rfl rfl ho ?_
  refine G.lsub [2, 3, 4, 5, 6] rfl ?_
  exact K _ _ h
theorem lc_40 (Θ : GP) {b L : Nat} {xs : Nat → Int32} (hX : gX Θ = some (b, L, xs)) (hL : L ≤ 3072) {x m o i : Nat} (hi : i + 6 ≤ L) {tab : List ExceptionTableEntry} {Qv : Option Value → OW → Nat → Prop} {Qx : String → OW → Nat → Prop} {B : Nat × Nat} (hB1 : 8 ≤ B.1) (hB2 : 2100 ≤ B.2) {Inv : OW → Prop} {ω : OW} {n : Nat} (h : stW Θ m o (fun ω n => W_span Θ x (xs (i + 1)) (bI (xs (i + 2))) o ω n) (fun ω n => F_X11_span Θ m (xs (i + 1)) (bI (xs (i + 2))) ω n) Inv ω) (K : ∀ ω' n', Inv ω' → G Θ yL_law_ cL_law_ 7 (some .boolean) 1000 tab Qv Qx (B.1 - 8, B.2 - 2100) 2492 [(0, .ref b), (1, .ref x), (2, .ref m), (3, .ref o), (4, .int (nI i))] [] ω' n') : G Θ yL_law_ cL_law_ 7 (some .boolean) 1000 tab Qv Qx B 2169 [(0, .ref b), (1, .ref x), (2, .ref m), (3, .ref o), (4, .int (nI i))] [] ω n := by
  refine G.fr fun hf => ?_
  obtain ⟨k, ω1, e1, h⟩ := h n hf
  refine g_aload_n dL_law__2169 rfl 1 rfl ?_
  refine g_scr (k := 1) (j0 := 0) (j4 := 4) hX dL_law__2170 dL_law__2171 dL_law__2173 dL_law__2174 dL_law__2175 rfl rfl (by decide) (by omega) (by omega) ?_
  refine g_scr (k := 2) (j0 := 0) (j4 := 4) hX dL_law__2176 dL_law__2177 dL_law__2179 dL_law__2180 dL_law__2181 rfl rfl (by decide) (by omega) (by omega) ?_
  refine g_bx dL_law__2182 dL_law__2185 dL_law__2186 dL_law__2189 rfl rfl ?_
  refine g_aload_n dL_law__2190 rfl 3 rfl ?_
  refine g_cw (As := [.ref x, .int (xs (i + 1)), .int (bI (xs (i + 2))), .ref o]) mw_268 dL_law__2191 rfl rfl (Nat.le_of_ble_eq_true rfl) (okW_span Θ x (xs (i + 1)) (bI (xs (i + 2))) o _ _ _ _ e1) (by decide) (by omega) (by omega) fun n2 => ?_
  refine G.fr fun hf1 => ?_
  obtain ⟨hm, v, ω2, n3, e2, hm2, ht, ho, h⟩ := h _ hf1
  refine g_istore (lv' := [(5, .int k), (0, .ref b), (1, .ref x), (2, .ref m), (3, .ref o), (4, .int (nI i))]) dL_law__2194 (by decide) rfl ?_
  refine g_aload_n dL_law__2196 rfl 3 rfl ?_
  refine g_scr (k := 1) (j0 := 1) (j4 := 5) hX dL_law__2197 dL_law__2198 dL_law__2200 dL_law__2201 dL_law__2202 rfl rfl (by decide) (by omega) (by omega) ?_
  refine g_scr (k := 2) (j0 := 1) (j4 := 5) hX dL_law__2203 dL_law__2204 dL_law__2206 dL_law__2207 dL_law__2208 rfl rfl (by decide) (by omega) (by omega) ?_
  refine g_bx dL_law__2209 dL_law__2212 dL_law__2213 dL_law__2216 rfl rfl ?_
  refine g_cvI (ci := 11) (As := [.int (xs (i + 1)), .int (bI (xs (i + 2)))]) mv_L_270 dL_law__2217 rfl hm rfl rfl (Nat.le_of_ble_eq_true rfl) (ok_X11_span Θ m (xs (i + 1)) (bI (xs (i + 2))) _ _) e2 (by decide) (by show _ ≤ B.1 - _; omega) (by show _ ≤ B.2 - _; omega) ?_
  refine g_istore (lv' := [(6, .int v), (5, .int k), (0, .ref b), (1, .ref x), (2, .ref m), (3, .ref o), (4, .int (nI i))]) dL_law__2220 (by decide) rfl ?_
  refine g_aload_n dL_law__2222 rfl 4 rfl ?_
  refine g_cvI (ci := 11) (As := []) mv_L_136 dL_law__2223 rfl hm2 rfl rfl (Nat.le_of_ble_eq_true rfl) (ok_X11_thrown Θ m _ _) (ht _) (by decide) (Nat.zero_le _) (Nat.zero_le _) ?_
  refine G.less (B' := (B.1 - 8, B.2 - 2100)) (by show B.1 - 8 ≤ B.1 - _ - _ - _; omega) (by show B.2 - 2100 ≤ B.2 - _ - _ - _; omega) ?_
  refine g_cmpW (j3 := 5) (j5 := 1) (j6 := 0) (e := 2492) dL_law__2226 dL_law__2228 dL_law__2233 dL_law__2235 dL_law__2238 dL_law__2239 dL_law__2240 dL_law__2241 dL_law__2243 dL_law__2244 dL_law__2245 dL_law__2250 rfl rfl rfl (by decide) rfl rfl rfl ho ?_
  refine G.lsub [2, 3, 4, 5, 6] rfl ?_
  exact K _ _ h
theorem lc_41 (Θ : GP) {b L : Nat} {xs : Nat → Int32} (hX : gX Θ = some (b, L, xs)) (hL : L ≤ 3072) {x m o i : Nat} (hi : i + 6 ≤ L) {tab : List ExceptionTableEntry} {Qv : Option Value → OW → Nat → Prop} {Qx : String → OW → Nat → Prop} {B : Nat × Nat} (hB1 : 8 ≤ B.1) (hB2 : 2100 ≤ B.2) {Inv : OW → Prop} {ω : OW} {n : Nat} (h : stW Θ m o (fun ω n => W_led Θ x (xs (i + 1)) (bI (xs (i + 2))) o ω n) (fun ω n => F_X11_led Θ m (xs (i + 1)) (bI (xs (i + 2))) ω n) Inv ω) (K : ∀ ω' n', Inv ω' → G Θ yL_law_ cL_law_ 7 (some .boolean) 1000 tab Qv Qx (B.1 - 8, B.2 - 2100) 2492 [(0, .ref b), (1, .ref x), (2, .ref m), (3, .ref o), (4, .int (nI i))] [] ω' n') : G Θ yL_law_ cL_law_ 7 (some .boolean) 1000 tab Qv Qx B 2253 [(0, .ref b), (1, .ref x), (2, .ref m), (3, .ref o), (4, .int (nI i))] [] ω n := by
  refine G.fr fun hf => ?_
  obtain ⟨k, ω1, e1, h⟩ := h n hf
  refine g_aload_n dL_law__2253 rfl 1 rfl ?_
  refine g_scr (k := 1) (j0 := 0) (j4 := 4) hX dL_law__2254 dL_law__2255 dL_law__2257 dL_law__2258 dL_law__2259 rfl rfl (by decide) (by omega) (by omega) ?_
  refine g_scr (k := 2) (j0 := 0) (j4 := 4) hX dL_law__2260 dL_law__2261 dL_law__2263 dL_law__2264 dL_law__2265 rfl rfl (by decide) (by omega) (by omega) ?_
  refine g_bx dL_law__2266 dL_law__2269 dL_law__2270 dL_law__2273 rfl rfl ?_
  refine g_aload_n dL_law__2274 rfl 3 rfl ?_
  refine g_cw (As := [.ref x, .int (xs (i + 1)), .int (bI (xs (i + 2))), .ref o]) mw_271 dL_law__2275 rfl rfl (Nat.le_of_ble_eq_true rfl) (okW_led Θ x (xs (i + 1)) (bI (xs (i + 2))) o _ _ _ _ e1) (by decide) (by omega) (by omega) fun n2 => ?_
  refine G.fr fun hf1 => ?_
  obtain ⟨hm, v, ω2, n3, e2, hm2, ht, ho, h⟩ := h _ hf1
  refine g_istore (lv' := [(5, .int k), (0, .ref b), (1, .ref x), (2, .ref m), (3, .ref o), (4, .int (nI i))]) dL_law__2278 (by decide) rfl ?_
  refine g_aload_n dL_law__2280 rfl 3 rfl ?_
  refine g_scr (k := 1) (j0 := 1) (j4 := 5) hX dL_law__2281 dL_law__2282 dL_law__2284 dL_law__2285 dL_law__2286 rfl rfl (by decide) (by omega) (by omega) ?_
  refine g_scr (k := 2) (j0 := 1) (j4 := 5) hX dL_law__2287 dL_law__2288 dL_law__2290 dL_law__2291 dL_law__2292 rfl rfl (by decide) (by omega) (by omega) ?_
  refine g_bx dL_law__2293 dL_law__2296 dL_law__2297 dL_law__2300 rfl rfl ?_
  refine g_cvI (ci := 11) (As := [.int (xs (i + 1)), .int (bI (xs (i + 2)))]) mv_L_273 dL_law__2301 rfl hm rfl rfl (Nat.le_of_ble_eq_true rfl) (ok_X11_led Θ m (xs (i + 1)) (bI (xs (i + 2))) _ _) e2 (by decide) (by show _ ≤ B.1 - _; omega) (by show _ ≤ B.2 - _; omega) ?_
  refine g_istore (lv' := [(6, .int v), (5, .int k), (0, .ref b), (1, .ref x), (2, .ref m), (3, .ref o), (4, .int (nI i))]) dL_law__2304 (by decide) rfl ?_
  refine g_aload_n dL_law__2306 rfl 4 rfl ?_
  refine g_cvI (ci := 11) (As := []) mv_L_136 dL_law__2307 rfl hm2 rfl rfl (Nat.le_of_ble_eq_true rfl) (ok_X11_thrown Θ m _ _) (ht _) (by decide) (Nat.zero_le _) (Nat.zero_le _) ?_
  refine G.less (B' := (B.1 - 8, B.2 - 2100)) (by show B.1 - 8 ≤ B.1 - _ - _ - _; omega) (by show B.2 - 2100 ≤ B.2 - _ - _ - _; omega) ?_
  refine g_cmpW (j3 := 5) (j5 := 1) (j6 := 0) (e := 2492) dL_law__2310 dL_law__2312 dL_law__2317 dL_law__2319 dL_law__2322 dL_law__2323 dL_law__2324 dL_law__2325 dL_law__2327 dL_law__2328 dL_law__2329 dL_law__2334 rfl rfl rfl (by decide) rfl rfl rfl ho ?_
  refine G.lsub [2, 3, 4, 5, 6] rfl ?_
  exact K _ _ h
theorem lc_42 (Θ : GP) {b L : Nat} {xs : Nat → Int32} (hX : gX Θ = some (b, L, xs)) (hL : L ≤ 3072) {x m o i : Nat} (hi : i + 6 ≤ L) {tab : List ExceptionTableEntry} {Qv : Option Value → OW → Nat → Prop} {Qx : String → OW → Nat → Prop} {B : Nat × Nat} (hB1 : 8 ≤ B.1) (hB2 : 2100 ≤ B.2) {Inv : OW → Prop} {ω : OW} {n : Nat} (h : stW Θ m o (fun ω n => W_log Θ x (xs (i + 1)) (xs (i + 2)) o ω n) (fun ω n => F_X11_log Θ m (xs (i + 1)) (xs (i + 2)) ω n) Inv ω) (K : ∀ ω' n', Inv ω' → G Θ yL_law_ cL_law_ 7 (some .boolean) 1000 tab Qv Qx (B.1 - 8, B.2 - 2100) 2492 [(0, .ref b), (1, .ref x), (2, .ref m), (3, .ref o), (4, .int (nI i))] [] ω' n') : G Θ yL_law_ cL_law_ 7 (some .boolean) 1000 tab Qv Qx B 2337 [(0, .ref b), (1, .ref x), (2, .ref m), (3, .ref o), (4, .int (nI i))] [] ω n := by
  refine G.fr fun hf => ?_
  obtain ⟨k, ω1, e1, h⟩ := h n hf
  refine g_aload_n dL_law__2337 rfl 1 rfl ?_
  refine g_scr (k := 1) (j0 := 0) (j4 := 4) hX dL_law__2338 dL_law__2339 dL_law__2341 dL_law__2342 dL_law__2343 rfl rfl (by decide) (by omega) (by omega) ?_
  refine g_scr (k := 2) (j0 := 0) (j4 := 4) hX dL_law__2344 dL_law__2345 dL_law__2347 dL_law__2348 dL_law__2349 rfl rfl (by decide) (by omega) (by omega) ?_
  refine g_aload_n dL_law__2350 rfl 3 rfl ?_
  refine g_cw (As := [.ref x, .int (xs (i + 1)), .int (xs (i + 2)), .ref o]) mw_274 dL_law__2351 rfl rfl (Nat.le_of_ble_eq_true rfl) (okW_log Θ x (xs (i + 1)) (xs (i + 2)) o _ _ _ _ e1) (by decide) (by omega) (by omega) fun n2 => ?_
  refine G.fr fun hf1 => ?_
  obtain ⟨hm, v, ω2, n3, e2, hm2, ht, ho, h⟩ := h _ hf1
  refine g_istore (lv' := [(5, .int k), (0, .ref b), (1, .ref x), (2, .ref m), (3, .ref o), (4, .int (nI i))]) dL_law__2354 (by decide) rfl ?_
  refine g_aload_n dL_law__2356 rfl 3 rfl ?_
  refine g_scr (k := 1) (j0 := 1) (j4 := 5) hX dL_law__2357 dL_law__2358 dL_law__2360 dL_law__2361 dL_law__2362 rfl rfl (by decide) (by omega) (by omega) ?_
  refine g_scr (k := 2) (j0 := 1) (j4 := 5) hX dL_law__2363 dL_law__2364 dL_law__2366 dL_law__2367 dL_law__2368 rfl rfl (by decide) (by omega) (by omega) ?_
  refine g_cvI (ci := 11) (As := [.int (xs (i + 1)), .int (xs (i + 2))]) mv_L_276 dL_law__2369 rfl hm rfl rfl (Nat.le_of_ble_eq_true rfl) (ok_X11_log Θ m (xs (i + 1)) (xs (i + 2)) _ _) e2 (by decide) (by show _ ≤ B.1 - _; omega) (by show _ ≤ B.2 - _; omega) ?_
  refine g_istore (lv' := [(6, .int v), (5, .int k), (0, .ref b), (1, .ref x), (2, .ref m), (3, .ref o), (4, .int (nI i))]) dL_law__2372 (by decide) rfl ?_
  refine g_aload_n dL_law__2374 rfl 4 rfl ?_
  refine g_cvI (ci := 11) (As := []) mv_L_136 dL_law__2375 rfl hm2 rfl rfl (Nat.le_of_ble_eq_true rfl) (ok_X11_thrown Θ m _ _) (ht _) (by decide) (Nat.zero_le _) (Nat.zero_le _) ?_
  refine G.less (B' := (B.1 - 8, B.2 - 2100)) (by show B.1 - 8 ≤ B.1 - _ - _ - _; omega) (by show B.2 - 2100 ≤ B.2 - _ - _ - _; omega) ?_
  refine g_cmpW (j3 := 5) (j5 := 1) (j6 := 0) (e := 2492) dL_law__2378 dL_law__2380 dL_law__2385 dL_law__2387 dL_law__2390 dL_law__2391 dL_law__2392 dL_law__2393 dL_law__2395 dL_law__2396 dL_law__2397 dL_law__2402 rfl rfl rfl (by decide) rfl rfl rfl ho ?_
  refine G.lsub [2, 3, 4, 5, 6] rfl ?_
  exact K _ _ h
theorem lc_43 (Θ : GP) {b L : Nat} {xs : Nat → Int32} (hX : gX Θ = some (b, L, xs)) (hL : L ≤ 3072) {x m o i : Nat} (hi : i + 6 ≤ L) {tab : List ExceptionTableEntry} {Qv : Option Value → OW → Nat → Prop} {Qx : String → OW → Nat → Prop} {B : Nat × Nat} (hB1 : 8 ≤ B.1) (hB2 : 2100 ≤ B.2) {Inv : OW → Prop} {ω : OW} {n : Nat} (h : stI x m (fun ω n => F_X10_seed Θ x (xs (i + 1)) ω n) (fun ω n => F_X11_seed Θ m (xs (i + 1)) ω n) Inv ω) (K : ∀ ω' n', Inv ω' → G Θ yL_law_ cL_law_ 7 (some .boolean) 1000 tab Qv Qx (B.1 - 8, B.2 - 2100) 2492 [(0, .ref b), (1, .ref x), (2, .ref m), (3, .ref o), (4, .int (nI i))] [] ω' n') : G Θ yL_law_ cL_law_ 7 (some .boolean) 1000 tab Qv Qx B 2405 [(0, .ref b), (1, .ref x), (2, .ref m), (3, .ref o), (4, .int (nI i))] [] ω n := by
  refine G.fr fun hf => ?_
  obtain ⟨hx, v, ω1, n1, e1, h⟩ := h n hf
  refine g_aload_n dL_law__2405 rfl 1 rfl ?_
  refine g_scr (k := 1) (j0 := 0) (j4 := 4) hX dL_law__2406 dL_law__2407 dL_law__2409 dL_law__2410 dL_law__2411 rfl rfl (by decide) (by omega) (by omega) ?_
  refine g_cvI (ci := 10) (As := [.int (xs (i + 1))]) mv_L_277 dL_law__2412 rfl hx rfl rfl (Nat.le_of_ble_eq_true rfl) (ok_X10_seed Θ x (xs (i + 1)) _ _) e1 (by decide) (by omega) (by omega) ?_
  refine G.fr fun hf1 => ?_
  obtain ⟨hm, ω2, n3, e2, h⟩ := h _ hf1
  refine g_aload_n dL_law__2415 rfl 2 rfl ?_
  refine g_scr (k := 1) (j0 := 0) (j4 := 4) hX dL_law__2416 dL_law__2417 dL_law__2419 dL_law__2420 dL_law__2421 rfl rfl (by decide) (by omega) (by omega) ?_
  refine g_cvI (ci := 11) (As := [.int (xs (i + 1))]) mv_L_280 dL_law__2422 rfl hm rfl rfl (Nat.le_of_ble_eq_true rfl) (ok_X11_seed Θ m (xs (i + 1)) _ _) e2 (by decide) (by show _ ≤ B.1 - _; omega) (by show _ ≤ B.2 - _; omega) ?_
  refine G.less (B' := (B.1 - 8, B.2 - 2100)) (by show B.1 - 8 ≤ B.1 - _ - _; omega) (by show B.2 - 2100 ≤ B.2 - _ - _; omega) ?_
  exact g_icmp_eq (tgt := 2492) dL_law__2425 (by decide) (fun _ => K _ _ h) (fun c => absurd rfl c)
theorem lc_44 (Θ : GP) {b L : Nat} {xs : Nat → Int32} (hX : gX Θ = some (b, L, xs)) (hL : L ≤ 3072) {x m o i : Nat} (hi : i + 6 ≤ L) {tab : List ExceptionTableEntry} {Qv : Option Value → OW → Nat → Prop} {Qx : String → OW → Nat → Prop} {B : Nat × Nat} (hB1 : 8 ≤ B.1) (hB2 : 2100 ≤ B.2) {Inv : OW → Prop} {ω : OW} {n : Nat} (h : stI x m (fun ω n => F_X10_undo Θ x ω n) (fun ω n => F_X11_undo Θ m ω n) Inv ω) (K : ∀ ω' n', Inv ω' → G Θ yL_law_ cL_law_ 7 (some .boolean) 1000 tab Qv Qx (B.1 - 8, B.2 - 2100) 2492 [(0, .ref b), (1, .ref x), (2, .ref m), (3, .ref o), (4, .int (nI i))] [] ω' n') : G Θ yL_law_ cL_law_ 7 (some .boolean) 1000 tab Qv Qx B 2430 [(0, .ref b), (1, .ref x), (2, .ref m), (3, .ref o), (4, .int (nI i))] [] ω n := by
  refine G.fr fun hf => ?_
  obtain ⟨hx, v, ω1, n1, e1, h⟩ := h n hf
  refine g_aload_n dL_law__2430 rfl 1 rfl ?_
  refine g_cvI (ci := 10) (As := []) mv_L_281 dL_law__2431 rfl hx rfl rfl (Nat.le_of_ble_eq_true rfl) (ok_X10_undo Θ x _ _) e1 (by decide) (by omega) (by omega) ?_
  refine G.fr fun hf1 => ?_
  obtain ⟨hm, ω2, n3, e2, h⟩ := h _ hf1
  refine g_aload_n dL_law__2434 rfl 2 rfl ?_
  refine g_cvI (ci := 11) (As := []) mv_L_285 dL_law__2435 rfl hm rfl rfl (Nat.le_of_ble_eq_true rfl) (ok_X11_undo Θ m _ _) e2 (by decide) (by show _ ≤ B.1 - _; omega) (by show _ ≤ B.2 - _; omega) ?_
  refine G.less (B' := (B.1 - 8, B.2 - 2100)) (by show B.1 - 8 ≤ B.1 - _ - _; omega) (by show B.2 - 2100 ≤ B.2 - _ - _; omega) ?_
  exact g_icmp_eq (tgt := 2492) dL_law__2438 (by decide) (fun _ => K _ _ h) (fun c => absurd rfl c)
theorem lc_45 (Θ : GP) {b L : Nat} {xs : Nat → Int32} (hX : gX Θ = some (b, L, xs)) (hL : L ≤ 3072) {x m o i : Nat} (hi : i + 6 ≤ L) {tab : List ExceptionTableEntry} {Qv : Option Value → OW → Nat → Prop} {Qx : String → OW → Nat → Prop} {B : Nat × Nat} (hB1 : 8 ≤ B.1) (hB2 : 2100 ≤ B.2) {Inv : OW → Prop} {ω : OW} {n : Nat} (h : stV x m (fun ω n => F_X10_image Θ x ω n) (fun ω n => F_X11_image Θ m ω n) Inv ω) (K : ∀ ω' n', Inv ω' → G Θ yL_law_ cL_law_ 7 (some .boolean) 1000 tab Qv Qx (B.1 - 8, B.2 - 2100) 2492 [(0, .ref b), (1, .ref x), (2, .ref m), (3, .ref o), (4, .int (nI i))] [] ω' n') : G Θ yL_law_ cL_law_ 7 (some .boolean) 1000 tab Qv Qx B 2443 [(0, .ref b), (1, .ref x), (2, .ref m), (3, .ref o), (4, .int (nI i))] [] ω n := by
  refine G.fr fun hf => ?_
  obtain ⟨hx, ω1, n1, e1, h⟩ := h n hf
  refine g_aload_n dL_law__2443 rfl 1 rfl ?_
  refine g_cvI (ci := 10) (As := []) mv_L_286 dL_law__2444 rfl hx rfl rfl (Nat.le_of_ble_eq_true rfl) (ok_X10_image Θ x _ _) e1 (by decide) (by omega) (by omega) ?_
  refine G.fr fun hf1 => ?_
  obtain ⟨hm, ω2, n3, e2, h⟩ := h _ hf1
  refine g_aload_n dL_law__2447 rfl 2 rfl ?_
  refine g_cvI (ci := 11) (As := []) mv_L_289 dL_law__2448 rfl hm rfl rfl (Nat.le_of_ble_eq_true rfl) (ok_X11_image Θ m _ _) e2 (by decide) (by show _ ≤ B.1 - _; omega) (by show _ ≤ B.2 - _; omega) ?_
  refine G.less (B' := (B.1 - 8, B.2 - 2100)) (by show B.1 - 8 ≤ B.1 - _ - _; omega) (by show B.2 - 2100 ≤ B.2 - _ - _; omega) ?_
  exact g_goto (tgt := 2492) dL_law__2451 (by decide) (K _ _ h)
theorem lc_46 (Θ : GP) {b L : Nat} {xs : Nat → Int32} (hX : gX Θ = some (b, L, xs)) (hL : L ≤ 3072) {x m o i : Nat} (hi : i + 6 ≤ L) {tab : List ExceptionTableEntry} {Qv : Option Value → OW → Nat → Prop} {Qx : String → OW → Nat → Prop} {B : Nat × Nat} (hB1 : 8 ≤ B.1) (hB2 : 2100 ≤ B.2) {Inv : OW → Prop} {ω : OW} {n : Nat} (h : stI x m (fun ω n => F_X10_back Θ x ω n) (fun ω n => F_X11_back Θ m ω n) Inv ω) (K : ∀ ω' n', Inv ω' → G Θ yL_law_ cL_law_ 7 (some .boolean) 1000 tab Qv Qx (B.1 - 8, B.2 - 2100) 2492 [(0, .ref b), (1, .ref x), (2, .ref m), (3, .ref o), (4, .int (nI i))] [] ω' n') : G Θ yL_law_ cL_law_ 7 (some .boolean) 1000 tab Qv Qx B 2454 [(0, .ref b), (1, .ref x), (2, .ref m), (3, .ref o), (4, .int (nI i))] [] ω n := by
  refine G.fr fun hf => ?_
  obtain ⟨hx, v, ω1, n1, e1, h⟩ := h n hf
  refine g_aload_n dL_law__2454 rfl 1 rfl ?_
  refine g_cvI (ci := 10) (As := []) mv_L_290 dL_law__2455 rfl hx rfl rfl (Nat.le_of_ble_eq_true rfl) (ok_X10_back Θ x _ _) e1 (by decide) (by omega) (by omega) ?_
  refine G.fr fun hf1 => ?_
  obtain ⟨hm, ω2, n3, e2, h⟩ := h _ hf1
  refine g_aload_n dL_law__2458 rfl 2 rfl ?_
  refine g_cvI (ci := 11) (As := []) mv_L_293 dL_law__2459 rfl hm rfl rfl (Nat.le_of_ble_eq_true rfl) (ok_X11_back Θ m _ _) e2 (by decide) (by show _ ≤ B.1 - _; omega) (by show _ ≤ B.2 - _; omega) ?_
  refine G.less (B' := (B.1 - 8, B.2 - 2100)) (by show B.1 - 8 ≤ B.1 - _ - _; omega) (by show B.2 - 2100 ≤ B.2 - _ - _; omega) ?_
  exact g_icmp_eq (tgt := 2492) dL_law__2462 (by decide) (fun _ => K _ _ h) (fun c => absurd rfl c)
theorem lc_47 (Θ : GP) {b L : Nat} {xs : Nat → Int32} (hX : gX Θ = some (b, L, xs)) (hL : L ≤ 3072) {x m o i : Nat} (hi : i + 6 ≤ L) {tab : List ExceptionTableEntry} {Qv : Option Value → OW → Nat → Prop} {Qx : String → OW → Nat → Prop} {B : Nat × Nat} (hB1 : 8 ≤ B.1) (hB2 : 2100 ≤ B.2) {Inv : OW → Prop} {ω : OW} {n : Nat} (h : stI x m (fun ω n => F_X10_count Θ x (xs (i + 1)) ω n) (fun ω n => F_X11_count Θ m (xs (i + 1)) ω n) Inv ω) (K : ∀ ω' n', Inv ω' → G Θ yL_law_ cL_law_ 7 (some .boolean) 1000 tab Qv Qx (B.1 - 8, B.2 - 2100) 2492 [(0, .ref b), (1, .ref x), (2, .ref m), (3, .ref o), (4, .int (nI i))] [] ω' n') : G Θ yL_law_ cL_law_ 7 (some .boolean) 1000 tab Qv Qx B 2467 [(0, .ref b), (1, .ref x), (2, .ref m), (3, .ref o), (4, .int (nI i))] [] ω n := by
  refine G.fr fun hf => ?_
  obtain ⟨hx, v, ω1, n1, e1, h⟩ := h n hf
  refine g_aload_n dL_law__2467 rfl 1 rfl ?_
  refine g_scr (k := 1) (j0 := 0) (j4 := 4) hX dL_law__2468 dL_law__2469 dL_law__2471 dL_law__2472 dL_law__2473 rfl rfl (by decide) (by omega) (by omega) ?_
  refine g_cvI (ci := 10) (As := [.int (xs (i + 1))]) mv_L_294 dL_law__2474 rfl hx rfl rfl (Nat.le_of_ble_eq_true rfl) (ok_X10_count Θ x (xs (i + 1)) _ _) e1 (by decide) (by omega) (by omega) ?_
  refine G.fr fun hf1 => ?_
  obtain ⟨hm, ω2, n3, e2, h⟩ := h _ hf1
  refine g_aload_n dL_law__2477 rfl 2 rfl ?_
  refine g_scr (k := 1) (j0 := 0) (j4 := 4) hX dL_law__2478 dL_law__2479 dL_law__2481 dL_law__2482 dL_law__2483 rfl rfl (by decide) (by omega) (by omega) ?_
  refine g_cvI (ci := 11) (As := [.int (xs (i + 1))]) mv_L_297 dL_law__2484 rfl hm rfl rfl (Nat.le_of_ble_eq_true rfl) (ok_X11_count Θ m (xs (i + 1)) _ _) e2 (by decide) (by show _ ≤ B.1 - _; omega) (by show _ ≤ B.2 - _; omega) ?_
  refine G.less (B' := (B.1 - 8, B.2 - 2100)) (by show B.1 - 8 ≤ B.1 - _ - _; omega) (by show B.2 - 2100 ≤ B.2 - _ - _; omega) ?_
  exact g_icmp_eq (tgt := 2492) dL_law__2487 (by decide) (fun _ => K _ _ h) (fun c => absurd rfl c)
