def cOw (ω : OW) (a ci : Nat) (k : Option (Int32 × OW)) : Option (Int32 × OW) := match ω a with
  | some (.inr (c, _)) => if c = ci then k else none
  | _ => none
theorem cOw_inv {ω : OW} {a ci : Nat} {k : Option (Int32 × OW)} {r : Int32 × OW} (h : cOw ω a ci k = some r) : ∃ fs, ω a = some (.inr (ci, fs)) ∧ k = some r := by
  unfold cOw at h
  split at h
  · split at h
    · rename_i hc; subst hc; exact ⟨_, by assumption, h⟩
    · cases h
  · cases h
def wrJ (Θ : GP) (out : Nat) (E1 : String) (R : RO) : Option (Int32 × OW) := match R with
  | some (.inl (some (.int x), ω, _)) => (match ω out with
    | some (.inl (c, len, .inr (.inl f))) => if c = gJ Θ ∧ 0 < len then some (0, g_upd ω out (.inl (gJ Θ, len, .inr (.inl (vp_updL f 0 x.toInt64))))) else none
    | _ => none)
  | some (.inr (E, ω)) => if E = E1 then some (1, ω) else none
  | _ => none
theorem wrJ_inv {Θ : GP} {out : Nat} {E1 : String} {R : RO} {x : Int32} {ω' : OW} (h : wrJ Θ out E1 R = some (x, ω')) : (∃ v ω n len f, R = some (.inl (some (.int v), ω, n)) ∧ ω out = some (.inl (gJ Θ, len, .inr (.inl f))) ∧ 0 < len ∧ x = 0 ∧ ω' = g_upd ω out (.inl (gJ Θ, len, .inr (.inl (vp_updL f 0 v.toInt64))))) ∨ (R = some (.inr (E1, ω')) ∧ x = 1) := by
  unfold wrJ at h
  split at h
  · split at h
    · split at h
      · rename_i hc
        obtain ⟨rfl, hl⟩ := hc
        cases h
        exact Or.inl ⟨_, _, _, _, _, rfl, by assumption, hl, rfl, rfl⟩
      · cases h
    · cases h
  · split at h
    · rename_i hc
      subst hc
      cases h
      exact Or.inr ⟨rfl, rfl⟩
    · cases h
  · cases h
def W_court (Θ : GP) (l0 : Nat) (l1 : Nat) (ω : OW) (n : Nat) : Option (Int32 × OW) := cOw ω l0 10 (wrI Θ l1 "java/lang/IllegalArgumentException" "java/lang/UnsupportedOperationException" (F_X10_court Θ l0 ω n))
theorem okW_court (Θ : GP) (l0 : Nat) (l1 : Nat) (ω : OW) (n : Nat) (x : Int32) (ω' : OW) (h : W_court Θ l0 l1 ω n = some (x, ω')) : ConW Θ 7 1 6 yL_court cL_court 3 (some .int) [(0, 8, 11, 13), (0, 8, 14, 15)] [.ref l0, .ref l1] ω n (qw x ω') := by
  unfold W_court at h
  obtain ⟨fs, ha, h⟩ := cOw_inv h
  refine ConW.of (by decide +kernel) (Nat.le_of_ble_eq_true rfl) ?_
  show G Θ yL_court cL_court 3 (some .int) 7 (tableOf [(0, 8, 11, 13), (0, 8, 14, 15)]) (qw x ω') noX (1, 6) 0 [(0, .ref l0), (1, .ref l1)] [] ω n
  refine g_aload_n dL_court_0 rfl 1 rfl ?_
  refine g_iconst (v := 0) dL_court_1 (by decide) ?_
  refine g_aload_n dL_court_2 rfl 0 rfl ?_
  rcases wrI_inv h with ⟨v1, ω1, n1, len, f, e1, e2, e3, rfl, rfl⟩ | ⟨e1, rfl⟩ | ⟨e1, rfl⟩
  · refine g_callVT (ci := 10) (As := []) mv_L_7 dL_court_3 rfl ha rfl rfl (Nat.le_of_ble_eq_true rfl) ((ok_X10_court Θ l0 _ _) _ e1) (by decide) (by decide) (by decide) (fun E ω' n' hq => by cases hq) ?_
    intro v ω' n' hv
    cases hv
    refine G.less (B' := (0, 0)) (by decide) (by decide) ?_
    refine g_i2l dL_court_6 ?_
    refine g_last dL_court_7 e2 (by unfold vp_in; simp; omega) ?_
    refine g_goto (tgt := 17) dL_court_8 (by decide) ?_
    refine g_iconst (v := 0) dL_court_17 (by decide) ?_
    exact g_iret rfl dL_court_18 ⟨rfl, rfl⟩
  · refine g_callVT (ci := 10) (As := []) mv_L_7 dL_court_3 rfl ha rfl rfl (Nat.le_of_ble_eq_true rfl) ((ok_X10_court Θ l0 _ _) _ e1) (by decide) (by decide) (by decide) ?_ (fun v ω' n' hv => by cases hv)
    intro E ω' n' hq
    cases hq
    refine ⟨[], _, _, "java/lang/IllegalArgumentException", rfl, (fun z hz => by cases hz), by decide, by decide, wd_786, by decide +kernel, fun q => ?_⟩
    refine G.less (B' := (0, 0)) (by decide) (by decide) ?_
    refine g_astore_n (lv' := [(2, .ref q), (0, .ref l0), (1, .ref l1)]) dL_court_11 rfl (by decide) rfl ?_
    refine g_iconst (v := 1) dL_court_12 (by decide) ?_
    exact g_iret rfl dL_court_13 ⟨rfl, rfl⟩
  · refine g_callVT (ci := 10) (As := []) mv_L_7 dL_court_3 rfl ha rfl rfl (Nat.le_of_ble_eq_true rfl) ((ok_X10_court Θ l0 _ _) _ e1) (by decide) (by decide) (by decide) ?_ (fun v ω' n' hv => by cases hv)
    intro E ω' n' hq
    cases hq
    refine ⟨[_], _, _, "java/lang/UnsupportedOperationException", rfl, (fun z hz => by cases List.mem_singleton.mp hz; exact Or.inr ⟨by decide, "java/lang/IllegalArgumentException", wd_786, by decide⟩), by decide, by decide, wd_787, by decide +kernel, fun q => ?_⟩
    refine G.less (B' := (0, 0)) (by decide) (by decide) ?_
    refine g_astore_n (lv' := [(2, .ref q), (0, .ref l0), (1, .ref l1)]) dL_court_14 rfl (by decide) rfl ?_
    refine g_iconst (v := 2) dL_court_15 (by decide) ?_
    exact g_iret rfl dL_court_16 ⟨rfl, rfl⟩
def W_law (Θ : GP) (l0 : Nat) (l1 : Nat) (ω : OW) (n : Nat) : Option (Int32 × OW) := cOw ω l0 10 (wrJ Θ l1 "java/lang/IllegalArgumentException"  (F_X10_law Θ l0 ω n))
theorem okW_law (Θ : GP) (l0 : Nat) (l1 : Nat) (ω : OW) (n : Nat) (x : Int32) (ω' : OW) (h : W_law Θ l0 l1 ω n = some (x, ω')) : ConW Θ 208 6 2012 yL_law cL_law 3 (some .int) [(0, 8, 11, 13)] [.ref l0, .ref l1] ω n (qw x ω') := by
  unfold W_law at h
  obtain ⟨fs, ha, h⟩ := cOw_inv h
  refine ConW.of (by decide +kernel) (Nat.le_of_ble_eq_true rfl) ?_
  show G Θ yL_law cL_law 3 (some .int) 208 (tableOf [(0, 8, 11, 13)]) (qw x ω') noX (6, 2012) 0 [(0, .ref l0), (1, .ref l1)] [] ω n
  refine g_aload_n dL_law_0 rfl 1 rfl ?_
  refine g_iconst (v := 0) dL_law_1 (by decide) ?_
  refine g_aload_n dL_law_2 rfl 0 rfl ?_
  rcases wrJ_inv h with ⟨v1, ω1, n1, len, f, e1, e2, e3, rfl, rfl⟩ | ⟨e1, rfl⟩
  · refine g_callVT (ci := 10) (As := []) mv_L_17 dL_law_3 rfl ha rfl rfl (Nat.le_of_ble_eq_true rfl) ((ok_X10_law Θ l0 _ _) _ e1) (by decide) (by decide) (by decide) (fun E ω' n' hq => by cases hq) ?_
    intro v ω' n' hv
    cases hv
    refine G.less (B' := (0, 0)) (by decide) (by decide) ?_
    refine g_i2l dL_law_6 ?_
    refine g_last dL_law_7 e2 (by unfold vp_in; simp; omega) ?_
    refine g_goto (tgt := 14) dL_law_8 (by decide) ?_
    refine g_iconst (v := 0) dL_law_14 (by decide) ?_
    exact g_iret rfl dL_law_15 ⟨rfl, rfl⟩
  · refine g_callVT (ci := 10) (As := []) mv_L_17 dL_law_3 rfl ha rfl rfl (Nat.le_of_ble_eq_true rfl) ((ok_X10_law Θ l0 _ _) _ e1) (by decide) (by decide) (by decide) ?_ (fun v ω' n' hv => by cases hv)
    intro E ω' n' hq
    cases hq
    refine ⟨[], _, _, "java/lang/IllegalArgumentException", rfl, (fun z hz => by cases hz), by decide, by decide, wd_786, by decide +kernel, fun q => ?_⟩
    refine G.less (B' := (0, 0)) (by decide) (by decide) ?_
    refine g_astore_n (lv' := [(2, .ref q), (0, .ref l0), (1, .ref l1)]) dL_law_11 rfl (by decide) rfl ?_
    refine g_iconst (v := 1) dL_law_12 (by decide) ?_
    exact g_iret rfl dL_law_13 ⟨rfl, rfl⟩
def W_prop (Θ : GP) (l0 : Nat) (l1 : Int32) (l2 : Int32) (l3 : Nat) (ω : OW) (n : Nat) : Option (Int32 × OW) := cOw ω l0 10 (wrI Θ l3 "java/lang/IndexOutOfBoundsException" "java/util/NoSuchElementException" (F_X10_prop Θ l0 l1 l2 ω n))
theorem okW_prop (Θ : GP) (l0 : Nat) (l1 : Int32) (l2 : Int32) (l3 : Nat) (ω : OW) (n : Nat) (x : Int32) (ω' : OW) (h : W_prop Θ l0 l1 l2 l3 ω n = some (x, ω')) : ConW Θ 8 2 12 yL_prop cL_prop 5 (some .int) [(0, 10, 13, 24), (0, 10, 17, 26)] [.ref l0, .int l1, .int l2, .ref l3] ω n (qw x ω') := by
  unfold W_prop at h
  obtain ⟨fs, ha, h⟩ := cOw_inv h
  refine ConW.of (by decide +kernel) (Nat.le_of_ble_eq_true rfl) ?_
  show G Θ yL_prop cL_prop 5 (some .int) 8 (tableOf [(0, 10, 13, 24), (0, 10, 17, 26)]) (qw x ω') noX (2, 12) 0 [(0, .ref l0), (1, .int l1), (2, .int l2), (3, .ref l3)] [] ω n
  refine g_aload_n dL_prop_0 rfl 3 rfl ?_
  refine g_iconst (v := 0) dL_prop_1 (by decide) ?_
  refine g_aload_n dL_prop_2 rfl 0 rfl ?_
  refine g_iload_n dL_prop_3 rfl 1 rfl ?_
  refine g_iload_n dL_prop_4 rfl 2 rfl ?_
  rcases wrI_inv h with ⟨v1, ω1, n1, len, f, e1, e2, e3, rfl, rfl⟩ | ⟨e1, rfl⟩ | ⟨e1, rfl⟩
  · refine g_callVT (ci := 10) (As := [.int l1, .int l2]) mv_L_20 dL_prop_5 rfl ha rfl rfl (Nat.le_of_ble_eq_true rfl) ((ok_X10_prop Θ l0 l1 l2 _ _) _ e1) (by decide) (by decide) (by decide) (fun E ω' n' hq => by cases hq) ?_
    intro v ω' n' hv
    cases hv
    refine G.less (B' := (0, 0)) (by decide) (by decide) ?_
    refine g_i2l dL_prop_8 ?_
    refine g_last dL_prop_9 e2 (by unfold vp_in; simp; omega) ?_
    refine g_goto (tgt := 21) dL_prop_10 (by decide) ?_
    refine g_iconst (v := 0) dL_prop_21 (by decide) ?_
    exact g_iret rfl dL_prop_22 ⟨rfl, rfl⟩
  · refine g_callVT (ci := 10) (As := [.int l1, .int l2]) mv_L_20 dL_prop_5 rfl ha rfl rfl (Nat.le_of_ble_eq_true rfl) ((ok_X10_prop Θ l0 l1 l2 _ _) _ e1) (by decide) (by decide) (by decide) ?_ (fun v ω' n' hv => by cases hv)
    intro E ω' n' hq
    cases hq
    refine ⟨[], _, _, "java/lang/IndexOutOfBoundsException", rfl, (fun z hz => by cases hz), by decide, by decide, wd_1043, by decide +kernel, fun q => ?_⟩
    refine G.less (B' := (0, 0)) (by decide) (by decide) ?_
    refine g_astore (lv' := [(4, .ref q), (0, .ref l0), (1, .int l1), (2, .int l2), (3, .ref l3)]) dL_prop_13 (by decide) rfl ?_
    refine g_iconst (v := 1) dL_prop_15 (by decide) ?_
    exact g_iret rfl dL_prop_16 ⟨rfl, rfl⟩
  · refine g_callVT (ci := 10) (As := [.int l1, .int l2]) mv_L_20 dL_prop_5 rfl ha rfl rfl (Nat.le_of_ble_eq_true rfl) ((ok_X10_prop Θ l0 l1 l2 _ _) _ e1) (by decide) (by decide) (by decide) ?_ (fun v ω' n' hv => by cases hv)
    intro E ω' n' hq
    cases hq
    refine ⟨[_], _, _, "java/util/NoSuchElementException", rfl, (fun z hz => by cases List.mem_singleton.mp hz; exact Or.inr ⟨by decide, "java/lang/IndexOutOfBoundsException", wd_1043, by decide⟩), by decide, by decide, wd_1044, by decide +kernel, fun q => ?_⟩
    refine G.less (B' := (0, 0)) (by decide) (by decide) ?_
    refine g_astore (lv' := [(4, .ref q), (0, .ref l0), (1, .int l1), (2, .int l2), (3, .ref l3)]) dL_prop_17 (by decide) rfl ?_
    refine g_iconst (v := 2) dL_prop_19 (by decide) ?_
    exact g_iret rfl dL_prop_20 ⟨rfl, rfl⟩
def W_slot (Θ : GP) (l0 : Nat) (l1 : Int32) (l2 : Nat) (ω : OW) (n : Nat) : Option (Int32 × OW) := cOw ω l0 10 (wrJ Θ l2 "java/lang/IndexOutOfBoundsException"  (F_X10_slot Θ l0 l1 ω n))
theorem okW_slot (Θ : GP) (l0 : Nat) (l1 : Int32) (l2 : Nat) (ω : OW) (n : Nat) (x : Int32) (ω' : OW) (h : W_slot Θ l0 l1 l2 ω n = some (x, ω')) : ConW Θ 8 1 6 yL_slot cL_slot 4 (some .int) [(0, 9, 12, 24)] [.ref l0, .int l1, .ref l2] ω n (qw x ω') := by
  unfold W_slot at h
  obtain ⟨fs, ha, h⟩ := cOw_inv h
  refine ConW.of (by decide +kernel) (Nat.le_of_ble_eq_true rfl) ?_
  show G Θ yL_slot cL_slot 4 (some .int) 8 (tableOf [(0, 9, 12, 24)]) (qw x ω') noX (1, 6) 0 [(0, .ref l0), (1, .int l1), (2, .ref l2)] [] ω n
  refine g_aload_n dL_slot_0 rfl 2 rfl ?_
  refine g_iconst (v := 0) dL_slot_1 (by decide) ?_
  refine g_aload_n dL_slot_2 rfl 0 rfl ?_
  refine g_iload_n dL_slot_3 rfl 1 rfl ?_
  rcases wrJ_inv h with ⟨v1, ω1, n1, len, f, e1, e2, e3, rfl, rfl⟩ | ⟨e1, rfl⟩
  · refine g_callVT (ci := 10) (As := [.int l1]) mv_L_28 dL_slot_4 rfl ha rfl rfl (Nat.le_of_ble_eq_true rfl) ((ok_X10_slot Θ l0 l1 _ _) _ e1) (by decide) (by decide) (by decide) (fun E ω' n' hq => by cases hq) ?_
    intro v ω' n' hv
    cases hv
    refine G.less (B' := (0, 0)) (by decide) (by decide) ?_
    refine g_i2l dL_slot_7 ?_
    refine g_last dL_slot_8 e2 (by unfold vp_in; simp; omega) ?_
    refine g_goto (tgt := 15) dL_slot_9 (by decide) ?_
    refine g_iconst (v := 0) dL_slot_15 (by decide) ?_
    exact g_iret rfl dL_slot_16 ⟨rfl, rfl⟩
  · refine g_callVT (ci := 10) (As := [.int l1]) mv_L_28 dL_slot_4 rfl ha rfl rfl (Nat.le_of_ble_eq_true rfl) ((ok_X10_slot Θ l0 l1 _ _) _ e1) (by decide) (by decide) (by decide) ?_ (fun v ω' n' hv => by cases hv)
    intro E ω' n' hq
    cases hq
    refine ⟨[], _, _, "java/lang/IndexOutOfBoundsException", rfl, (fun z hz => by cases hz), by decide, by decide, wd_1043, by decide +kernel, fun q => ?_⟩
    refine G.less (B' := (0, 0)) (by decide) (by decide) ?_
    refine g_astore_n (lv' := [(3, .ref q), (0, .ref l0), (1, .int l1), (2, .ref l2)]) dL_slot_12 rfl (by decide) rfl ?_
    refine g_iconst (v := 1) dL_slot_13 (by decide) ?_
    exact g_iret rfl dL_slot_14 ⟨rfl, rfl⟩
def W_accused (Θ : GP) (l0 : Nat) (l1 : Int32) (l2 : Int32) (l3 : Nat) (ω : OW) (n : Nat) : Option (Int32 × OW) := cOw ω l0 10 (wrI Θ l3 "java/lang/IndexOutOfBoundsException" "java/util/NoSuchElementException" (F_X10_accused Θ l0 l1 l2 ω n))
theorem okW_accused (Θ : GP) (l0 : Nat) (l1 : Int32) (l2 : Int32) (l3 : Nat) (ω : OW) (n : Nat) (x : Int32) (ω' : OW) (h : W_accused Θ l0 l1 l2 l3 ω n = some (x, ω')) : ConW Θ 8 2 12 yL_accused cL_accused 5 (some .int) [(0, 10, 13, 24), (0, 10, 17, 26)] [.ref l0, .int l1, .int l2, .ref l3] ω n (qw x ω') := by
  unfold W_accused at h
  obtain ⟨fs, ha, h⟩ := cOw_inv h
  refine ConW.of (by decide +kernel) (Nat.le_of_ble_eq_true rfl) ?_
  show G Θ yL_accused cL_accused 5 (some .int) 8 (tableOf [(0, 10, 13, 24), (0, 10, 17, 26)]) (qw x ω') noX (2, 12) 0 [(0, .ref l0), (1, .int l1), (2, .int l2), (3, .ref l3)] [] ω n
  refine g_aload_n dL_accused_0 rfl 3 rfl ?_
  refine g_iconst (v := 0) dL_accused_1 (by decide) ?_
  refine g_aload_n dL_accused_2 rfl 0 rfl ?_
  refine g_iload_n dL_accused_3 rfl 1 rfl ?_
  refine g_iload_n dL_accused_4 rfl 2 rfl ?_
  rcases wrI_inv h with ⟨v1, ω1, n1, len, f, e1, e2, e3, rfl, rfl⟩ | ⟨e1, rfl⟩ | ⟨e1, rfl⟩
  · refine g_callVT (ci := 10) (As := [.int l1, .int l2]) mv_L_32 dL_accused_5 rfl ha rfl rfl (Nat.le_of_ble_eq_true rfl) ((ok_X10_accused Θ l0 l1 l2 _ _) _ e1) (by decide) (by decide) (by decide) (fun E ω' n' hq => by cases hq) ?_
    intro v ω' n' hv
    cases hv
    refine G.less (B' := (0, 0)) (by decide) (by decide) ?_
    refine g_i2l dL_accused_8 ?_
    refine g_last dL_accused_9 e2 (by unfold vp_in; simp; omega) ?_
    refine g_goto (tgt := 21) dL_accused_10 (by decide) ?_
    refine g_iconst (v := 0) dL_accused_21 (by decide) ?_
    exact g_iret rfl dL_accused_22 ⟨rfl, rfl⟩
  · refine g_callVT (ci := 10) (As := [.int l1, .int l2]) mv_L_32 dL_accused_5 rfl ha rfl rfl (Nat.le_of_ble_eq_true rfl) ((ok_X10_accused Θ l0 l1 l2 _ _) _ e1) (by decide) (by decide) (by decide) ?_ (fun v ω' n' hv => by cases hv)
    intro E ω' n' hq
    cases hq
    refine ⟨[], _, _, "java/lang/IndexOutOfBoundsException", rfl, (fun z hz => by cases hz), by decide, by decide, wd_1043, by decide +kernel, fun q => ?_⟩
    refine G.less (B' := (0, 0)) (by decide) (by decide) ?_
    refine g_astore (lv' := [(4, .ref q), (0, .ref l0), (1, .int l1), (2, .int l2), (3, .ref l3)]) dL_accused_13 (by decide) rfl ?_
    refine g_iconst (v := 1) dL_accused_15 (by decide) ?_
    exact g_iret rfl dL_accused_16 ⟨rfl, rfl⟩
  · refine g_callVT (ci := 10) (As := [.int l1, .int l2]) mv_L_32 dL_accused_5 rfl ha rfl rfl (Nat.le_of_ble_eq_true rfl) ((ok_X10_accused Θ l0 l1 l2 _ _) _ e1) (by decide) (by decide) (by decide) ?_ (fun v ω' n' hv => by cases hv)
    intro E ω' n' hq
    cases hq
    refine ⟨[_], _, _, "java/util/NoSuchElementException", rfl, (fun z hz => by cases List.mem_singleton.mp hz; exact Or.inr ⟨by decide, "java/lang/IndexOutOfBoundsException", wd_1043, by decide⟩), by decide, by decide, wd_1044, by decide +kernel, fun q => ?_⟩
    refine G.less (B' := (0, 0)) (by decide) (by decide) ?_
    refine g_astore (lv' := [(4, .ref q), (0, .ref l0), (1, .int l1), (2, .int l2), (3, .ref l3)]) dL_accused_17 (by decide) rfl ?_
    refine g_iconst (v := 2) dL_accused_19 (by decide) ?_
    exact g_iret rfl dL_accused_20 ⟨rfl, rfl⟩
def W_fright (Θ : GP) (l0 : Nat) (l1 : Int32) (l2 : Int32) (l3 : Int32) (l4 : Int32) (l5 : Nat) (ω : OW) (n : Nat) : Option (Int32 × OW) := cOw ω l0 10 (wrI Θ l5 "java/lang/IndexOutOfBoundsException" "java/lang/IllegalArgumentException" (F_X10_fright Θ l0 l1 l2 l3 l4 ω n))
theorem okW_fright (Θ : GP) (l0 : Nat) (l1 : Int32) (l2 : Int32) (l3 : Int32) (l4 : Int32) (l5 : Nat) (ω : OW) (n : Nat) (x : Int32) (ω' : OW) (h : W_fright Θ l0 l1 l2 l3 l4 l5 ω n = some (x, ω')) : ConW Θ 8 3 18 yL_fright cL_fright 7 (some .int) [(0, 14, 17, 24), (0, 14, 21, 13)] [.ref l0, .int l1, .int l2, .int l3, .int l4, .ref l5] ω n (qw x ω') := by
  unfold W_fright at h
  obtain ⟨fs, ha, h⟩ := cOw_inv h
  refine ConW.of (by decide +kernel) (Nat.le_of_ble_eq_true rfl) ?_
  show G Θ yL_fright cL_fright 7 (some .int) 8 (tableOf [(0, 14, 17, 24), (0, 14, 21, 13)]) (qw x ω') noX (3, 18) 0 [(0, .ref l0), (1, .int l1), (2, .int l2), (3, .int l3), (4, .int l4), (5, .ref l5)] [] ω n
  refine g_aload dL_fright_0 5 rfl ?_
  refine g_iconst (v := 0) dL_fright_2 (by decide) ?_
  refine g_aload_n dL_fright_3 rfl 0 rfl ?_
  refine g_iload_n dL_fright_4 rfl 1 rfl ?_
  refine g_iload_n dL_fright_5 rfl 2 rfl ?_
  refine g_iload_n dL_fright_6 rfl 3 rfl ?_
  refine g_iload dL_fright_7 4 rfl ?_
  rcases wrI_inv h with ⟨v1, ω1, n1, len, f, e1, e2, e3, rfl, rfl⟩ | ⟨e1, rfl⟩ | ⟨e1, rfl⟩
  · refine g_callVT (ci := 10) (As := [.int l1, .int l2, .int l3, .int l4]) mv_L_35 dL_fright_9 rfl ha rfl rfl (Nat.le_of_ble_eq_true rfl) ((ok_X10_fright Θ l0 l1 l2 l3 l4 _ _) _ e1) (by decide) (by decide) (by decide) (fun E ω' n' hq => by cases hq) ?_
    intro v ω' n' hv
    cases hv
    refine G.less (B' := (0, 0)) (by decide) (by decide) ?_
    refine g_i2l dL_fright_12 ?_
    refine g_last dL_fright_13 e2 (by unfold vp_in; simp; omega) ?_
    refine g_goto (tgt := 25) dL_fright_14 (by decide) ?_
    refine g_iconst (v := 0) dL_fright_25 (by decide) ?_
    exact g_iret rfl dL_fright_26 ⟨rfl, rfl⟩
  · refine g_callVT (ci := 10) (As := [.int l1, .int l2, .int l3, .int l4]) mv_L_35 dL_fright_9 rfl ha rfl rfl (Nat.le_of_ble_eq_true rfl) ((ok_X10_fright Θ l0 l1 l2 l3 l4 _ _) _ e1) (by decide) (by decide) (by decide) ?_ (fun v ω' n' hv => by cases hv)
    intro E ω' n' hq
    cases hq
    refine ⟨[], _, _, "java/lang/IndexOutOfBoundsException", rfl, (fun z hz => by cases hz), by decide, by decide, wd_1043, by decide +kernel, fun q => ?_⟩
    refine G.less (B' := (0, 0)) (by decide) (by decide) ?_
    refine g_astore (lv' := [(6, .ref q), (0, .ref l0), (1, .int l1), (2, .int l2), (3, .int l3), (4, .int l4), (5, .ref l5)]) dL_fright_17 (by decide) rfl ?_
    refine g_iconst (v := 1) dL_fright_19 (by decide) ?_
    exact g_iret rfl dL_fright_20 ⟨rfl, rfl⟩
  · refine g_callVT (ci := 10) (As := [.int l1, .int l2, .int l3, .int l4]) mv_L_35 dL_fright_9 rfl ha rfl rfl (Nat.le_of_ble_eq_true rfl) ((ok_X10_fright Θ l0 l1 l2 l3 l4 _ _) _ e1) (by decide) (by decide) (by decide) ?_ (fun v ω' n' hv => by cases hv)
    intro E ω' n' hq
    cases hq
    refine ⟨[_], _, _, "java/lang/IllegalArgumentException", rfl, (fun z hz => by cases List.mem_singleton.mp hz; exact Or.inr ⟨by decide, "java/lang/IndexOutOfBoundsException", wd_1043, by decide⟩), by decide, by decide, wd_786, by decide +kernel, fun q => ?_⟩
    refine G.less (B' := (0, 0)) (by decide) (by decide) ?_
    refine g_astore (lv' := [(6, .ref q), (0, .ref l0), (1, .int l1), (2, .int l2), (3, .int l3), (4, .int l4), (5, .ref l5)]) dL_fright_21 (by decide) rfl ?_
    refine g_iconst (v := 2) dL_fright_23 (by decide) ?_
    exact g_iret rfl dL_fright_24 ⟨rfl, rfl⟩
def W_send (Θ : GP) (l0 : Nat) (l1 : Int32) (l2 : Nat) (ω : OW) (n : Nat) : Option (Int32 × OW) := cOw ω l0 10 (wrI Θ l2 "java/lang/IndexOutOfBoundsException" "java/lang/IllegalStateException" (F_X10_send Θ l0 l1 ω n))
theorem okW_send (Θ : GP) (l0 : Nat) (l1 : Int32) (l2 : Nat) (ω : OW) (n : Nat) (x : Int32) (ω' : OW) (h : W_send Θ l0 l1 l2 ω n = some (x, ω')) : ConW Θ 8 2 12 yL_send cL_send 4 (some .int) [(0, 9, 12, 24), (0, 9, 15, 42)] [.ref l0, .int l1, .ref l2] ω n (qw x ω') := by
  unfold W_send at h
  obtain ⟨fs, ha, h⟩ := cOw_inv h
  refine ConW.of (by decide +kernel) (Nat.le_of_ble_eq_true rfl) ?_
  show G Θ yL_send cL_send 4 (some .int) 8 (tableOf [(0, 9, 12, 24), (0, 9, 15, 42)]) (qw x ω') noX (2, 12) 0 [(0, .ref l0), (1, .int l1), (2, .ref l2)] [] ω n
  refine g_aload_n dL_send_0 rfl 2 rfl ?_
  refine g_iconst (v := 0) dL_send_1 (by decide) ?_
  refine g_aload_n dL_send_2 rfl 0 rfl ?_
  refine g_iload_n dL_send_3 rfl 1 rfl ?_
  rcases wrI_inv h with ⟨v1, ω1, n1, len, f, e1, e2, e3, rfl, rfl⟩ | ⟨e1, rfl⟩ | ⟨e1, rfl⟩
  · refine g_callVT (ci := 10) (As := [.int l1]) mv_L_39 dL_send_4 rfl ha rfl rfl (Nat.le_of_ble_eq_true rfl) ((ok_X10_send Θ l0 l1 _ _) _ e1) (by decide) (by decide) (by decide) (fun E ω' n' hq => by cases hq) ?_
    intro v ω' n' hv
    cases hv
    refine G.less (B' := (0, 0)) (by decide) (by decide) ?_
    refine g_i2l dL_send_7 ?_
    refine g_last dL_send_8 e2 (by unfold vp_in; simp; omega) ?_
    refine g_goto (tgt := 18) dL_send_9 (by decide) ?_
    refine g_iconst (v := 0) dL_send_18 (by decide) ?_
    exact g_iret rfl dL_send_19 ⟨rfl, rfl⟩
  · refine g_callVT (ci := 10) (As := [.int l1]) mv_L_39 dL_send_4 rfl ha rfl rfl (Nat.le_of_ble_eq_true rfl) ((ok_X10_send Θ l0 l1 _ _) _ e1) (by decide) (by decide) (by decide) ?_ (fun v ω' n' hv => by cases hv)
    intro E ω' n' hq
    cases hq
    refine ⟨[], _, _, "java/lang/IndexOutOfBoundsException", rfl, (fun z hz => by cases hz), by decide, by decide, wd_1043, by decide +kernel, fun q => ?_⟩
    refine G.less (B' := (0, 0)) (by decide) (by decide) ?_
    refine g_astore_n (lv' := [(3, .ref q), (0, .ref l0), (1, .int l1), (2, .ref l2)]) dL_send_12 rfl (by decide) rfl ?_
    refine g_iconst (v := 1) dL_send_13 (by decide) ?_
    exact g_iret rfl dL_send_14 ⟨rfl, rfl⟩
  · refine g_callVT (ci := 10) (As := [.int l1]) mv_L_39 dL_send_4 rfl ha rfl rfl (Nat.le_of_ble_eq_true rfl) ((ok_X10_send Θ l0 l1 _ _) _ e1) (by decide) (by decide) (by decide) ?_ (fun v ω' n' hv => by cases hv)
    intro E ω' n' hq
    cases hq
    refine ⟨[_], _, _, "java/lang/IllegalStateException", rfl, (fun z hz => by cases List.mem_singleton.mp hz; exact Or.inr ⟨by decide, "java/lang/IndexOutOfBoundsException", wd_1043, by decide⟩), by decide, by decide, wd_1124, by decide +kernel, fun q => ?_⟩
    refine G.less (B' := (0, 0)) (by decide) (by decide) ?_
    refine g_astore_n (lv' := [(3, .ref q), (0, .ref l0), (1, .int l1), (2, .ref l2)]) dL_send_15 rfl (by decide) rfl ?_
    refine g_iconst (v := 2) dL_send_16 (by decide) ?_
    exact g_iret rfl dL_send_17 ⟨rfl, rfl⟩
def W_nail (Θ : GP) (l0 : Nat) (l1 : Int32) (l2 : Int32) (ω : OW) (n : Nat) : Option (Int32 × OW) := cOw ω l0 10 (wrV "java/lang/IndexOutOfBoundsException" "java/lang/IllegalStateException" (F_X10_nail Θ l0 l1 l2 ω n))
theorem okW_nail (Θ : GP) (l0 : Nat) (l1 : Int32) (l2 : Int32) (ω : OW) (n : Nat) (x : Int32) (ω' : OW) (h : W_nail Θ l0 l1 l2 ω n = some (x, ω')) : ConW Θ 8 3 18 yL_nail cL_nail 4 (some .int) [(0, 6, 9, 24), (0, 6, 12, 42)] [.ref l0, .int l1, .int l2] ω n (qw x ω') := by
  unfold W_nail at h
  obtain ⟨fs, ha, h⟩ := cOw_inv h
  refine ConW.of (by decide +kernel) (Nat.le_of_ble_eq_true rfl) ?_
  show G Θ yL_nail cL_nail 4 (some .int) 8 (tableOf [(0, 6, 9, 24), (0, 6, 12, 42)]) (qw x ω') noX (3, 18) 0 [(0, .ref l0), (1, .int l1), (2, .int l2)] [] ω n
  refine g_aload_n dL_nail_0 rfl 0 rfl ?_
  refine g_iload_n dL_nail_1 rfl 1 rfl ?_
  refine g_iload_n dL_nail_2 rfl 2 rfl ?_
  rcases wrV_inv h with ⟨n1, e1, rfl⟩ | ⟨e1, rfl⟩ | ⟨e1, rfl⟩
  · refine g_callVT (ci := 10) (As := [.int l1, .int l2]) mv_L_44 dL_nail_3 rfl ha rfl rfl (Nat.le_of_ble_eq_true rfl) ((ok_X10_nail Θ l0 l1 l2 _ _) _ e1) (by decide) (by decide) (by decide) (fun E ω' n' hq => by cases hq) ?_
    intro v ω' n' hv
    cases hv
    refine G.less (B' := (0, 0)) (by decide) (by decide) ?_
    refine g_goto (tgt := 15) dL_nail_6 (by decide) ?_
    refine g_iconst (v := 0) dL_nail_15 (by decide) ?_
    exact g_iret rfl dL_nail_16 ⟨rfl, rfl⟩
  · refine g_callVT (ci := 10) (As := [.int l1, .int l2]) mv_L_44 dL_nail_3 rfl ha rfl rfl (Nat.le_of_ble_eq_true rfl) ((ok_X10_nail Θ l0 l1 l2 _ _) _ e1) (by decide) (by decide) (by decide) ?_ (fun v ω' n' hv => by cases hv)
    intro E ω' n' hq
    cases hq
    refine ⟨[], _, _, "java/lang/IndexOutOfBoundsException", rfl, (fun z hz => by cases hz), by decide, by decide, wd_1043, by decide +kernel, fun q => ?_⟩
    refine G.less (B' := (0, 0)) (by decide) (by decide) ?_
    refine g_astore_n (lv' := [(3, .ref q), (0, .ref l0), (1, .int l1), (2, .int l2)]) dL_nail_9 rfl (by decide) rfl ?_
    refine g_iconst (v := 1) dL_nail_10 (by decide) ?_
    exact g_iret rfl dL_nail_11 ⟨rfl, rfl⟩
  · refine g_callVT (ci := 10) (As := [.int l1, .int l2]) mv_L_44 dL_nail_3 rfl ha rfl rfl (Nat.le_of_ble_eq_true rfl) ((ok_X10_nail Θ l0 l1 l2 _ _) _ e1) (by decide) (by decide) (by decide) ?_ (fun v ω' n' hv => by cases hv)
    intro E ω' n' hq
    cases hq
    refine ⟨[_], _, _, "java/lang/IllegalStateException", rfl, (fun z hz => by cases List.mem_singleton.mp hz; exact Or.inr ⟨by decide, "java/lang/IndexOutOfBoundsException", wd_1043, by decide⟩), by decide, by decide, wd_1124, by decide +kernel, fun q => ?_⟩
    refine G.less (B' := (0, 0)) (by decide) (by decide) ?_
    refine g_astore_n (lv' := [(3, .ref q), (0, .ref l0), (1, .int l1), (2, .int l2)]) dL_nail_12 rfl (by decide) rfl ?_
    refine g_iconst (v := 2) dL_nail_13 (by decide) ?_
    exact g_iret rfl dL_nail_14 ⟨rfl, rfl⟩
def W_down (Θ : GP) (l0 : Nat) (l1 : Int32) (l2 : Nat) (ω : OW) (n : Nat) : Option (Int32 × OW) := cOw ω l0 10 (wrI Θ l2 "java/lang/IndexOutOfBoundsException" "java/lang/IllegalStateException" (F_X10_down Θ l0 l1 ω n))
theorem okW_down (Θ : GP) (l0 : Nat) (l1 : Int32) (l2 : Nat) (ω : OW) (n : Nat) (x : Int32) (ω' : OW) (h : W_down Θ l0 l1 l2 ω n = some (x, ω')) : ConW Θ 8 2 12 yL_down cL_down 4 (some .int) [(0, 9, 12, 24), (0, 9, 15, 42)] [.ref l0, .int l1, .ref l2] ω n (qw x ω') := by
  unfold W_down at h
  obtain ⟨fs, ha, h⟩ := cOw_inv h
  refine ConW.of (by decide +kernel) (Nat.le_of_ble_eq_true rfl) ?_
  show G Θ yL_down cL_down 4 (some .int) 8 (tableOf [(0, 9, 12, 24), (0, 9, 15, 42)]) (qw x ω') noX (2, 12) 0 [(0, .ref l0), (1, .int l1), (2, .ref l2)] [] ω n
  refine g_aload_n dL_down_0 rfl 2 rfl ?_
  refine g_iconst (v := 0) dL_down_1 (by decide) ?_
  refine g_aload_n dL_down_2 rfl 0 rfl ?_
  refine g_iload_n dL_down_3 rfl 1 rfl ?_
  rcases wrI_inv h with ⟨v1, ω1, n1, len, f, e1, e2, e3, rfl, rfl⟩ | ⟨e1, rfl⟩ | ⟨e1, rfl⟩
  · refine g_callVT (ci := 10) (As := [.int l1]) mv_L_48 dL_down_4 rfl ha rfl rfl (Nat.le_of_ble_eq_true rfl) ((ok_X10_down Θ l0 l1 _ _) _ e1) (by decide) (by decide) (by decide) (fun E ω' n' hq => by cases hq) ?_
    intro v ω' n' hv
    cases hv
    refine G.less (B' := (0, 0)) (by decide) (by decide) ?_
    refine g_i2l dL_down_7 ?_
    refine g_last dL_down_8 e2 (by unfold vp_in; simp; omega) ?_
    refine g_goto (tgt := 18) dL_down_9 (by decide) ?_
    refine g_iconst (v := 0) dL_down_18 (by decide) ?_
    exact g_iret rfl dL_down_19 ⟨rfl, rfl⟩
  · refine g_callVT (ci := 10) (As := [.int l1]) mv_L_48 dL_down_4 rfl ha rfl rfl (Nat.le_of_ble_eq_true rfl) ((ok_X10_down Θ l0 l1 _ _) _ e1) (by decide) (by decide) (by decide) ?_ (fun v ω' n' hv => by cases hv)
    intro E ω' n' hq
    cases hq
    refine ⟨[], _, _, "java/lang/IndexOutOfBoundsException", rfl, (fun z hz => by cases hz), by decide, by decide, wd_1043, by decide +kernel, fun q => ?_⟩
    refine G.less (B' := (0, 0)) (by decide) (by decide) ?_
    refine g_astore_n (lv' := [(3, .ref q), (0, .ref l0), (1, .int l1), (2, .ref l2)]) dL_down_12 rfl (by decide) rfl ?_
    refine g_iconst (v := 1) dL_down_13 (by decide) ?_
    exact g_iret rfl dL_down_14 ⟨rfl, rfl⟩
  · refine g_callVT (ci := 10) (As := [.int l1]) mv_L_48 dL_down_4 rfl ha rfl rfl (Nat.le_of_ble_eq_true rfl) ((ok_X10_down Θ l0 l1 _ _) _ e1) (by decide) (by decide) (by decide) ?_ (fun v ω' n' hv => by cases hv)
    intro E ω' n' hq
    cases hq
    refine ⟨[_], _, _, "java/lang/IllegalStateException", rfl, (fun z hz => by cases List.mem_singleton.mp hz; exact Or.inr ⟨by decide, "java/lang/IndexOutOfBoundsException", wd_1043, by decide⟩), by decide, by decide, wd_1124, by decide +kernel, fun q => ?_⟩
    refine G.less (B' := (0, 0)) (by decide) (by decide) ?_
    refine g_astore_n (lv' := [(3, .ref q), (0, .ref l0), (1, .int l1), (2, .ref l2)]) dL_down_15 rfl (by decide) rfl ?_
    refine g_iconst (v := 2) dL_down_16 (by decide) ?_
    exact g_iret rfl dL_down_17 ⟨rfl, rfl⟩
def W_mend (Θ : GP) (l0 : Nat) (l1 : Int32) (l2 : Nat) (ω : OW) (n : Nat) : Option (Int32 × OW) := cOw ω l0 10 (wrJ Θ l2 "java/lang/IndexOutOfBoundsException"  (F_X10_mend Θ l0 l1 ω n))
theorem okW_mend (Θ : GP) (l0 : Nat) (l1 : Int32) (l2 : Nat) (ω : OW) (n : Nat) (x : Int32) (ω' : OW) (h : W_mend Θ l0 l1 l2 ω n = some (x, ω')) : ConW Θ 8 1 6 yL_mend cL_mend 4 (some .int) [(0, 9, 12, 24)] [.ref l0, .int l1, .ref l2] ω n (qw x ω') := by
  unfold W_mend at h
  obtain ⟨fs, ha, h⟩ := cOw_inv h
  refine ConW.of (by decide +kernel) (Nat.le_of_ble_eq_true rfl) ?_
  show G Θ yL_mend cL_mend 4 (some .int) 8 (tableOf [(0, 9, 12, 24)]) (qw x ω') noX (1, 6) 0 [(0, .ref l0), (1, .int l1), (2, .ref l2)] [] ω n
  refine g_aload_n dL_mend_0 rfl 2 rfl ?_
  refine g_iconst (v := 0) dL_mend_1 (by decide) ?_
  refine g_aload_n dL_mend_2 rfl 0 rfl ?_
  refine g_iload_n dL_mend_3 rfl 1 rfl ?_
  rcases wrJ_inv h with ⟨v1, ω1, n1, len, f, e1, e2, e3, rfl, rfl⟩ | ⟨e1, rfl⟩
  · refine g_callVT (ci := 10) (As := [.int l1]) mv_L_51 dL_mend_4 rfl ha rfl rfl (Nat.le_of_ble_eq_true rfl) ((ok_X10_mend Θ l0 l1 _ _) _ e1) (by decide) (by decide) (by decide) (fun E ω' n' hq => by cases hq) ?_
    intro v ω' n' hv
    cases hv
    refine G.less (B' := (0, 0)) (by decide) (by decide) ?_
    refine g_i2l dL_mend_7 ?_
    refine g_last dL_mend_8 e2 (by unfold vp_in; simp; omega) ?_
    refine g_goto (tgt := 15) dL_mend_9 (by decide) ?_
    refine g_iconst (v := 0) dL_mend_15 (by decide) ?_
    exact g_iret rfl dL_mend_16 ⟨rfl, rfl⟩
  · refine g_callVT (ci := 10) (As := [.int l1]) mv_L_51 dL_mend_4 rfl ha rfl rfl (Nat.le_of_ble_eq_true rfl) ((ok_X10_mend Θ l0 l1 _ _) _ e1) (by decide) (by decide) (by decide) ?_ (fun v ω' n' hv => by cases hv)
    intro E ω' n' hq
    cases hq
    refine ⟨[], _, _, "java/lang/IndexOutOfBoundsException", rfl, (fun z hz => by cases hz), by decide, by decide, wd_1043, by decide +kernel, fun q => ?_⟩
    refine G.less (B' := (0, 0)) (by decide) (by decide) ?_
    refine g_astore_n (lv' := [(3, .ref q), (0, .ref l0), (1, .int l1), (2, .ref l2)]) dL_mend_12 rfl (by decide) rfl ?_
    refine g_iconst (v := 1) dL_mend_13 (by decide) ?_
    exact g_iret rfl dL_mend_14 ⟨rfl, rfl⟩
def W_recall (Θ : GP) (l0 : Nat) (l1 : Int32) (ω : OW) (n : Nat) : Option (Int32 × OW) := cOw ω l0 10 (wrV "java/lang/IndexOutOfBoundsException" "java/lang/IllegalStateException" (F_X10_recall Θ l0 l1 ω n))
theorem okW_recall (Θ : GP) (l0 : Nat) (l1 : Int32) (ω : OW) (n : Nat) (x : Int32) (ω' : OW) (h : W_recall Θ l0 l1 ω n = some (x, ω')) : ConW Θ 8 2 12 yL_recall cL_recall 3 (some .int) [(0, 5, 8, 24), (0, 5, 11, 42)] [.ref l0, .int l1] ω n (qw x ω') := by
  unfold W_recall at h
  obtain ⟨fs, ha, h⟩ := cOw_inv h
  refine ConW.of (by decide +kernel) (Nat.le_of_ble_eq_true rfl) ?_
  show G Θ yL_recall cL_recall 3 (some .int) 8 (tableOf [(0, 5, 8, 24), (0, 5, 11, 42)]) (qw x ω') noX (2, 12) 0 [(0, .ref l0), (1, .int l1)] [] ω n
  refine g_aload_n dL_recall_0 rfl 0 rfl ?_
  refine g_iload_n dL_recall_1 rfl 1 rfl ?_
  rcases wrV_inv h with ⟨n1, e1, rfl⟩ | ⟨e1, rfl⟩ | ⟨e1, rfl⟩
  · refine g_callVT (ci := 10) (As := [.int l1]) mv_L_54 dL_recall_2 rfl ha rfl rfl (Nat.le_of_ble_eq_true rfl) ((ok_X10_recall Θ l0 l1 _ _) _ e1) (by decide) (by decide) (by decide) (fun E ω' n' hq => by cases hq) ?_
    intro v ω' n' hv
    cases hv
    refine G.less (B' := (0, 0)) (by decide) (by decide) ?_
    refine g_goto (tgt := 14) dL_recall_5 (by decide) ?_
    refine g_iconst (v := 0) dL_recall_14 (by decide) ?_
    exact g_iret rfl dL_recall_15 ⟨rfl, rfl⟩
  · refine g_callVT (ci := 10) (As := [.int l1]) mv_L_54 dL_recall_2 rfl ha rfl rfl (Nat.le_of_ble_eq_true rfl) ((ok_X10_recall Θ l0 l1 _ _) _ e1) (by decide) (by decide) (by decide) ?_ (fun v ω' n' hv => by cases hv)
    intro E ω' n' hq
    cases hq
    refine ⟨[], _, _, "java/lang/IndexOutOfBoundsException", rfl, (fun z hz => by cases hz), by decide, by decide, wd_1043, by decide +kernel, fun q => ?_⟩
    refine G.less (B' := (0, 0)) (by decide) (by decide) ?_
    refine g_astore_n (lv' := [(2, .ref q), (0, .ref l0), (1, .int l1)]) dL_recall_8 rfl (by decide) rfl ?_
    refine g_iconst (v := 1) dL_recall_9 (by decide) ?_
    exact g_iret rfl dL_recall_10 ⟨rfl, rfl⟩
  · refine g_callVT (ci := 10) (As := [.int l1]) mv_L_54 dL_recall_2 rfl ha rfl rfl (Nat.le_of_ble_eq_true rfl) ((ok_X10_recall Θ l0 l1 _ _) _ e1) (by decide) (by decide) (by decide) ?_ (fun v ω' n' hv => by cases hv)
    intro E ω' n' hq
    cases hq
    refine ⟨[_], _, _, "java/lang/IllegalStateException", rfl, (fun z hz => by cases List.mem_singleton.mp hz; exact Or.inr ⟨by decide, "java/lang/IndexOutOfBoundsException", wd_1043, by decide⟩), by decide, by decide, wd_1124, by decide +kernel, fun q => ?_⟩
    refine G.less (B' := (0, 0)) (by decide) (by decide) ?_
    refine g_astore_n (lv' := [(2, .ref q), (0, .ref l0), (1, .int l1)]) dL_recall_11 rfl (by decide) rfl ?_
    refine g_iconst (v := 2) dL_recall_12 (by decide) ?_
    exact g_iret rfl dL_recall_13 ⟨rfl, rfl⟩
def W_inside (Θ : GP) (l0 : Nat) (l1 : Int32) (l2 : Nat) (ω : OW) (n : Nat) : Option (Int32 × OW) := cOw ω l0 10 (wrI Θ l2 "java/lang/IndexOutOfBoundsException" "java/lang/IllegalStateException" (F_X10_inside Θ l0 l1 ω n))
theorem okW_inside (Θ : GP) (l0 : Nat) (l1 : Int32) (l2 : Nat) (ω : OW) (n : Nat) (x : Int32) (ω' : OW) (h : W_inside Θ l0 l1 l2 ω n = some (x, ω')) : ConW Θ 8 2 12 yL_inside cL_inside 4 (some .int) [(0, 9, 12, 24), (0, 9, 15, 42)] [.ref l0, .int l1, .ref l2] ω n (qw x ω') := by
  unfold W_inside at h
  obtain ⟨fs, ha, h⟩ := cOw_inv h
  refine ConW.of (by decide +kernel) (Nat.le_of_ble_eq_true rfl) ?_
  show G Θ yL_inside cL_inside 4 (some .int) 8 (tableOf [(0, 9, 12, 24), (0, 9, 15, 42)]) (qw x ω') noX (2, 12) 0 [(0, .ref l0), (1, .int l1), (2, .ref l2)] [] ω n
  refine g_aload_n dL_inside_0 rfl 2 rfl ?_
  refine g_iconst (v := 0) dL_inside_1 (by decide) ?_
  refine g_aload_n dL_inside_2 rfl 0 rfl ?_
  refine g_iload_n dL_inside_3 rfl 1 rfl ?_
  rcases wrI_inv h with ⟨v1, ω1, n1, len, f, e1, e2, e3, rfl, rfl⟩ | ⟨e1, rfl⟩ | ⟨e1, rfl⟩
  · refine g_callVT (ci := 10) (As := [.int l1]) mv_L_58 dL_inside_4 rfl ha rfl rfl (Nat.le_of_ble_eq_true rfl) ((ok_X10_inside Θ l0 l1 _ _) _ e1) (by decide) (by decide) (by decide) (fun E ω' n' hq => by cases hq) ?_
    intro v ω' n' hv
    cases hv
    refine G.less (B' := (0, 0)) (by decide) (by decide) ?_
    refine g_i2l dL_inside_7 ?_
    refine g_last dL_inside_8 e2 (by unfold vp_in; simp; omega) ?_
    refine g_goto (tgt := 18) dL_inside_9 (by decide) ?_
    refine g_iconst (v := 0) dL_inside_18 (by decide) ?_
    exact g_iret rfl dL_inside_19 ⟨rfl, rfl⟩
  · refine g_callVT (ci := 10) (As := [.int l1]) mv_L_58 dL_inside_4 rfl ha rfl rfl (Nat.le_of_ble_eq_true rfl) ((ok_X10_inside Θ l0 l1 _ _) _ e1) (by decide) (by decide) (by decide) ?_ (fun v ω' n' hv => by cases hv)
    intro E ω' n' hq
    cases hq
    refine ⟨[], _, _, "java/lang/IndexOutOfBoundsException", rfl, (fun z hz => by cases hz), by decide, by decide, wd_1043, by decide +kernel, fun q => ?_⟩
    refine G.less (B' := (0, 0)) (by decide) (by decide) ?_
    refine g_astore_n (lv' := [(3, .ref q), (0, .ref l0), (1, .int l1), (2, .ref l2)]) dL_inside_12 rfl (by decide) rfl ?_
    refine g_iconst (v := 1) dL_inside_13 (by decide) ?_
    exact g_iret rfl dL_inside_14 ⟨rfl, rfl⟩
  · refine g_callVT (ci := 10) (As := [.int l1]) mv_L_58 dL_inside_4 rfl ha rfl rfl (Nat.le_of_ble_eq_true rfl) ((ok_X10_inside Θ l0 l1 _ _) _ e1) (by decide) (by decide) (by decide) ?_ (fun v ω' n' hv => by cases hv)
    intro E ω' n' hq
    cases hq
    refine ⟨[_], _, _, "java/lang/IllegalStateException", rfl, (fun z hz => by cases List.mem_singleton.mp hz; exact Or.inr ⟨by decide, "java/lang/IndexOutOfBoundsException", wd_1043, by decide⟩), by decide, by decide, wd_1124, by decide +kernel, fun q => ?_⟩
    refine G.less (B' := (0, 0)) (by decide) (by decide) ?_
    refine g_astore_n (lv' := [(3, .ref q), (0, .ref l0), (1, .int l1), (2, .ref l2)]) dL_inside_15 rfl (by decide) rfl ?_
    refine g_iconst (v := 2) dL_inside_16 (by decide) ?_
    exact g_iret rfl dL_inside_17 ⟨rfl, rfl⟩
def W_calm (Θ : GP) (l0 : Nat) (l1 : Int32) (l2 : Nat) (ω : OW) (n : Nat) : Option (Int32 × OW) := cOw ω l0 10 (wrJ Θ l2 "java/lang/IllegalArgumentException"  (F_X10_calm Θ l0 l1 ω n))
theorem okW_calm (Θ : GP) (l0 : Nat) (l1 : Int32) (l2 : Nat) (ω : OW) (n : Nat) (x : Int32) (ω' : OW) (h : W_calm Θ l0 l1 l2 ω n = some (x, ω')) : ConW Θ 7 1 6 yL_calm cL_calm 4 (some .int) [(0, 9, 12, 13)] [.ref l0, .int l1, .ref l2] ω n (qw x ω') := by
  unfold W_calm at h
  obtain ⟨fs, ha, h⟩ := cOw_inv h
  refine ConW.of (by decide +kernel) (Nat.le_of_ble_eq_true rfl) ?_
  show G Θ yL_calm cL_calm 4 (some .int) 7 (tableOf [(0, 9, 12, 13)]) (qw x ω') noX (1, 6) 0 [(0, .ref l0), (1, .int l1), (2, .ref l2)] [] ω n
  refine g_aload_n dL_calm_0 rfl 2 rfl ?_
  refine g_iconst (v := 0) dL_calm_1 (by decide) ?_
  refine g_aload_n dL_calm_2 rfl 0 rfl ?_
  refine g_iload_n dL_calm_3 rfl 1 rfl ?_
  rcases wrJ_inv h with ⟨v1, ω1, n1, len, f, e1, e2, e3, rfl, rfl⟩ | ⟨e1, rfl⟩
  · refine g_callVT (ci := 10) (As := [.int l1]) mv_L_61 dL_calm_4 rfl ha rfl rfl (Nat.le_of_ble_eq_true rfl) ((ok_X10_calm Θ l0 l1 _ _) _ e1) (by decide) (by decide) (by decide) (fun E ω' n' hq => by cases hq) ?_
    intro v ω' n' hv
    cases hv
    refine G.less (B' := (0, 0)) (by decide) (by decide) ?_
    refine g_i2l dL_calm_7 ?_
    refine g_last dL_calm_8 e2 (by unfold vp_in; simp; omega) ?_
    refine g_goto (tgt := 15) dL_calm_9 (by decide) ?_
    refine g_iconst (v := 0) dL_calm_15 (by decide) ?_
    exact g_iret rfl dL_calm_16 ⟨rfl, rfl⟩
  · refine g_callVT (ci := 10) (As := [.int l1]) mv_L_61 dL_calm_4 rfl ha rfl rfl (Nat.le_of_ble_eq_true rfl) ((ok_X10_calm Θ l0 l1 _ _) _ e1) (by decide) (by decide) (by decide) ?_ (fun v ω' n' hv => by cases hv)
    intro E ω' n' hq
    cases hq
    refine ⟨[], _, _, "java/lang/IllegalArgumentException", rfl, (fun z hz => by cases hz), by decide, by decide, wd_786, by decide +kernel, fun q => ?_⟩
    refine G.less (B' := (0, 0)) (by decide) (by decide) ?_
    refine g_astore_n (lv' := [(3, .ref q), (0, .ref l0), (1, .int l1), (2, .ref l2)]) dL_calm_12 rfl (by decide) rfl ?_
    refine g_iconst (v := 1) dL_calm_13 (by decide) ?_
    exact g_iret rfl dL_calm_14 ⟨rfl, rfl⟩
def W_mornings (Θ : GP) (l0 : Nat) (l1 : Int32) (l2 : Nat) (ω : OW) (n : Nat) : Option (Int32 × OW) := cOw ω l0 10 (wrJ Θ l2 "java/lang/IllegalArgumentException"  (F_X10_mornings Θ l0 l1 ω n))
theorem okW_mornings (Θ : GP) (l0 : Nat) (l1 : Int32) (l2 : Nat) (ω : OW) (n : Nat) (x : Int32) (ω' : OW) (h : W_mornings Θ l0 l1 l2 ω n = some (x, ω')) : ConW Θ 7 1 6 yL_mornings cL_mornings 4 (some .int) [(0, 9, 12, 13)] [.ref l0, .int l1, .ref l2] ω n (qw x ω') := by
  unfold W_mornings at h
  obtain ⟨fs, ha, h⟩ := cOw_inv h
  refine ConW.of (by decide +kernel) (Nat.le_of_ble_eq_true rfl) ?_
  show G Θ yL_mornings cL_mornings 4 (some .int) 7 (tableOf [(0, 9, 12, 13)]) (qw x ω') noX (1, 6) 0 [(0, .ref l0), (1, .int l1), (2, .ref l2)] [] ω n
  refine g_aload_n dL_mornings_0 rfl 2 rfl ?_
  refine g_iconst (v := 0) dL_mornings_1 (by decide) ?_
  refine g_aload_n dL_mornings_2 rfl 0 rfl ?_
  refine g_iload_n dL_mornings_3 rfl 1 rfl ?_
  rcases wrJ_inv h with ⟨v1, ω1, n1, len, f, e1, e2, e3, rfl, rfl⟩ | ⟨e1, rfl⟩
  · refine g_callVT (ci := 10) (As := [.int l1]) mv_L_64 dL_mornings_4 rfl ha rfl rfl (Nat.le_of_ble_eq_true rfl) ((ok_X10_mornings Θ l0 l1 _ _) _ e1) (by decide) (by decide) (by decide) (fun E ω' n' hq => by cases hq) ?_
    intro v ω' n' hv
    cases hv
    refine G.less (B' := (0, 0)) (by decide) (by decide) ?_
    refine g_i2l dL_mornings_7 ?_
    refine g_last dL_mornings_8 e2 (by unfold vp_in; simp; omega) ?_
    refine g_goto (tgt := 15) dL_mornings_9 (by decide) ?_
    refine g_iconst (v := 0) dL_mornings_15 (by decide) ?_
    exact g_iret rfl dL_mornings_16 ⟨rfl, rfl⟩
  · refine g_callVT (ci := 10) (As := [.int l1]) mv_L_64 dL_mornings_4 rfl ha rfl rfl (Nat.le_of_ble_eq_true rfl) ((ok_X10_mornings Θ l0 l1 _ _) _ e1) (by decide) (by decide) (by decide) ?_ (fun v ω' n' hv => by cases hv)
    intro E ω' n' hq
    cases hq
    refine ⟨[], _, _, "java/lang/IllegalArgumentException", rfl, (fun z hz => by cases hz), by decide, by decide, wd_786, by decide +kernel, fun q => ?_⟩
    refine G.less (B' := (0, 0)) (by decide) (by decide) ?_
    refine g_astore_n (lv' := [(3, .ref q), (0, .ref l0), (1, .int l1), (2, .ref l2)]) dL_mornings_12 rfl (by decide) rfl ?_
    refine g_iconst (v := 1) dL_mornings_13 (by decide) ?_
    exact g_iret rfl dL_mornings_14 ⟨rfl, rfl⟩
def W_straight (Θ : GP) (l0 : Nat) (l1 : Int32) (l2 : Nat) (ω : OW) (n : Nat) : Option (Int32 × OW) := cOw ω l0 10 (wrJ Θ l2 "java/lang/IndexOutOfBoundsException"  (F_X10_straight Θ l0 l1 ω n))
theorem okW_straight (Θ : GP) (l0 : Nat) (l1 : Int32) (l2 : Nat) (ω : OW) (n : Nat) (x : Int32) (ω' : OW) (h : W_straight Θ l0 l1 l2 ω n = some (x, ω')) : ConW Θ 8 1 6 yL_straight cL_straight 4 (some .int) [(0, 9, 12, 24)] [.ref l0, .int l1, .ref l2] ω n (qw x ω') := by
  unfold W_straight at h
  obtain ⟨fs, ha, h⟩ := cOw_inv h
  refine ConW.of (by decide +kernel) (Nat.le_of_ble_eq_true rfl) ?_
  show G Θ yL_straight cL_straight 4 (some .int) 8 (tableOf [(0, 9, 12, 24)]) (qw x ω') noX (1, 6) 0 [(0, .ref l0), (1, .int l1), (2, .ref l2)] [] ω n
  refine g_aload_n dL_straight_0 rfl 2 rfl ?_
  refine g_iconst (v := 0) dL_straight_1 (by decide) ?_
  refine g_aload_n dL_straight_2 rfl 0 rfl ?_
  refine g_iload_n dL_straight_3 rfl 1 rfl ?_
  rcases wrJ_inv h with ⟨v1, ω1, n1, len, f, e1, e2, e3, rfl, rfl⟩ | ⟨e1, rfl⟩
  · refine g_callVT (ci := 10) (As := [.int l1]) mv_L_67 dL_straight_4 rfl ha rfl rfl (Nat.le_of_ble_eq_true rfl) ((ok_X10_straight Θ l0 l1 _ _) _ e1) (by decide) (by decide) (by decide) (fun E ω' n' hq => by cases hq) ?_
    intro v ω' n' hv
    cases hv
    refine G.less (B' := (0, 0)) (by decide) (by decide) ?_
    refine g_i2l dL_straight_7 ?_
    refine g_last dL_straight_8 e2 (by unfold vp_in; simp; omega) ?_
    refine g_goto (tgt := 15) dL_straight_9 (by decide) ?_
    refine g_iconst (v := 0) dL_straight_15 (by decide) ?_
    exact g_iret rfl dL_straight_16 ⟨rfl, rfl⟩
  · refine g_callVT (ci := 10) (As := [.int l1]) mv_L_67 dL_straight_4 rfl ha rfl rfl (Nat.le_of_ble_eq_true rfl) ((ok_X10_straight Θ l0 l1 _ _) _ e1) (by decide) (by decide) (by decide) ?_ (fun v ω' n' hv => by cases hv)
    intro E ω' n' hq
    cases hq
    refine ⟨[], _, _, "java/lang/IndexOutOfBoundsException", rfl, (fun z hz => by cases hz), by decide, by decide, wd_1043, by decide +kernel, fun q => ?_⟩
    refine G.less (B' := (0, 0)) (by decide) (by decide) ?_
    refine g_astore_n (lv' := [(3, .ref q), (0, .ref l0), (1, .int l1), (2, .ref l2)]) dL_straight_12 rfl (by decide) rfl ?_
    refine g_iconst (v := 1) dL_straight_13 (by decide) ?_
    exact g_iret rfl dL_straight_14 ⟨rfl, rfl⟩
def W_tense (Θ : GP) (l0 : Nat) (l1 : Int32) (l2 : Int32) (l3 : Nat) (ω : OW) (n : Nat) : Option (Int32 × OW) := cOw ω l0 10 (wrJ Θ l3 "java/lang/IndexOutOfBoundsException"  (F_X10_tense Θ l0 l1 l2 ω n))
theorem okW_tense (Θ : GP) (l0 : Nat) (l1 : Int32) (l2 : Int32) (l3 : Nat) (ω : OW) (n : Nat) (x : Int32) (ω' : OW) (h : W_tense Θ l0 l1 l2 l3 ω n = some (x, ω')) : ConW Θ 8 2 12 yL_tense cL_tense 5 (some .int) [(0, 10, 13, 24)] [.ref l0, .int l1, .int l2, .ref l3] ω n (qw x ω') := by
  unfold W_tense at h
  obtain ⟨fs, ha, h⟩ := cOw_inv h
  refine ConW.of (by decide +kernel) (Nat.le_of_ble_eq_true rfl) ?_
  show G Θ yL_tense cL_tense 5 (some .int) 8 (tableOf [(0, 10, 13, 24)]) (qw x ω') noX (2, 12) 0 [(0, .ref l0), (1, .int l1), (2, .int l2), (3, .ref l3)] [] ω n
  refine g_aload_n dL_tense_0 rfl 3 rfl ?_
  refine g_iconst (v := 0) dL_tense_1 (by decide) ?_
  refine g_aload_n dL_tense_2 rfl 0 rfl ?_
  refine g_iload_n dL_tense_3 rfl 1 rfl ?_
  refine g_iload_n dL_tense_4 rfl 2 rfl ?_
  rcases wrJ_inv h with ⟨v1, ω1, n1, len, f, e1, e2, e3, rfl, rfl⟩ | ⟨e1, rfl⟩
  · refine g_callVT (ci := 10) (As := [.int l1, .int l2]) mv_L_70 dL_tense_5 rfl ha rfl rfl (Nat.le_of_ble_eq_true rfl) ((ok_X10_tense Θ l0 l1 l2 _ _) _ e1) (by decide) (by decide) (by decide) (fun E ω' n' hq => by cases hq) ?_
    intro v ω' n' hv
    cases hv
    refine G.less (B' := (0, 0)) (by decide) (by decide) ?_
    refine g_i2l dL_tense_8 ?_
    refine g_last dL_tense_9 e2 (by unfold vp_in; simp; omega) ?_
    refine g_goto (tgt := 17) dL_tense_10 (by decide) ?_
    refine g_iconst (v := 0) dL_tense_17 (by decide) ?_
    exact g_iret rfl dL_tense_18 ⟨rfl, rfl⟩
  · refine g_callVT (ci := 10) (As := [.int l1, .int l2]) mv_L_70 dL_tense_5 rfl ha rfl rfl (Nat.le_of_ble_eq_true rfl) ((ok_X10_tense Θ l0 l1 l2 _ _) _ e1) (by decide) (by decide) (by decide) ?_ (fun v ω' n' hv => by cases hv)
    intro E ω' n' hq
    cases hq
    refine ⟨[], _, _, "java/lang/IndexOutOfBoundsException", rfl, (fun z hz => by cases hz), by decide, by decide, wd_1043, by decide +kernel, fun q => ?_⟩
    refine G.less (B' := (0, 0)) (by decide) (by decide) ?_
    refine g_astore (lv' := [(4, .ref q), (0, .ref l0), (1, .int l1), (2, .int l2), (3, .ref l3)]) dL_tense_13 (by decide) rfl ?_
    refine g_iconst (v := 1) dL_tense_15 (by decide) ?_
    exact g_iret rfl dL_tense_16 ⟨rfl, rfl⟩
def W_ways (Θ : GP) (l0 : Nat) (l1 : Int32) (l2 : Nat) (ω : OW) (n : Nat) : Option (Int32 × OW) := cOw ω l0 10 (wrJ Θ l2 "java/lang/IndexOutOfBoundsException"  (F_X10_ways Θ l0 l1 ω n))
theorem okW_ways (Θ : GP) (l0 : Nat) (l1 : Int32) (l2 : Nat) (ω : OW) (n : Nat) (x : Int32) (ω' : OW) (h : W_ways Θ l0 l1 l2 ω n = some (x, ω')) : ConW Θ 8 1 6 yL_ways cL_ways 4 (some .int) [(0, 9, 12, 24)] [.ref l0, .int l1, .ref l2] ω n (qw x ω') := by
  unfold W_ways at h
  obtain ⟨fs, ha, h⟩ := cOw_inv h
  refine ConW.of (by decide +kernel) (Nat.le_of_ble_eq_true rfl) ?_
  show G Θ yL_ways cL_ways 4 (some .int) 8 (tableOf [(0, 9, 12, 24)]) (qw x ω') noX (1, 6) 0 [(0, .ref l0), (1, .int l1), (2, .ref l2)] [] ω n
  refine g_aload_n dL_ways_0 rfl 2 rfl ?_
  refine g_iconst (v := 0) dL_ways_1 (by decide) ?_
  refine g_aload_n dL_ways_2 rfl 0 rfl ?_
  refine g_iload_n dL_ways_3 rfl 1 rfl ?_
  rcases wrJ_inv h with ⟨v1, ω1, n1, len, f, e1, e2, e3, rfl, rfl⟩ | ⟨e1, rfl⟩
  · refine g_callVT (ci := 10) (As := [.int l1]) mv_L_73 dL_ways_4 rfl ha rfl rfl (Nat.le_of_ble_eq_true rfl) ((ok_X10_ways Θ l0 l1 _ _) _ e1) (by decide) (by decide) (by decide) (fun E ω' n' hq => by cases hq) ?_
    intro v ω' n' hv
    cases hv
    refine G.less (B' := (0, 0)) (by decide) (by decide) ?_
    refine g_i2l dL_ways_7 ?_
    refine g_last dL_ways_8 e2 (by unfold vp_in; simp; omega) ?_
    refine g_goto (tgt := 15) dL_ways_9 (by decide) ?_
    refine g_iconst (v := 0) dL_ways_15 (by decide) ?_
    exact g_iret rfl dL_ways_16 ⟨rfl, rfl⟩
  · refine g_callVT (ci := 10) (As := [.int l1]) mv_L_73 dL_ways_4 rfl ha rfl rfl (Nat.le_of_ble_eq_true rfl) ((ok_X10_ways Θ l0 l1 _ _) _ e1) (by decide) (by decide) (by decide) ?_ (fun v ω' n' hv => by cases hv)
    intro E ω' n' hq
    cases hq
    refine ⟨[], _, _, "java/lang/IndexOutOfBoundsException", rfl, (fun z hz => by cases hz), by decide, by decide, wd_1043, by decide +kernel, fun q => ?_⟩
    refine G.less (B' := (0, 0)) (by decide) (by decide) ?_
    refine g_astore_n (lv' := [(3, .ref q), (0, .ref l0), (1, .int l1), (2, .ref l2)]) dL_ways_12 rfl (by decide) rfl ?_
    refine g_iconst (v := 1) dL_ways_13 (by decide) ?_
    exact g_iret rfl dL_ways_14 ⟨rfl, rfl⟩
def W_at (Θ : GP) (l0 : Nat) (l1 : Int32) (l2 : Int32) (l3 : Nat) (ω : OW) (n : Nat) : Option (Int32 × OW) := cOw ω l0 10 (wrJ Θ l3 "java/lang/IndexOutOfBoundsException"  (F_X10_at Θ l0 l1 l2 ω n))
theorem okW_at (Θ : GP) (l0 : Nat) (l1 : Int32) (l2 : Int32) (l3 : Nat) (ω : OW) (n : Nat) (x : Int32) (ω' : OW) (h : W_at Θ l0 l1 l2 l3 ω n = some (x, ω')) : ConW Θ 8 2 12 yL_at cL_at 5 (some .int) [(0, 10, 13, 24)] [.ref l0, .int l1, .int l2, .ref l3] ω n (qw x ω') := by
  unfold W_at at h
  obtain ⟨fs, ha, h⟩ := cOw_inv h
  refine ConW.of (by decide +kernel) (Nat.le_of_ble_eq_true rfl) ?_
  show G Θ yL_at cL_at 5 (some .int) 8 (tableOf [(0, 10, 13, 24)]) (qw x ω') noX (2, 12) 0 [(0, .ref l0), (1, .int l1), (2, .int l2), (3, .ref l3)] [] ω n
  refine g_aload_n dL_at_0 rfl 3 rfl ?_
  refine g_iconst (v := 0) dL_at_1 (by decide) ?_
  refine g_aload_n dL_at_2 rfl 0 rfl ?_
  refine g_iload_n dL_at_3 rfl 1 rfl ?_
  refine g_iload_n dL_at_4 rfl 2 rfl ?_
  rcases wrJ_inv h with ⟨v1, ω1, n1, len, f, e1, e2, e3, rfl, rfl⟩ | ⟨e1, rfl⟩
  · refine g_callVT (ci := 10) (As := [.int l1, .int l2]) mv_L_76 dL_at_5 rfl ha rfl rfl (Nat.le_of_ble_eq_true rfl) ((ok_X10_at Θ l0 l1 l2 _ _) _ e1) (by decide) (by decide) (by decide) (fun E ω' n' hq => by cases hq) ?_
    intro v ω' n' hv
    cases hv
    refine G.less (B' := (0, 0)) (by decide) (by decide) ?_
    refine g_i2l dL_at_8 ?_
    refine g_last dL_at_9 e2 (by unfold vp_in; simp; omega) ?_
    refine g_goto (tgt := 17) dL_at_10 (by decide) ?_
    refine g_iconst (v := 0) dL_at_17 (by decide) ?_
    exact g_iret rfl dL_at_18 ⟨rfl, rfl⟩
  · refine g_callVT (ci := 10) (As := [.int l1, .int l2]) mv_L_76 dL_at_5 rfl ha rfl rfl (Nat.le_of_ble_eq_true rfl) ((ok_X10_at Θ l0 l1 l2 _ _) _ e1) (by decide) (by decide) (by decide) ?_ (fun v ω' n' hv => by cases hv)
    intro E ω' n' hq
    cases hq
    refine ⟨[], _, _, "java/lang/IndexOutOfBoundsException", rfl, (fun z hz => by cases hz), by decide, by decide, wd_1043, by decide +kernel, fun q => ?_⟩
    refine G.less (B' := (0, 0)) (by decide) (by decide) ?_
    refine g_astore (lv' := [(4, .ref q), (0, .ref l0), (1, .int l1), (2, .int l2), (3, .ref l3)]) dL_at_13 (by decide) rfl ?_
    refine g_iconst (v := 1) dL_at_15 (by decide) ?_
    exact g_iret rfl dL_at_16 ⟨rfl, rfl⟩
def W_odds (Θ : GP) (l0 : Nat) (l1 : Int32) (l2 : Nat) (ω : OW) (n : Nat) : Option (Int32 × OW) := cOw ω l0 10 (wrJ Θ l2 "java/lang/IndexOutOfBoundsException"  (F_X10_odds Θ l0 l1 ω n))
theorem okW_odds (Θ : GP) (l0 : Nat) (l1 : Int32) (l2 : Nat) (ω : OW) (n : Nat) (x : Int32) (ω' : OW) (h : W_odds Θ l0 l1 l2 ω n = some (x, ω')) : ConW Θ 8 1 6 yL_odds cL_odds 4 (some .int) [(0, 9, 12, 24)] [.ref l0, .int l1, .ref l2] ω n (qw x ω') := by
  unfold W_odds at h
  obtain ⟨fs, ha, h⟩ := cOw_inv h
  refine ConW.of (by decide +kernel) (Nat.le_of_ble_eq_true rfl) ?_
  show G Θ yL_odds cL_odds 4 (some .int) 8 (tableOf [(0, 9, 12, 24)]) (qw x ω') noX (1, 6) 0 [(0, .ref l0), (1, .int l1), (2, .ref l2)] [] ω n
  refine g_aload_n dL_odds_0 rfl 2 rfl ?_
  refine g_iconst (v := 0) dL_odds_1 (by decide) ?_
  refine g_aload_n dL_odds_2 rfl 0 rfl ?_
  refine g_iload_n dL_odds_3 rfl 1 rfl ?_
  rcases wrJ_inv h with ⟨v1, ω1, n1, len, f, e1, e2, e3, rfl, rfl⟩ | ⟨e1, rfl⟩
  · refine g_callVT (ci := 10) (As := [.int l1]) mv_L_79 dL_odds_4 rfl ha rfl rfl (Nat.le_of_ble_eq_true rfl) ((ok_X10_odds Θ l0 l1 _ _) _ e1) (by decide) (by decide) (by decide) (fun E ω' n' hq => by cases hq) ?_
    intro v ω' n' hv
    cases hv
    refine G.less (B' := (0, 0)) (by decide) (by decide) ?_
    refine g_i2l dL_odds_7 ?_
    refine g_last dL_odds_8 e2 (by unfold vp_in; simp; omega) ?_
    refine g_goto (tgt := 15) dL_odds_9 (by decide) ?_
    refine g_iconst (v := 0) dL_odds_15 (by decide) ?_
    exact g_iret rfl dL_odds_16 ⟨rfl, rfl⟩
  · refine g_callVT (ci := 10) (As := [.int l1]) mv_L_79 dL_odds_4 rfl ha rfl rfl (Nat.le_of_ble_eq_true rfl) ((ok_X10_odds Θ l0 l1 _ _) _ e1) (by decide) (by decide) (by decide) ?_ (fun v ω' n' hv => by cases hv)
    intro E ω' n' hq
    cases hq
    refine ⟨[], _, _, "java/lang/IndexOutOfBoundsException", rfl, (fun z hz => by cases hz), by decide, by decide, wd_1043, by decide +kernel, fun q => ?_⟩
    refine G.less (B' := (0, 0)) (by decide) (by decide) ?_
    refine g_astore_n (lv' := [(3, .ref q), (0, .ref l0), (1, .int l1), (2, .ref l2)]) dL_odds_12 rfl (by decide) rfl ?_
    refine g_iconst (v := 1) dL_odds_13 (by decide) ?_
    exact g_iret rfl dL_odds_14 ⟨rfl, rfl⟩
def W_found (Θ : GP) (l0 : Nat) (l1 : Int32) (l2 : Int32) (l3 : Nat) (ω : OW) (n : Nat) : Option (Int32 × OW) := cOw ω l0 10 (wrJ Θ l3 "java/lang/IllegalArgumentException"  (F_X10_found Θ l0 l1 l2 ω n))
theorem okW_found (Θ : GP) (l0 : Nat) (l1 : Int32) (l2 : Int32) (l3 : Nat) (ω : OW) (n : Nat) (x : Int32) (ω' : OW) (h : W_found Θ l0 l1 l2 l3 ω n = some (x, ω')) : ConW Θ 9 1 6 yL_found cL_found 5 (some .int) [(0, 10, 13, 13)] [.ref l0, .int l1, .int l2, .ref l3] ω n (qw x ω') := by
  unfold W_found at h
  obtain ⟨fs, ha, h⟩ := cOw_inv h
  refine ConW.of (by decide +kernel) (Nat.le_of_ble_eq_true rfl) ?_
  show G Θ yL_found cL_found 5 (some .int) 9 (tableOf [(0, 10, 13, 13)]) (qw x ω') noX (1, 6) 0 [(0, .ref l0), (1, .int l1), (2, .int l2), (3, .ref l3)] [] ω n
  refine g_aload_n dL_found_0 rfl 3 rfl ?_
  refine g_iconst (v := 0) dL_found_1 (by decide) ?_
  refine g_aload_n dL_found_2 rfl 0 rfl ?_
  refine g_iload_n dL_found_3 rfl 1 rfl ?_
  refine g_iload_n dL_found_4 rfl 2 rfl ?_
  rcases wrJ_inv h with ⟨v1, ω1, n1, len, f, e1, e2, e3, rfl, rfl⟩ | ⟨e1, rfl⟩
  · refine g_callVT (ci := 10) (As := [.int l1, .int l2]) mv_L_82 dL_found_5 rfl ha rfl rfl (Nat.le_of_ble_eq_true rfl) ((ok_X10_found Θ l0 l1 l2 _ _) _ e1) (by decide) (by decide) (by decide) (fun E ω' n' hq => by cases hq) ?_
    intro v ω' n' hv
    cases hv
    refine G.less (B' := (0, 0)) (by decide) (by decide) ?_
    refine g_i2l dL_found_8 ?_
    refine g_last dL_found_9 e2 (by unfold vp_in; simp; omega) ?_
    refine g_goto (tgt := 17) dL_found_10 (by decide) ?_
    refine g_iconst (v := 0) dL_found_17 (by decide) ?_
    exact g_iret rfl dL_found_18 ⟨rfl, rfl⟩
  · refine g_callVT (ci := 10) (As := [.int l1, .int l2]) mv_L_82 dL_found_5 rfl ha rfl rfl (Nat.le_of_ble_eq_true rfl) ((ok_X10_found Θ l0 l1 l2 _ _) _ e1) (by decide) (by decide) (by decide) ?_ (fun v ω' n' hv => by cases hv)
    intro E ω' n' hq
    cases hq
    refine ⟨[], _, _, "java/lang/IllegalArgumentException", rfl, (fun z hz => by cases hz), by decide, by decide, wd_786, by decide +kernel, fun q => ?_⟩
    refine G.less (B' := (0, 0)) (by decide) (by decide) ?_
    refine g_astore (lv' := [(4, .ref q), (0, .ref l0), (1, .int l1), (2, .int l2), (3, .ref l3)]) dL_found_13 (by decide) rfl ?_
    refine g_iconst (v := 1) dL_found_15 (by decide) ?_
    exact g_iret rfl dL_found_16 ⟨rfl, rfl⟩
def W_ask (Θ : GP) (l0 : Nat) (l1 : Int32) (l2 : Nat) (ω : OW) (n : Nat) : Option (Int32 × OW) := cOw ω l0 10 (wrJ Θ l2 "java/lang/IllegalArgumentException"  (F_X10_ask Θ l0 l1 ω n))
theorem okW_ask (Θ : GP) (l0 : Nat) (l1 : Int32) (l2 : Nat) (ω : OW) (n : Nat) (x : Int32) (ω' : OW) (h : W_ask Θ l0 l1 l2 ω n = some (x, ω')) : ConW Θ 9 1 6 yL_ask cL_ask 4 (some .int) [(0, 9, 12, 13)] [.ref l0, .int l1, .ref l2] ω n (qw x ω') := by
  unfold W_ask at h
  obtain ⟨fs, ha, h⟩ := cOw_inv h
  refine ConW.of (by decide +kernel) (Nat.le_of_ble_eq_true rfl) ?_
  show G Θ yL_ask cL_ask 4 (some .int) 9 (tableOf [(0, 9, 12, 13)]) (qw x ω') noX (1, 6) 0 [(0, .ref l0), (1, .int l1), (2, .ref l2)] [] ω n
  refine g_aload_n dL_ask_0 rfl 2 rfl ?_
  refine g_iconst (v := 0) dL_ask_1 (by decide) ?_
  refine g_aload_n dL_ask_2 rfl 0 rfl ?_
  refine g_iload_n dL_ask_3 rfl 1 rfl ?_
  rcases wrJ_inv h with ⟨v1, ω1, n1, len, f, e1, e2, e3, rfl, rfl⟩ | ⟨e1, rfl⟩
  · refine g_callVT (ci := 10) (As := [.int l1]) mv_L_86 dL_ask_4 rfl ha rfl rfl (Nat.le_of_ble_eq_true rfl) ((ok_X10_ask Θ l0 l1 _ _) _ e1) (by decide) (by decide) (by decide) (fun E ω' n' hq => by cases hq) ?_
    intro v ω' n' hv
    cases hv
    refine G.less (B' := (0, 0)) (by decide) (by decide) ?_
    refine g_i2l dL_ask_7 ?_
    refine g_last dL_ask_8 e2 (by unfold vp_in; simp; omega) ?_
    refine g_goto (tgt := 15) dL_ask_9 (by decide) ?_
    refine g_iconst (v := 0) dL_ask_15 (by decide) ?_
    exact g_iret rfl dL_ask_16 ⟨rfl, rfl⟩
  · refine g_callVT (ci := 10) (As := [.int l1]) mv_L_86 dL_ask_4 rfl ha rfl rfl (Nat.le_of_ble_eq_true rfl) ((ok_X10_ask Θ l0 l1 _ _) _ e1) (by decide) (by decide) (by decide) ?_ (fun v ω' n' hv => by cases hv)
    intro E ω' n' hq
    cases hq
    refine ⟨[], _, _, "java/lang/IllegalArgumentException", rfl, (fun z hz => by cases hz), by decide, by decide, wd_786, by decide +kernel, fun q => ?_⟩
    refine G.less (B' := (0, 0)) (by decide) (by decide) ?_
    refine g_astore_n (lv' := [(3, .ref q), (0, .ref l0), (1, .int l1), (2, .ref l2)]) dL_ask_12 rfl (by decide) rfl ?_
    refine g_iconst (v := 1) dL_ask_13 (by decide) ?_
    exact g_iret rfl dL_ask_14 ⟨rfl, rfl⟩
def W_car (Θ : GP) (l0 : Nat) (l1 : Int32) (l2 : Int32) (l3 : Nat) (ω : OW) (n : Nat) : Option (Int32 × OW) := cOw ω l0 10 (wrI Θ l3 "java/lang/IndexOutOfBoundsException" "java/lang/IllegalArgumentException" (F_X10_car Θ l0 l1 l2 ω n))
theorem okW_car (Θ : GP) (l0 : Nat) (l1 : Int32) (l2 : Int32) (l3 : Nat) (ω : OW) (n : Nat) (x : Int32) (ω' : OW) (h : W_car Θ l0 l1 l2 l3 ω n = some (x, ω')) : ConW Θ 8 3 18 yL_car cL_car 5 (some .int) [(0, 10, 13, 24), (0, 10, 17, 13)] [.ref l0, .int l1, .int l2, .ref l3] ω n (qw x ω') := by
  unfold W_car at h
  obtain ⟨fs, ha, h⟩ := cOw_inv h
  refine ConW.of (by decide +kernel) (Nat.le_of_ble_eq_true rfl) ?_
  show G Θ yL_car cL_car 5 (some .int) 8 (tableOf [(0, 10, 13, 24), (0, 10, 17, 13)]) (qw x ω') noX (3, 18) 0 [(0, .ref l0), (1, .int l1), (2, .int l2), (3, .ref l3)] [] ω n
  refine g_aload_n dL_car_0 rfl 3 rfl ?_
  refine g_iconst (v := 0) dL_car_1 (by decide) ?_
  refine g_aload_n dL_car_2 rfl 0 rfl ?_
  refine g_iload_n dL_car_3 rfl 1 rfl ?_
  refine g_iload_n dL_car_4 rfl 2 rfl ?_
  rcases wrI_inv h with ⟨v1, ω1, n1, len, f, e1, e2, e3, rfl, rfl⟩ | ⟨e1, rfl⟩ | ⟨e1, rfl⟩
  · refine g_callVT (ci := 10) (As := [.int l1, .int l2]) mv_L_89 dL_car_5 rfl ha rfl rfl (Nat.le_of_ble_eq_true rfl) ((ok_X10_car Θ l0 l1 l2 _ _) _ e1) (by decide) (by decide) (by decide) (fun E ω' n' hq => by cases hq) ?_
    intro v ω' n' hv
    cases hv
    refine G.less (B' := (0, 0)) (by decide) (by decide) ?_
    refine g_i2l dL_car_8 ?_
    refine g_last dL_car_9 e2 (by unfold vp_in; simp; omega) ?_
    refine g_goto (tgt := 21) dL_car_10 (by decide) ?_
    refine g_iconst (v := 0) dL_car_21 (by decide) ?_
    exact g_iret rfl dL_car_22 ⟨rfl, rfl⟩
  · refine g_callVT (ci := 10) (As := [.int l1, .int l2]) mv_L_89 dL_car_5 rfl ha rfl rfl (Nat.le_of_ble_eq_true rfl) ((ok_X10_car Θ l0 l1 l2 _ _) _ e1) (by decide) (by decide) (by decide) ?_ (fun v ω' n' hv => by cases hv)
    intro E ω' n' hq
    cases hq
    refine ⟨[], _, _, "java/lang/IndexOutOfBoundsException", rfl, (fun z hz => by cases hz), by decide, by decide, wd_1043, by decide +kernel, fun q => ?_⟩
    refine G.less (B' := (0, 0)) (by decide) (by decide) ?_
    refine g_astore (lv' := [(4, .ref q), (0, .ref l0), (1, .int l1), (2, .int l2), (3, .ref l3)]) dL_car_13 (by decide) rfl ?_
    refine g_iconst (v := 1) dL_car_15 (by decide) ?_
    exact g_iret rfl dL_car_16 ⟨rfl, rfl⟩
  · refine g_callVT (ci := 10) (As := [.int l1, .int l2]) mv_L_89 dL_car_5 rfl ha rfl rfl (Nat.le_of_ble_eq_true rfl) ((ok_X10_car Θ l0 l1 l2 _ _) _ e1) (by decide) (by decide) (by decide) ?_ (fun v ω' n' hv => by cases hv)
    intro E ω' n' hq
    cases hq
    refine ⟨[_], _, _, "java/lang/IllegalArgumentException", rfl, (fun z hz => by cases List.mem_singleton.mp hz; exact Or.inr ⟨by decide, "java/lang/IndexOutOfBoundsException", wd_1043, by decide⟩), by decide, by decide, wd_786, by decide +kernel, fun q => ?_⟩
    refine G.less (B' := (0, 0)) (by decide) (by decide) ?_
    refine g_astore (lv' := [(4, .ref q), (0, .ref l0), (1, .int l1), (2, .int l2), (3, .ref l3)]) dL_car_17 (by decide) rfl ?_
    refine g_iconst (v := 2) dL_car_19 (by decide) ?_
    exact g_iret rfl dL_car_20 ⟨rfl, rfl⟩
def W_corners (Θ : GP) (l0 : Nat) (l1 : Int32) (l2 : Nat) (ω : OW) (n : Nat) : Option (Int32 × OW) := cOw ω l0 10 (wrJ Θ l2 "java/lang/IndexOutOfBoundsException"  (F_X10_corners Θ l0 l1 ω n))
theorem okW_corners (Θ : GP) (l0 : Nat) (l1 : Int32) (l2 : Nat) (ω : OW) (n : Nat) (x : Int32) (ω' : OW) (h : W_corners Θ l0 l1 l2 ω n = some (x, ω')) : ConW Θ 8 1 6 yL_corners cL_corners 4 (some .int) [(0, 9, 12, 24)] [.ref l0, .int l1, .ref l2] ω n (qw x ω') := by
  unfold W_corners at h
  obtain ⟨fs, ha, h⟩ := cOw_inv h
  refine ConW.of (by decide +kernel) (Nat.le_of_ble_eq_true rfl) ?_
  show G Θ yL_corners cL_corners 4 (some .int) 8 (tableOf [(0, 9, 12, 24)]) (qw x ω') noX (1, 6) 0 [(0, .ref l0), (1, .int l1), (2, .ref l2)] [] ω n
  refine g_aload_n dL_corners_0 rfl 2 rfl ?_
  refine g_iconst (v := 0) dL_corners_1 (by decide) ?_
  refine g_aload_n dL_corners_2 rfl 0 rfl ?_
  refine g_iload_n dL_corners_3 rfl 1 rfl ?_
  rcases wrJ_inv h with ⟨v1, ω1, n1, len, f, e1, e2, e3, rfl, rfl⟩ | ⟨e1, rfl⟩
  · refine g_callVT (ci := 10) (As := [.int l1]) mv_L_92 dL_corners_4 rfl ha rfl rfl (Nat.le_of_ble_eq_true rfl) ((ok_X10_corners Θ l0 l1 _ _) _ e1) (by decide) (by decide) (by decide) (fun E ω' n' hq => by cases hq) ?_
    intro v ω' n' hv
    cases hv
    refine G.less (B' := (0, 0)) (by decide) (by decide) ?_
    refine g_i2l dL_corners_7 ?_
    refine g_last dL_corners_8 e2 (by unfold vp_in; simp; omega) ?_
    refine g_goto (tgt := 15) dL_corners_9 (by decide) ?_
    refine g_iconst (v := 0) dL_corners_15 (by decide) ?_
    exact g_iret rfl dL_corners_16 ⟨rfl, rfl⟩
  · refine g_callVT (ci := 10) (As := [.int l1]) mv_L_92 dL_corners_4 rfl ha rfl rfl (Nat.le_of_ble_eq_true rfl) ((ok_X10_corners Θ l0 l1 _ _) _ e1) (by decide) (by decide) (by decide) ?_ (fun v ω' n' hv => by cases hv)
    intro E ω' n' hq
    cases hq
    refine ⟨[], _, _, "java/lang/IndexOutOfBoundsException", rfl, (fun z hz => by cases hz), by decide, by decide, wd_1043, by decide +kernel, fun q => ?_⟩
    refine G.less (B' := (0, 0)) (by decide) (by decide) ?_
    refine g_astore_n (lv' := [(3, .ref q), (0, .ref l0), (1, .int l1), (2, .ref l2)]) dL_corners_12 rfl (by decide) rfl ?_
    refine g_iconst (v := 1) dL_corners_13 (by decide) ?_
    exact g_iret rfl dL_corners_14 ⟨rfl, rfl⟩
def W_usher (Θ : GP) (l0 : Nat) (l1 : Int32) (l2 : Nat) (ω : OW) (n : Nat) : Option (Int32 × OW) := cOw ω l0 10 (wrJ Θ l2 "java/lang/IndexOutOfBoundsException"  (F_X10_usher Θ l0 l1 ω n))
theorem okW_usher (Θ : GP) (l0 : Nat) (l1 : Int32) (l2 : Nat) (ω : OW) (n : Nat) (x : Int32) (ω' : OW) (h : W_usher Θ l0 l1 l2 ω n = some (x, ω')) : ConW Θ 8 1 6 yL_usher cL_usher 4 (some .int) [(0, 9, 12, 24)] [.ref l0, .int l1, .ref l2] ω n (qw x ω') := by
  unfold W_usher at h
  obtain ⟨fs, ha, h⟩ := cOw_inv h
  refine ConW.of (by decide +kernel) (Nat.le_of_ble_eq_true rfl) ?_
  show G Θ yL_usher cL_usher 4 (some .int) 8 (tableOf [(0, 9, 12, 24)]) (qw x ω') noX (1, 6) 0 [(0, .ref l0), (1, .int l1), (2, .ref l2)] [] ω n
  refine g_aload_n dL_usher_0 rfl 2 rfl ?_
  refine g_iconst (v := 0) dL_usher_1 (by decide) ?_
  refine g_aload_n dL_usher_2 rfl 0 rfl ?_
  refine g_iload_n dL_usher_3 rfl 1 rfl ?_
  rcases wrJ_inv h with ⟨v1, ω1, n1, len, f, e1, e2, e3, rfl, rfl⟩ | ⟨e1, rfl⟩
  · refine g_callVT (ci := 10) (As := [.int l1]) mv_L_95 dL_usher_4 rfl ha rfl rfl (Nat.le_of_ble_eq_true rfl) ((ok_X10_usher Θ l0 l1 _ _) _ e1) (by decide) (by decide) (by decide) (fun E ω' n' hq => by cases hq) ?_
    intro v ω' n' hv
    cases hv
    refine G.less (B' := (0, 0)) (by decide) (by decide) ?_
    refine g_i2l dL_usher_7 ?_
    refine g_last dL_usher_8 e2 (by unfold vp_in; simp; omega) ?_
    refine g_goto (tgt := 15) dL_usher_9 (by decide) ?_
    refine g_iconst (v := 0) dL_usher_15 (by decide) ?_
    exact g_iret rfl dL_usher_16 ⟨rfl, rfl⟩
  · refine g_callVT (ci := 10) (As := [.int l1]) mv_L_95 dL_usher_4 rfl ha rfl rfl (Nat.le_of_ble_eq_true rfl) ((ok_X10_usher Θ l0 l1 _ _) _ e1) (by decide) (by decide) (by decide) ?_ (fun v ω' n' hv => by cases hv)
    intro E ω' n' hq
    cases hq
    refine ⟨[], _, _, "java/lang/IndexOutOfBoundsException", rfl, (fun z hz => by cases hz), by decide, by decide, wd_1043, by decide +kernel, fun q => ?_⟩
    refine G.less (B' := (0, 0)) (by decide) (by decide) ?_
    refine g_astore_n (lv' := [(3, .ref q), (0, .ref l0), (1, .int l1), (2, .ref l2)]) dL_usher_12 rfl (by decide) rfl ?_
    refine g_iconst (v := 1) dL_usher_13 (by decide) ?_
    exact g_iret rfl dL_usher_14 ⟨rfl, rfl⟩
def W_lasts (Θ : GP) (l0 : Nat) (l1 : Int32) (l2 : Int32) (l3 : Nat) (ω : OW) (n : Nat) : Option (Int32 × OW) := cOw ω l0 10 (wrJ Θ l3 "java/lang/IndexOutOfBoundsException"  (F_X10_lasts Θ l0 l1 l2 ω n))
theorem okW_lasts (Θ : GP) (l0 : Nat) (l1 : Int32) (l2 : Int32) (l3 : Nat) (ω : OW) (n : Nat) (x : Int32) (ω' : OW) (h : W_lasts Θ l0 l1 l2 l3 ω n = some (x, ω')) : ConW Θ 8 2 12 yL_lasts cL_lasts 5 (some .int) [(0, 10, 13, 24)] [.ref l0, .int l1, .int l2, .ref l3] ω n (qw x ω') := by
  unfold W_lasts at h
  obtain ⟨fs, ha, h⟩ := cOw_inv h
  refine ConW.of (by decide +kernel) (Nat.le_of_ble_eq_true rfl) ?_
  show G Θ yL_lasts cL_lasts 5 (some .int) 8 (tableOf [(0, 10, 13, 24)]) (qw x ω') noX (2, 12) 0 [(0, .ref l0), (1, .int l1), (2, .int l2), (3, .ref l3)] [] ω n
  refine g_aload_n dL_lasts_0 rfl 3 rfl ?_
  refine g_iconst (v := 0) dL_lasts_1 (by decide) ?_
  refine g_aload_n dL_lasts_2 rfl 0 rfl ?_
  refine g_iload_n dL_lasts_3 rfl 1 rfl ?_
  refine g_iload_n dL_lasts_4 rfl 2 rfl ?_
  rcases wrJ_inv h with ⟨v1, ω1, n1, len, f, e1, e2, e3, rfl, rfl⟩ | ⟨e1, rfl⟩
  · refine g_callVT (ci := 10) (As := [.int l1, .int l2]) mv_L_98 dL_lasts_5 rfl ha rfl rfl (Nat.le_of_ble_eq_true rfl) ((ok_X10_lasts Θ l0 l1 l2 _ _) _ e1) (by decide) (by decide) (by decide) (fun E ω' n' hq => by cases hq) ?_
    intro v ω' n' hv
    cases hv
    refine G.less (B' := (0, 0)) (by decide) (by decide) ?_
    refine g_i2l dL_lasts_8 ?_
    refine g_last dL_lasts_9 e2 (by unfold vp_in; simp; omega) ?_
    refine g_goto (tgt := 17) dL_lasts_10 (by decide) ?_
    refine g_iconst (v := 0) dL_lasts_17 (by decide) ?_
    exact g_iret rfl dL_lasts_18 ⟨rfl, rfl⟩
  · refine g_callVT (ci := 10) (As := [.int l1, .int l2]) mv_L_98 dL_lasts_5 rfl ha rfl rfl (Nat.le_of_ble_eq_true rfl) ((ok_X10_lasts Θ l0 l1 l2 _ _) _ e1) (by decide) (by decide) (by decide) ?_ (fun v ω' n' hv => by cases hv)
    intro E ω' n' hq
    cases hq
    refine ⟨[], _, _, "java/lang/IndexOutOfBoundsException", rfl, (fun z hz => by cases hz), by decide, by decide, wd_1043, by decide +kernel, fun q => ?_⟩
    refine G.less (B' := (0, 0)) (by decide) (by decide) ?_
    refine g_astore (lv' := [(4, .ref q), (0, .ref l0), (1, .int l1), (2, .int l2), (3, .ref l3)]) dL_lasts_13 (by decide) rfl ?_
    refine g_iconst (v := 1) dL_lasts_15 (by decide) ?_
    exact g_iret rfl dL_lasts_16 ⟨rfl, rfl⟩
def W_share (Θ : GP) (l0 : Nat) (l1 : Int32) (l2 : Int32) (l3 : Nat) (ω : OW) (n : Nat) : Option (Int32 × OW) := cOw ω l0 10 (wrJ Θ l3 "java/lang/IndexOutOfBoundsException"  (F_X10_share Θ l0 l1 l2 ω n))
theorem okW_share (Θ : GP) (l0 : Nat) (l1 : Int32) (l2 : Int32) (l3 : Nat) (ω : OW) (n : Nat) (x : Int32) (ω' : OW) (h : W_share Θ l0 l1 l2 l3 ω n = some (x, ω')) : ConW Θ 8 2 12 yL_share cL_share 5 (some .int) [(0, 10, 13, 24)] [.ref l0, .int l1, .int l2, .ref l3] ω n (qw x ω') := by
  unfold W_share at h
  obtain ⟨fs, ha, h⟩ := cOw_inv h
  refine ConW.of (by decide +kernel) (Nat.le_of_ble_eq_true rfl) ?_
  show G Θ yL_share cL_share 5 (some .int) 8 (tableOf [(0, 10, 13, 24)]) (qw x ω') noX (2, 12) 0 [(0, .ref l0), (1, .int l1), (2, .int l2), (3, .ref l3)] [] ω n
  refine g_aload_n dL_share_0 rfl 3 rfl ?_
  refine g_iconst (v := 0) dL_share_1 (by decide) ?_
  refine g_aload_n dL_share_2 rfl 0 rfl ?_
  refine g_iload_n dL_share_3 rfl 1 rfl ?_
  refine g_iload_n dL_share_4 rfl 2 rfl ?_
  rcases wrJ_inv h with ⟨v1, ω1, n1, len, f, e1, e2, e3, rfl, rfl⟩ | ⟨e1, rfl⟩
  · refine g_callVT (ci := 10) (As := [.int l1, .int l2]) mv_L_101 dL_share_5 rfl ha rfl rfl (Nat.le_of_ble_eq_true rfl) ((ok_X10_share Θ l0 l1 l2 _ _) _ e1) (by decide) (by decide) (by decide) (fun E ω' n' hq => by cases hq) ?_
    intro v ω' n' hv
    cases hv
    refine G.less (B' := (0, 0)) (by decide) (by decide) ?_
    refine g_i2l dL_share_8 ?_
    refine g_last dL_share_9 e2 (by unfold vp_in; simp; omega) ?_
    refine g_goto (tgt := 17) dL_share_10 (by decide) ?_
    refine g_iconst (v := 0) dL_share_17 (by decide) ?_
    exact g_iret rfl dL_share_18 ⟨rfl, rfl⟩
  · refine g_callVT (ci := 10) (As := [.int l1, .int l2]) mv_L_101 dL_share_5 rfl ha rfl rfl (Nat.le_of_ble_eq_true rfl) ((ok_X10_share Θ l0 l1 l2 _ _) _ e1) (by decide) (by decide) (by decide) ?_ (fun v ω' n' hv => by cases hv)
    intro E ω' n' hq
    cases hq
    refine ⟨[], _, _, "java/lang/IndexOutOfBoundsException", rfl, (fun z hz => by cases hz), by decide, by decide, wd_1043, by decide +kernel, fun q => ?_⟩
    refine G.less (B' := (0, 0)) (by decide) (by decide) ?_
    refine g_astore (lv' := [(4, .ref q), (0, .ref l0), (1, .int l1), (2, .int l2), (3, .ref l3)]) dL_share_13 (by decide) rfl ?_
    refine g_iconst (v := 1) dL_share_15 (by decide) ?_
    exact g_iret rfl dL_share_16 ⟨rfl, rfl⟩
def W_trial (Θ : GP) (l0 : Nat) (l1 : Int32) (l2 : Nat) (ω : OW) (n : Nat) : Option (Int32 × OW) := cOw ω l0 10 (wrJ Θ l2 "java/lang/IllegalArgumentException"  (F_X10_trial Θ l0 l1 ω n))
theorem okW_trial (Θ : GP) (l0 : Nat) (l1 : Int32) (l2 : Nat) (ω : OW) (n : Nat) (x : Int32) (ω' : OW) (h : W_trial Θ l0 l1 l2 ω n = some (x, ω')) : ConW Θ 8 1 6 yL_trial cL_trial 4 (some .int) [(0, 9, 12, 13)] [.ref l0, .int l1, .ref l2] ω n (qw x ω') := by
  unfold W_trial at h
  obtain ⟨fs, ha, h⟩ := cOw_inv h
  refine ConW.of (by decide +kernel) (Nat.le_of_ble_eq_true rfl) ?_
  show G Θ yL_trial cL_trial 4 (some .int) 8 (tableOf [(0, 9, 12, 13)]) (qw x ω') noX (1, 6) 0 [(0, .ref l0), (1, .int l1), (2, .ref l2)] [] ω n
  refine g_aload_n dL_trial_0 rfl 2 rfl ?_
  refine g_iconst (v := 0) dL_trial_1 (by decide) ?_
  refine g_aload_n dL_trial_2 rfl 0 rfl ?_
  refine g_iload_n dL_trial_3 rfl 1 rfl ?_
  rcases wrJ_inv h with ⟨v1, ω1, n1, len, f, e1, e2, e3, rfl, rfl⟩ | ⟨e1, rfl⟩
  · refine g_callVT (ci := 10) (As := [.int l1]) mv_L_104 dL_trial_4 rfl ha rfl rfl (Nat.le_of_ble_eq_true rfl) ((ok_X10_trial Θ l0 l1 _ _) _ e1) (by decide) (by decide) (by decide) (fun E ω' n' hq => by cases hq) ?_
    intro v ω' n' hv
    cases hv
    refine G.less (B' := (0, 0)) (by decide) (by decide) ?_
    refine g_i2l dL_trial_7 ?_
    refine g_last dL_trial_8 e2 (by unfold vp_in; simp; omega) ?_
    refine g_goto (tgt := 15) dL_trial_9 (by decide) ?_
    refine g_iconst (v := 0) dL_trial_15 (by decide) ?_
    exact g_iret rfl dL_trial_16 ⟨rfl, rfl⟩
  · refine g_callVT (ci := 10) (As := [.int l1]) mv_L_104 dL_trial_4 rfl ha rfl rfl (Nat.le_of_ble_eq_true rfl) ((ok_X10_trial Θ l0 l1 _ _) _ e1) (by decide) (by decide) (by decide) ?_ (fun v ω' n' hv => by cases hv)
    intro E ω' n' hq
    cases hq
    refine ⟨[], _, _, "java/lang/IllegalArgumentException", rfl, (fun z hz => by cases hz), by decide, by decide, wd_786, by decide +kernel, fun q => ?_⟩
    refine G.less (B' := (0, 0)) (by decide) (by decide) ?_
    refine g_astore_n (lv' := [(3, .ref q), (0, .ref l0), (1, .int l1), (2, .ref l2)]) dL_trial_12 rfl (by decide) rfl ?_
    refine g_iconst (v := 1) dL_trial_13 (by decide) ?_
    exact g_iret rfl dL_trial_14 ⟨rfl, rfl⟩
def W_span (Θ : GP) (l0 : Nat) (l1 : Int32) (l2 : Int32) (l3 : Nat) (ω : OW) (n : Nat) : Option (Int32 × OW) := cOw ω l0 10 (wrJ Θ l3 "java/lang/IllegalArgumentException"  (F_X10_span Θ l0 l1 l2 ω n))
theorem okW_span (Θ : GP) (l0 : Nat) (l1 : Int32) (l2 : Int32) (l3 : Nat) (ω : OW) (n : Nat) (x : Int32) (ω' : OW) (h : W_span Θ l0 l1 l2 l3 ω n = some (x, ω')) : ConW Θ 8 1 6 yL_span cL_span 5 (some .int) [(0, 10, 13, 13)] [.ref l0, .int l1, .int l2, .ref l3] ω n (qw x ω') := by
  unfold W_span at h
  obtain ⟨fs, ha, h⟩ := cOw_inv h
  refine ConW.of (by decide +kernel) (Nat.le_of_ble_eq_true rfl) ?_
  show G Θ yL_span cL_span 5 (some .int) 8 (tableOf [(0, 10, 13, 13)]) (qw x ω') noX (1, 6) 0 [(0, .ref l0), (1, .int l1), (2, .int l2), (3, .ref l3)] [] ω n
  refine g_aload_n dL_span_0 rfl 3 rfl ?_
  refine g_iconst (v := 0) dL_span_1 (by decide) ?_
  refine g_aload_n dL_span_2 rfl 0 rfl ?_
  refine g_iload_n dL_span_3 rfl 1 rfl ?_
  refine g_iload_n dL_span_4 rfl 2 rfl ?_
  rcases wrJ_inv h with ⟨v1, ω1, n1, len, f, e1, e2, e3, rfl, rfl⟩ | ⟨e1, rfl⟩
  · refine g_callVT (ci := 10) (As := [.int l1, .int l2]) mv_L_107 dL_span_5 rfl ha rfl rfl (Nat.le_of_ble_eq_true rfl) ((ok_X10_span Θ l0 l1 l2 _ _) _ e1) (by decide) (by decide) (by decide) (fun E ω' n' hq => by cases hq) ?_
    intro v ω' n' hv
    cases hv
    refine G.less (B' := (0, 0)) (by decide) (by decide) ?_
    refine g_i2l dL_span_8 ?_
    refine g_last dL_span_9 e2 (by unfold vp_in; simp; omega) ?_
    refine g_goto (tgt := 17) dL_span_10 (by decide) ?_
    refine g_iconst (v := 0) dL_span_17 (by decide) ?_
    exact g_iret rfl dL_span_18 ⟨rfl, rfl⟩
  · refine g_callVT (ci := 10) (As := [.int l1, .int l2]) mv_L_107 dL_span_5 rfl ha rfl rfl (Nat.le_of_ble_eq_true rfl) ((ok_X10_span Θ l0 l1 l2 _ _) _ e1) (by decide) (by decide) (by decide) ?_ (fun v ω' n' hv => by cases hv)
    intro E ω' n' hq
    cases hq
    refine ⟨[], _, _, "java/lang/IllegalArgumentException", rfl, (fun z hz => by cases hz), by decide, by decide, wd_786, by decide +kernel, fun q => ?_⟩
    refine G.less (B' := (0, 0)) (by decide) (by decide) ?_
    refine g_astore (lv' := [(4, .ref q), (0, .ref l0), (1, .int l1), (2, .int l2), (3, .ref l3)]) dL_span_13 (by decide) rfl ?_
    refine g_iconst (v := 1) dL_span_15 (by decide) ?_
    exact g_iret rfl dL_span_16 ⟨rfl, rfl⟩
def W_led (Θ : GP) (l0 : Nat) (l1 : Int32) (l2 : Int32) (l3 : Nat) (ω : OW) (n : Nat) : Option (Int32 × OW) := cOw ω l0 10 (wrJ Θ l3 "java/lang/IndexOutOfBoundsException"  (F_X10_led Θ l0 l1 l2 ω n))
theorem okW_led (Θ : GP) (l0 : Nat) (l1 : Int32) (l2 : Int32) (l3 : Nat) (ω : OW) (n : Nat) (x : Int32) (ω' : OW) (h : W_led Θ l0 l1 l2 l3 ω n = some (x, ω')) : ConW Θ 8 1 6 yL_led cL_led 5 (some .int) [(0, 10, 13, 24)] [.ref l0, .int l1, .int l2, .ref l3] ω n (qw x ω') := by
  unfold W_led at h
  obtain ⟨fs, ha, h⟩ := cOw_inv h
  refine ConW.of (by decide +kernel) (Nat.le_of_ble_eq_true rfl) ?_
  show G Θ yL_led cL_led 5 (some .int) 8 (tableOf [(0, 10, 13, 24)]) (qw x ω') noX (1, 6) 0 [(0, .ref l0), (1, .int l1), (2, .int l2), (3, .ref l3)] [] ω n
  refine g_aload_n dL_led_0 rfl 3 rfl ?_
  refine g_iconst (v := 0) dL_led_1 (by decide) ?_
  refine g_aload_n dL_led_2 rfl 0 rfl ?_
  refine g_iload_n dL_led_3 rfl 1 rfl ?_
  refine g_iload_n dL_led_4 rfl 2 rfl ?_
  rcases wrJ_inv h with ⟨v1, ω1, n1, len, f, e1, e2, e3, rfl, rfl⟩ | ⟨e1, rfl⟩
  · refine g_callVT (ci := 10) (As := [.int l1, .int l2]) mv_L_110 dL_led_5 rfl ha rfl rfl (Nat.le_of_ble_eq_true rfl) ((ok_X10_led Θ l0 l1 l2 _ _) _ e1) (by decide) (by decide) (by decide) (fun E ω' n' hq => by cases hq) ?_
    intro v ω' n' hv
    cases hv
    refine G.less (B' := (0, 0)) (by decide) (by decide) ?_
    refine g_i2l dL_led_8 ?_
    refine g_last dL_led_9 e2 (by unfold vp_in; simp; omega) ?_
    refine g_goto (tgt := 17) dL_led_10 (by decide) ?_
    refine g_iconst (v := 0) dL_led_17 (by decide) ?_
    exact g_iret rfl dL_led_18 ⟨rfl, rfl⟩
  · refine g_callVT (ci := 10) (As := [.int l1, .int l2]) mv_L_110 dL_led_5 rfl ha rfl rfl (Nat.le_of_ble_eq_true rfl) ((ok_X10_led Θ l0 l1 l2 _ _) _ e1) (by decide) (by decide) (by decide) ?_ (fun v ω' n' hv => by cases hv)
    intro E ω' n' hq
    cases hq
    refine ⟨[], _, _, "java/lang/IndexOutOfBoundsException", rfl, (fun z hz => by cases hz), by decide, by decide, wd_1043, by decide +kernel, fun q => ?_⟩
    refine G.less (B' := (0, 0)) (by decide) (by decide) ?_
    refine g_astore (lv' := [(4, .ref q), (0, .ref l0), (1, .int l1), (2, .int l2), (3, .ref l3)]) dL_led_13 (by decide) rfl ?_
    refine g_iconst (v := 1) dL_led_15 (by decide) ?_
    exact g_iret rfl dL_led_16 ⟨rfl, rfl⟩
def W_log (Θ : GP) (l0 : Nat) (l1 : Int32) (l2 : Int32) (l3 : Nat) (ω : OW) (n : Nat) : Option (Int32 × OW) := cOw ω l0 10 (wrJ Θ l3 "java/util/NoSuchElementException"  (F_X10_log Θ l0 l1 l2 ω n))
theorem okW_log (Θ : GP) (l0 : Nat) (l1 : Int32) (l2 : Int32) (l3 : Nat) (ω : OW) (n : Nat) (x : Int32) (ω' : OW) (h : W_log Θ l0 l1 l2 l3 ω n = some (x, ω')) : ConW Θ 7 1 6 yL_log cL_log 5 (some .int) [(0, 10, 13, 26)] [.ref l0, .int l1, .int l2, .ref l3] ω n (qw x ω') := by
  unfold W_log at h
  obtain ⟨fs, ha, h⟩ := cOw_inv h
  refine ConW.of (by decide +kernel) (Nat.le_of_ble_eq_true rfl) ?_
  show G Θ yL_log cL_log 5 (some .int) 7 (tableOf [(0, 10, 13, 26)]) (qw x ω') noX (1, 6) 0 [(0, .ref l0), (1, .int l1), (2, .int l2), (3, .ref l3)] [] ω n
  refine g_aload_n dL_log_0 rfl 3 rfl ?_
  refine g_iconst (v := 0) dL_log_1 (by decide) ?_
  refine g_aload_n dL_log_2 rfl 0 rfl ?_
  refine g_iload_n dL_log_3 rfl 1 rfl ?_
  refine g_iload_n dL_log_4 rfl 2 rfl ?_
  rcases wrJ_inv h with ⟨v1, ω1, n1, len, f, e1, e2, e3, rfl, rfl⟩ | ⟨e1, rfl⟩
  · refine g_callVT (ci := 10) (As := [.int l1, .int l2]) mv_L_113 dL_log_5 rfl ha rfl rfl (Nat.le_of_ble_eq_true rfl) ((ok_X10_log Θ l0 l1 l2 _ _) _ e1) (by decide) (by decide) (by decide) (fun E ω' n' hq => by cases hq) ?_
    intro v ω' n' hv
    cases hv
    refine G.less (B' := (0, 0)) (by decide) (by decide) ?_
    refine g_i2l dL_log_8 ?_
    refine g_last dL_log_9 e2 (by unfold vp_in; simp; omega) ?_
    refine g_goto (tgt := 17) dL_log_10 (by decide) ?_
    refine g_iconst (v := 0) dL_log_17 (by decide) ?_
    exact g_iret rfl dL_log_18 ⟨rfl, rfl⟩
  · refine g_callVT (ci := 10) (As := [.int l1, .int l2]) mv_L_113 dL_log_5 rfl ha rfl rfl (Nat.le_of_ble_eq_true rfl) ((ok_X10_log Θ l0 l1 l2 _ _) _ e1) (by decide) (by decide) (by decide) ?_ (fun v ω' n' hv => by cases hv)
    intro E ω' n' hq
    cases hq
    refine ⟨[], _, _, "java/util/NoSuchElementException", rfl, (fun z hz => by cases hz), by decide, by decide, wd_1044, by decide +kernel, fun q => ?_⟩
    refine G.less (B' := (0, 0)) (by decide) (by decide) ?_
    refine g_astore (lv' := [(4, .ref q), (0, .ref l0), (1, .int l1), (2, .int l2), (3, .ref l3)]) dL_log_13 (by decide) rfl ?_
    refine g_iconst (v := 1) dL_log_15 (by decide) ?_
    exact g_iret rfl dL_log_16 ⟨rfl, rfl⟩
