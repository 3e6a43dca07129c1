theorem g_T_sub {w : Cond} (h : w ∈ g_T) : w ∈ lw_tbl := (List.mem_filter.mp h).1
/-- the classes, by number -/
theorem st_cls {s : State} {args : Array Value} (hg : ∀ w ∈ g_T, w.before args s = true) : ∃ (dC : Nat → ClassId) (dI : Nat → Nat → Nat), ∀ (k : Nat) (q : vw_C), vwCl[k]? = some q → u_Kn s q.1 q.2.1 q.2.2 (dC k) (dI k) := by
  obtain ⟨c0, i0, h0⟩ := u_known (C := RX0) (T := TX0) (N := 18) (n := 18) hg cl_X0.2.1 (hg _ wd_221)
  obtain ⟨c1, i1, h1⟩ := u_known (C := RX1) (T := TX1) (N := 2) (n := 2) hg cl_X1.2.1 (hg _ wd_365)
  obtain ⟨c2, i2, h2⟩ := u_known (C := RX2) (T := TX2) (N := 6) (n := 6) hg cl_X2.2.1 (hg _ wd_194)
  obtain ⟨c3, i3, h3⟩ := u_known (C := RX3) (T := TX3) (N := 7) (n := 7) hg cl_X3.2.1 (hg _ wd_378)
  obtain ⟨c4, i4, h4⟩ := u_known (C := RX4) (T := TX4) (N := 3) (n := 3) hg cl_X4.2.1 (hg _ wd_227)
  obtain ⟨c5, i5, h5⟩ := u_known (C := RX5) (T := TX5) (N := 3) (n := 3) hg cl_X5.2.1 (hg _ wd_345)
  obtain ⟨c6, i6, h6⟩ := u_known (C := RX6) (T := TX6) (N := 15) (n := 15) hg cl_X6.2.1 (hg _ wd_406)
  obtain ⟨c7, i7, h7⟩ := u_known (C := RX7) (T := TX7) (N := 3) (n := 3) hg cl_X7.2.1 (hg _ wd_177)
  obtain ⟨c8, i8, h8⟩ := u_known (C := RX8) (T := TX8) (N := 6) (n := 6) hg cl_X8.2.1 (hg _ wd_148)
  obtain ⟨c9, i9, h9⟩ := u_known (C := RX9) (T := TX9) (N := 8) (n := 8) hg cl_X9.2.1 (hg _ wd_471)
  obtain ⟨c10, i10, h10⟩ := u_known (C := RX10) (T := TX10) (N := 15) (n := 15) hg cl_X10.2.1 (hg _ wd_140)
  obtain ⟨c11, i11, h11⟩ := u_known (C := RX11) (T := TX11) (N := 38) (n := 38) hg cl_X11.2.1 (hg _ wd_1408)
  refine ⟨fun k => [c0, c1, c2, c3, c4, c5, c6, c7, c8, c9, c10, c11].getD k 0, fun k => [i0, i1, i2, i3, i4, i5, i6, i7, i8, i9, i10, i11].getD k (fun _ => 0), ?_⟩
  intro k q hq
  match k, hq with
  | 0, hq => cases hq; exact h0
  | 1, hq => cases hq; exact h1
  | 2, hq => cases hq; exact h2
  | 3, hq => cases hq; exact h3
  | 4, hq => cases hq; exact h4
  | 5, hq => cases hq; exact h5
  | 6, hq => cases hq; exact h6
  | 7, hq => cases hq; exact h7
  | 8, hq => cases hq; exact h8
  | 9, hq => cases hq; exact h9
  | 10, hq => cases hq; exact h10
  | 11, hq => cases hq; exact h11
  | k + 12, hq => simp [vwCl] at hq
theorem st_arr {s : State} {args : Array Value} {ty : FieldType} (h : (Cond.arrayClass ty).before args s = true) (hn : ∀ C, ty ≠ .object C) : ∃ cA : ClassId, ArrOfT s cA ty ∧ va_RA s cA ty := by
  obtain ⟨cA, kA, comp, h1, h2, h3⟩ := Cond.arrayClass_spec h
  refine ⟨cA, fun n z => ⟨fun k h => (by cases h), kA, h2, comp, h3⟩, ?_⟩
  unfold va_RA
  split
  · rename_i C
    exact absurd rfl (hn C)
  · exact h1
theorem st_arq {s : State} {args : Array Value} {C : String} (h : (Cond.arrayOver (.object C)).before args s = true) : ∃ cA : ClassId, ArrOfT s cA (.object C) ∧ va_RA s cA (.object C) := by
  obtain ⟨comp, cA, kA, h1, h2, h3, h4, h5⟩ := Cond.arrayOver_spec h
  exact ⟨cA, fun n z => ⟨fun k h => (by cases h), kA, h3, comp, h4⟩, kA, comp, h3, h4, h1, h5⟩
theorem st_tys {s : State} {args : Array Value} (hg : ∀ w ∈ g_T, w.before args s = true) (ho : (Cond.arrayOver (.object "GhostAssize$Court")).before args s = true) : ∃ c0 c1 c2 c3 c4 : ClassId, ∀ (k : Nat) (q : ClassId × FieldType), ([(c0, .int), (c1, .byte), (c2, .boolean), (c3, .long), (c4, .object "GhostAssize$Court")] : List (ClassId × FieldType))[k]? = some q → ArrOfT s q.1 q.2 ∧ va_RA s q.1 q.2 := by
  obtain ⟨c0, h0⟩ := st_arr (hg _ wd_175) (fun C h => by cases h)
  obtain ⟨c1, h1⟩ := st_arr (hg _ wd_946) (fun C h => by cases h)
  obtain ⟨c2, h2⟩ := st_arr (hg _ wd_192) (fun C h => by cases h)
  obtain ⟨c3, h3⟩ := st_arr (hg _ wd_2119) (fun C h => by cases h)
  obtain ⟨c4, h4⟩ := st_arq ho
  refine ⟨c0, c1, c2, c3, c4, ?_⟩
  intro k q hq
  match k, hq with
  | 0, hq => cases hq; exact h0
  | 1, hq => cases hq; exact h1
  | 2, hq => cases hq; exact h2
  | 3, hq => cases hq; exact h3
  | 4, hq => cases hq; exact h4
  | k + 5, hq => simp at hq
