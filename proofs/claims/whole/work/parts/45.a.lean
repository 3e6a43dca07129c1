/-! the law's entry: what stands outside the world -/
abbrev sTm (i : Nat) : Term := .string (g_strs.getD i ("", 0, "")).1 (g_strs.getD i ("", 0, "")).2.1
theorem st_one {args : Array Value} {s : State} {A : Nat → Prop} (hA : ∀ a : Nat, a < s.heap.size → ¬ A a) {t : Term} {len : Nat} {byt : List Int32} (hN : len < 2 ^ 31) (hex : (Cond.exactly t "java/lang/String").before args s = true) (hco : (Cond.eq (.field t "java/lang/String" "coder" "B") (.int 0)).before args s = true)
    (har : (Cond.arrayOf (.field t "java/lang/String" "value" "[B") .byte).before args s = true) (hle : (Cond.eq (.length (.field t "java/lang/String" "value" "[B")) (.int (Int32.ofNat len))).before args s = true)
    (hel : ∀ j : Nat, j < len → (Cond.eq (.elem (.field t "java/lang/String" "value" "[B") (.int (Int32.ofNat j))) (.int (byt.getD j 0))).before args s = true) :
    ∃ k v : Nat, (va_O "java/lang/String" k A s s.heap ∧ va_OF "java/lang/String" "coder" "B" (.int 0) k A s s.heap ∧ va_OF "java/lang/String" "value" "[B" (.ref v) k A s s.heap ∧ va_T .byte v len (fun j => .int (byt.getD j 0)) A s s.heap) ∧ t.eval args s none [] s = some (.ref k) := by
  have z : ∀ i : Nat, i < 1 → i = 0 := fun i h => by omega
  obtain ⟨adK, adV, h1, h2⟩ := vk_Sof (N := 1) (tm := fun _ => t) (len := [len]) (byt := [byt]) (A := A) (args := args) (s := s) (fun i hi => by rw [z i hi]; exact hN) (fun i hi => hex) (fun i hi => hco) (fun i hi => har) (fun i hi => by rw [z i hi]; exact hle) (fun i hi j hj => by rw [z i hi] at hj ⊢; exact hel j hj) (fun i j hi hj hij => absurd ((z i hi).trans (z j hj).symm) hij) hA
  exact ⟨adK 0, adV 0, h1.1 0 (by omega), h2 0 (by omega)⟩
/-- one string is not another: their bytes differ -/
theorem st_OF {o n d : String} {v v' : Value} {a : Nat} {A : Nat → Prop} {U : State} {H : Heap} (h : va_OF o n d v a A U H) (h' : va_OF o n d v' a A U H) : v = v' := by
  obtain ⟨cf, k, fi, f, cell, a1, a2, a3, a4, a5, a6⟩ := h
  obtain ⟨cf', k', fi', f', cell', b1, b2, b3, b4, b5, b6⟩ := h'
  rw [a1] at b1
  cases b1
  rw [a3] at b3
  cases b3
  rw [a5] at b5
  exact Option.some.inj b5
abbrev sFl : List Cond := flatC (Jvm.Cond.and given_1 narrow_1)
theorem m_tb : ∀ w ∈ ([.laysStatic Bundle.tN "UNASSIGNED_STACK" Bundle.steD, .laysStatic Bundle.tN "SUPPRESSED_SENTINEL" Bundle.listD, .laysStatic "java/lang/String" "COMPACT_STRINGS" "Z", .laysStatic "jdk/internal/util/Preconditions" "SIOOBE_FORMATTER" "Ljava/util/function/BiFunction;", .initialized Bundle.tN, .initialized "java/lang/String", .initialized "jdk/internal/util/Preconditions", .arrayOver (.object "GhostAssize$Court")] : List Cond), w ∈ lw_tbl := by decide +kernel
theorem m_N : ∀ w ∈ g_N, w ∈ lw_tbl ∧ w.onTables = true := by decide +kernel
theorem m_sr : ∀ q ∈ g_strs, Cond.stringRef q.1 q.2.1 q.2.2 ∈ lw_tbl := by decide +kernel
def ixS : List Nat := [577, 585, 591, 610, 619, 626, 569, 599, 635, 643, 651, 707, 715, 697, 690, 724, 731, 658, 668, 676, 684, 91, 125, 147, 204, 284, 309, 371, 407, 427, 445, 469, 511, 549, 179, 225, 250, 329, 527]
theorem m_xi : ∀ i, i < 39 → sFl[ixS.getD i 0]? = some (Cond.exactly (sTm i) "java/lang/String") := by decide +kernel
theorem m_ex (i : Nat) (h : i < 39) : Cond.exactly (sTm i) "java/lang/String" ∈ sFl := List.mem_of_getElem? (m_xi i h)
/-- the words of a String constant: its coder, its row, how long, its bytes -/
def wS (i : Nat) : List Cond := Cond.eq (.field (sTm i) "java/lang/String" "coder" "B") (.int 0) :: Cond.arrayOf (.field (sTm i) "java/lang/String" "value" "[B") .byte :: Cond.eq (.length (.field (sTm i) "java/lang/String" "value" "[B")) (.int (Int32.ofNat (g_lens.getD i 0))) :: (List.range (g_lens.getD i 0)).map (fun j => Cond.eq (.elem (.field (sTm i) "java/lang/String" "value" "[B") (.int (Int32.ofNat j))) (.int ((g_byts.getD i []).getD j 0)))
theorem m_w0 : (sFl.drop 578).take (wS 0).length = wS 0 := by decide +kernel
theorem m_w1 : (sFl.drop 586).take (wS 1).length = wS 1 := by decide +kernel
theorem m_w2 : (sFl.drop 592).take (wS 2).length = wS 2 := by decide +kernel
theorem m_w3 : (sFl.drop 611).take (wS 3).length = wS 3 := by decide +kernel
theorem m_w4 : (sFl.drop 620).take (wS 4).length = wS 4 := by decide +kernel
theorem m_w5 : (sFl.drop 627).take (wS 5).length = wS 5 := by decide +kernel
theorem m_w6 : (sFl.drop 570).take (wS 6).length = wS 6 := by decide +kernel
theorem m_w7 : (sFl.drop 600).take (wS 7).length = wS 7 := by decide +kernel
theorem m_w8 : (sFl.drop 636).take (wS 8).length = wS 8 := by decide +kernel
theorem m_w9 : (sFl.drop 644).take (wS 9).length = wS 9 := by decide +kernel
theorem m_w10 : (sFl.drop 652).take (wS 10).length = wS 10 := by decide +kernel
theorem m_w11 : (sFl.drop 708).take (wS 11).length = wS 11 := by decide +kernel
theorem m_w12 : (sFl.drop 716).take (wS 12).length = wS 12 := by decide +kernel
theorem m_w13 : (sFl.drop 698).take (wS 13).length = wS 13 := by decide +kernel
theorem m_w14 : (sFl.drop 691).take (wS 14).length = wS 14 := by decide +kernel
theorem m_w15 : (sFl.drop 725).take (wS 15).length = wS 15 := by decide +kernel
theorem m_w16 : (sFl.drop 732).take (wS 16).length = wS 16 := by decide +kernel
theorem m_w17 : (sFl.drop 659).take (wS 17).length = wS 17 := by decide +kernel
theorem m_w18 : (sFl.drop 669).take (wS 18).length = wS 18 := by decide +kernel
theorem m_w19 : (sFl.drop 677).take (wS 19).length = wS 19 := by decide +kernel
theorem m_w20 : (sFl.drop 685).take (wS 20).length = wS 20 := by decide +kernel
theorem m_w {i k : Nat} (h : (sFl.drop k).take (wS i).length = wS i) : ∀ w ∈ wS i, w ∈ sFl := fun w hw => List.mem_of_mem_drop (List.mem_of_mem_take (by rw [h]; exact hw))
theorem m_wa : ∀ i, i < 21 → ∀ w ∈ wS i, w ∈ sFl := by
  intro i hi
  have q : i = 0 ∨ i = 1 ∨ i = 2 ∨ i = 3 ∨ i = 4 ∨ i = 5 ∨ i = 6 ∨ i = 7 ∨ i = 8 ∨ i = 9 ∨ i = 10 ∨ i = 11 ∨ i = 12 ∨ i = 13 ∨ i = 14 ∨ i = 15 ∨ i = 16 ∨ i = 17 ∨ i = 18 ∨ i = 19 ∨ i = 20 := by omega
  rcases q with rfl | rfl | rfl | rfl | rfl | rfl | rfl | rfl | rfl | rfl | rfl | rfl | rfl | rfl | rfl | rfl | rfl | rfl | rfl | rfl | rfl
  · exact m_w m_w0
  · exact m_w m_w1
  · exact m_w m_w2
  · exact m_w m_w3
  · exact m_w m_w4
  · exact m_w m_w5
  · exact m_w m_w6
  · exact m_w m_w7
  · exact m_w m_w8
  · exact m_w m_w9
  · exact m_w m_w10
  · exact m_w m_w11
  · exact m_w m_w12
  · exact m_w m_w13
  · exact m_w m_w14
  · exact m_w m_w15
  · exact m_w m_w16
  · exact m_w m_w17
  · exact m_w m_w18
  · exact m_w m_w19
  · exact m_w m_w20
theorem m_co (i : Nat) (h : i < 21) : Cond.eq (.field (sTm i) "java/lang/String" "coder" "B") (.int 0) ∈ sFl ∧ Cond.arrayOf (.field (sTm i) "java/lang/String" "value" "[B") .byte ∈ sFl ∧ Cond.eq (.length (.field (sTm i) "java/lang/String" "value" "[B")) (.int (Int32.ofNat (g_lens.getD i 0))) ∈ sFl :=
  ⟨m_wa i h _ List.mem_cons_self, m_wa i h _ (List.mem_cons_of_mem _ List.mem_cons_self), m_wa i h _ (List.mem_cons_of_mem _ (List.mem_cons_of_mem _ List.mem_cons_self))⟩
theorem m_el (i : Nat) (h : i < 21) (j : Nat) (hj : j < g_lens.getD i 0) : Cond.eq (.elem (.field (sTm i) "java/lang/String" "value" "[B") (.int (Int32.ofNat j))) (.int ((g_byts.getD i []).getD j 0)) ∈ sFl :=
  m_wa i h _ (List.mem_cons_of_mem _ (List.mem_cons_of_mem _ (List.mem_cons_of_mem _ (List.mem_map.mpr ⟨j, List.mem_range.mpr hj, rfl⟩))))
theorem m_fl : ∀ w ∈ ([.isRef (.static Bundle.tN "UNASSIGNED_STACK" Bundle.steD), .isRef (.static Bundle.tN "SUPPRESSED_SENTINEL" Bundle.listD), .eq (.static "java/lang/String" "COMPACT_STRINGS" "Z") (.int 1), .isRef (.static "jdk/internal/util/Preconditions" "SIOOBE_FORMATTER" "Ljava/util/function/BiFunction;")] : List Cond), w ∈ sFl := by decide +kernel
theorem m_NC : ∀ q ∈ g_NC, Cond.not (.castable q.1 q.2) ∈ sFl := by decide +kernel
theorem st_dist : ∀ i, i < 21 → ∀ j, j < 21 → g_lens.getD i 0 = g_lens.getD j 0 → (∀ x, x < g_lens.getD i 0 → (g_byts.getD i []).getD x 0 = (g_byts.getD j []).getD x 0) → i = j := by decide +kernel
theorem m_ln : ∀ i, i < 21 → g_lens.getD i 0 < 2 ^ 31 := by decide +kernel
