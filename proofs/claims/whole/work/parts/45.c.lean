/-- all that the walk takes as given, at the law's entry -/
theorem st_SF {s : State} {b L : Nat} {xs : Nat → Int32} (l : Launch) (hl : l.stackTraces = false) (hts : ∀ w ∈ lw_tbl, w.before #[Value.ref b] s = true) (hX : va_X b L xs s s.heap) (hbl : b < s.heap.size) (hgv : (Jvm.Cond.and given_1 narrow_1).before #[Value.ref b] s = true) : ∃ Θ : GP, gl Θ = l ∧ gb Θ = s.heap.size ∧ gX Θ = some (b, L, xs) ∧ gOK Θ ∧ g_SF Θ s := by
  have hs : ∀ w ∈ sFl, w.before #[Value.ref b] s = true := flat_of_before _ hgv
  have hg : ∀ w ∈ g_T, w.before #[Value.ref b] s = true := fun w hw => hts w (g_T_sub hw)
  have ho := hts _ (m_tb (.arrayOver (.object "GhostAssize$Court")) (by simp))
  obtain ⟨dC, dI, hK⟩ := st_cls hg
  obtain ⟨c0, c1, c2, c3, c4, hA⟩ := st_tys hg ho
  have hAA : ∀ a : Nat, a < s.heap.size → ¬ (fun q : Nat => s.heap.size ≤ q) a := fun a h => Nat.not_le.mpr h
  have hst : ∀ i : Nat, ∃ q : Nat × Nat, i < 39 → (sTm i).eval #[Value.ref b] s none [] s = some (.ref q.1) ∧ (i < 21 → va_O "java/lang/String" q.1 (fun q : Nat => s.heap.size ≤ q) s s.heap ∧ va_OF "java/lang/String" "coder" "B" (.int 0) q.1 (fun q : Nat => s.heap.size ≤ q) s s.heap ∧ va_OF "java/lang/String" "value" "[B" (.ref q.2) q.1 (fun q : Nat => s.heap.size ≤ q) s s.heap ∧ va_T .byte q.2 (g_lens.getD i 0) (fun j => .int ((g_byts.getD i []).getD j 0)) (fun q : Nat => s.heap.size ≤ q) s s.heap) := by
    intro i
    by_cases h21 : i < 21
    · obtain ⟨k, v, h1, h2⟩ := st_one hAA (m_ln i h21) (hs _ (m_ex i (by omega))) (hs _ (m_co i h21).1) (hs _ (m_co i h21).2.1) (hs _ (m_co i h21).2.2) (fun j hj => hs _ (m_el i h21 j hj))
      exact ⟨(k, v), fun _ => ⟨h2, fun _ => h1⟩⟩
    · by_cases h39 : i < 39
      · obtain ⟨a, _, _, _, q1, _⟩ := Cond.exactly_spec (args := #[Value.ref b]) (first := s) (o := none) (s := s) (idx := []) (t := sTm i) (cls := "java/lang/String") (hs _ (m_ex i h39))
        exact ⟨(a, 0), fun _ => ⟨q1, fun h => absurd h h21⟩⟩
      · exact ⟨(0, 0), fun h => absurd h h39⟩
  obtain ⟨ad, had⟩ := Classical.axiomOfChoice hst
  have hin : ∀ i j : Nat, i < 21 → j < 21 → (ad i).1 = (ad j).1 → i = j := by
    intro i j hi hj e
    obtain ⟨_, _, a3, a4⟩ := (had i (by omega)).2 hi
    obtain ⟨_, _, b3, b4⟩ := (had j (by omega)).2 hj
    rw [e] at a3
    have e2 := st_OF a3 b3
    have e2 : (ad i).2 = (ad j).2 := by injection e2
    obtain ⟨cell, t1, t2, t3, t4, t5, t6, t7⟩ := a4
    obtain ⟨cell', u1, u2, u3, u4, u5, u6, u7⟩ := b4
    rw [e2, u1] at t1
    cases t1
    have eN : g_lens.getD i 0 = g_lens.getD j 0 := (nI_eq (m_ln i hi) (m_ln j hj)).mp (t5.symm.trans u5)
    refine st_dist i hi j hj eN (fun x hx => ?_)
    have h1 := t6 x hx
    have h2 := u6 x (by rw [← eN]; exact hx)
    rw [h1] at h2
    have h2 := Option.some.inj h2
    injection h2
  refine ⟨(l, (dC, dI), [(c0, .int), (c1, .byte), (c2, .boolean), (c3, .long), (c4, .object "GhostAssize$Court")], s.heap.size, fun i => (ad i).1, fun i => (ad i).2, some (b, L, xs)), rfl, rfl, rfl, rfl, ?_⟩
  refine ⟨⟨hK, hA⟩, vx_Zqof (hts _ (m_tb _ (by simp))) (hts _ (m_tb _ (by simp))) (hs _ (m_fl _ (by simp))) hAA, vx_Zqof (hts _ (m_tb _ (by simp))) (hts _ (m_tb _ (by simp))) (hs _ (m_fl _ (by simp))) hAA, ⟨fun i hi => (had i (by omega)).2 hi, hin⟩, fun k q hq => ?_, Nat.le_refl _, fun w hw => va_Nw.of (m_N w hw).2 (hts w (m_N w hw).1), fun q hq => va_Nc.of (hs _ (m_NC q hq)), rfl, hl, va_AO.of ho, fun q hq => ?_, va_Zof (hts _ (m_tb _ (by simp))) (hts _ (m_tb _ (by simp))) (va_eqt (hs _ (m_fl _ (by simp)))) hAA, va_Zqof (hts _ (m_tb _ (by simp))) (hts _ (m_tb _ (by simp))) (hs _ (m_fl _ (by simp))) hAA⟩
  · have hk : k < 39 := (List.getElem?_eq_some_iff.mp hq).1
    have e : g_strs.getD k ("", 0, "") = q := by rw [List.getD_eq_getElem?_getD, hq]; rfl
    have h := (had k hk).1
    unfold sTm at h
    rw [e] at h
    exact vk_R.of (hts _ (m_sr q (List.mem_of_getElem? hq))) h
  · cases hq
    exact ⟨hX, hbl, hbl⟩
/-- nothing old was written -/
theorem st_new {s t : State} {L : List Loc} {k n : Nat} (h : s.sameButNew t L k n) (hL : ∀ q ∈ L, s.heap.size ≤ q.base) : s.sameButNew t [] k n := by
  obtain ⟨h1, h2, h3, h4, h5, h6⟩ := h
  refine ⟨h1, h2, h3, h4, h5, fun a c hc => ?_⟩
  obtain ⟨c', e1, e2, e3, e4⟩ := h6 a c hc
  refine ⟨c', e1, e2, e3, fun i _ => e4 i (fun hm => ?_)⟩
  have ha : a < s.heap.size := (Array.getElem?_eq_some_iff.mp hc).1
  have := hL _ hm
  exact absurd ha (Nat.not_lt.mpr this)
