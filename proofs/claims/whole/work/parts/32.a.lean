/-! promises 7, 8, 9: what there is -/
theorem CRp {S : PZ} {c : Nat} {w : Nat → Int32} (h : CR S c w) {p : Nat} (hp : p < cP w) : zA S (c + 1) p = w (4 * p + 9) ∧ zA S (c + 2) p = w (4 * p + 10) ∧ zA S (c + 3) p = w (4 * p + 11) ∧ zA S (c + 4) p = w (4 * p + 12) := h.2.1 p hp
theorem CRa {S : PZ} {c : Nat} {w : Nat → Int32} (h : CR S c w) {p : Nat} (hp : p < cO' w) : zA S (c + 6) p = w (4 * p + 41) ∧ zA S (c + 7) p = w (4 * p + 42) ∧ zA S (c + 8) p = w (4 * p + 43) ∧ zA S (c + 9) p = w (4 * p + 44) := h.2.2.2.1 p hp
theorem CRt {S : PZ} {c : Nat} {w : Nat → Int32} (h : CR S c w) {s : Nat} (hs : s < 10) : zA S (c + 5) s = pin w (nI s) := h.2.2.1 s hs
theorem pc6 (Θ : GP) : PC_6 Θ (gb Θ) (gb Θ + 218) (gb Θ + 234) (Inv Θ) := by
  intro v xs i hI
  obtain ⟨S, ω, rfl, hC, hI⟩ := hI
  have hP := hC.P
  show stW Θ _ _ (fun ω n => W_slot Θ (gb Θ) (xs (i + 1)) (gb Θ + 234) ω n) (fun ω n => F_X11_slot Θ (gb Θ + 218) (xs (i + 1)) ω n) _ _
  generalize xs (i + 1) = v
  by_cases hv : ∃ s, s < 10 ∧ v = nI s
  · obtain ⟨s, hs, rfl⟩ := hv
    refine fin_W fun n _ => ⟨0, uL S 234 (pin (zA S 219) (nI s)).toInt64, ω, ?_, fun n2 => ⟨pin (zA S 219) (nI s), uF (uL S 234 (pin (zA S 219) (nI s)).toInt64) 218 0 0, n2, ?_, rfl, fun _ => rfl, hC.nL.thr, hI.nL.thr⟩⟩
    · show W_slot Θ (gb Θ) (nI s) (gb Θ + 234) (laz Θ S ω) n = _
      unfold W_slot F_X10_slot
      rw [c10w, c10, x_needSlot_y hs, kV_v, r10_0, a14_11, l_19 hs, CRt hC.1.2.1 hs, wrJ_v]
    · show F_X11_slot Θ (gb Θ + 218) (nI s) (laz Θ _ ω) n2 = _
      unfold F_X11_slot J_X11_slot_26
      rw [b218_0, m_noSlot_y hs, kI_v, d218, m_throwsIf0, kI_v, if_pos rfl, d218, m_propIn (by exact hP.1) hP.2.1, kI_v]
      rfl
  · refine fin_W fun n _ => ⟨1, S, ω, ?_, fun n2 => ⟨0, uF (uF S 218 0 0) 218 0 1, n2, ?_, rfl, fun h => absurd h (by decide), hC.thr.thr, hI.thr.thr⟩⟩
    · show W_slot Θ (gb Θ) v (gb Θ + 234) (laz Θ S ω) n = _
      unfold W_slot F_X10_slot
      rw [c10w, c10, x_needSlot_n hv, kV_x, wrJ_x]
    · show F_X11_slot Θ (gb Θ + 218) v (laz Θ S ω) n2 = _
      unfold F_X11_slot J_X11_slot_26
      rw [b218_0, m_noSlot_n hv, kI_v, d218, m_throwsIf1, kI_v, if_neg (by decide)]
theorem in03_y {n : Nat} {Θ : GP} {k : Nat} (hk : k < 4) (ω : OW) : F_X11_in Θ (nI k) 0 3 ω n = some (.inl (some (.int 1), ω, n)) := by
  rw [m_in, if_neg]
  rintro (h | h)
  · exact nI_pos (by omega) h
  · have := (nI_ltI (a := 3) (b := k) (by omega) (by omega)).mp h
    omega
theorem in_n {n : Nat} {Θ : GP} {v hi : Int32} {N : Nat} (hN : N < 2 ^ 31) (hhi : hi = nI N - 1) (hv : ¬ ∃ k, k < N ∧ v = nI k) (ω : OW) : F_X11_in Θ v 0 hi ω n = some (.inl (some (.int 0), ω, n)) := by
  rw [m_in, if_pos]
  subst hhi
  rcases q_out hN hv with q | ⟨_, q⟩
  · exact Or.inl q
  · exact Or.inr ((q_pred hN).mpr q)
theorem four {k : Nat} (h : k < 4) : k = 0 ∨ k = 1 ∨ k = 2 ∨ k = 3 := by omega
theorem ns_ne : ("java/util/NoSuchElementException" : String) ≠ "java/lang/IndexOutOfBoundsException" := by decide
theorem notlit {v : Int32} {N j : Nat} (hv : ¬ ∃ k, k < N ∧ v = nI k) (hj : j < N) : ¬ v = nI j := fun h => hv ⟨j, hj, h⟩
theorem pc5 (Θ : GP) : PC_5 Θ (gb Θ) (gb Θ + 218) (gb Θ + 234) (Inv Θ) := by
  intro v xs i hI
  obtain ⟨S, ω, rfl, hC, hI⟩ := hI
  have hP := hC.P
  show stW Θ _ _ (fun ω n => W_prop Θ (gb Θ) (xs (i + 1)) (xs (i + 2)) (gb Θ + 234) ω n) (fun ω n => F_X11_prop Θ (gb Θ + 218) (xs (i + 1)) (xs (i + 2)) ω n) _ _
  generalize xs (i + 1) = v
  generalize xs (i + 2) = u
  by_cases hv : ∃ s, s < cP (zA S 219) ∧ v = nI s
  · obtain ⟨p, hp, rfl⟩ := hv
    have hr := CRp hC.1.2.1 hp
    by_cases hu : ∃ s, s < 4 ∧ u = nI s
    · obtain ⟨k, hk, rfl⟩ := hu
      refine fin_W fun n _ => ⟨0, uL S 234 (zA S 219 (4 * p + 9 + k)).toInt64, ω, ?_, fun n2 => ⟨zA S 219 (4 * p + 9 + k), uF (uL S 234 (zA S 219 (4 * p + 9 + k)).toInt64) 218 0 0, n2, ?_, rfl, fun _ => rfl, hC.nL.thr, hI.nL.thr⟩⟩
      · show W_prop Θ (gb Θ) (nI p) (nI k) (gb Θ + 234) (laz Θ S ω) n = _
        unfold W_prop F_X10_prop
        rw [c10w, c10, x_needProp_y hC hp, kV_v]
        rcases four hk with rfl | rfl | rfl | rfl
        · rw [if_pos (by decide), r10_0, a14_7, l_15 (by omega), wrI_v, hr.1]
        · rw [if_neg (by decide), if_pos (by decide), r10_0, a14_8, l_16 (by omega), wrI_v, hr.2.1]
        · rw [if_neg (by decide), if_neg (by decide), if_pos (by decide), r10_0, a14_9, l_17 (by omega), wrI_v, hr.2.2.1]
        · rw [if_neg (by decide), if_neg (by decide), if_neg (by decide), if_pos (by decide), r10_0, a14_10, l_18 (by omega), wrI_v, hr.2.2.2]
      · show F_X11_prop Θ (gb Θ + 218) (nI p) (nI k) (laz Θ _ ω) n2 = _
        unfold F_X11_prop J_X11_prop_33 J_X11_prop_50
        rw [b218_0, d218, m_noProp_y (by exact hP.1) hP.2.1 hp, kI_v, d218, m_throwsIf0, kI_v, if_pos rfl, in03_y hk, kI_v, if_neg (by decide), d218, m_throwsIf0, kI_v, if_pos rfl, d218]
        rcases four hk with rfl | rfl | rfl | rfl
        · have e := m_ofProp0 (Θ := Θ) (S := uF (uL S 234 (zA S 219 (4 * p + 9 + 0)).toInt64) 218 0 0) (ω := ω) (n := n2) (p := p) (by omega)
          exact (congrArg (fun r => kI r _) e).trans rfl
        · have e := m_ofProp1 (Θ := Θ) (S := uF (uL S 234 (zA S 219 (4 * p + 9 + 1)).toInt64) 218 0 0) (ω := ω) (n := n2) (p := p) (by omega)
          exact (congrArg (fun r => kI r _) e).trans rfl
        · have e := m_ofProp2 (Θ := Θ) (S := uF (uL S 234 (zA S 219 (4 * p + 9 + 2)).toInt64) 218 0 0) (ω := ω) (n := n2) (p := p) (by omega)
          exact (congrArg (fun r => kI r _) e).trans rfl
        · have e := m_ofProp3 (Θ := Θ) (S := uF (uL S 234 (zA S 219 (4 * p + 9 + 3)).toInt64) 218 0 0) (ω := ω) (n := n2) (p := p) (by omega)
          exact (congrArg (fun r => kI r _) e).trans rfl
    · refine fin_W fun n _ => ⟨2, S, ω, ?_, fun n2 => ⟨0, uF (uF S 218 0 0) 218 0 2, n2, ?_, rfl, fun h => absurd h (by decide), hC.thr.thr, hI.thr.thr⟩⟩
      · show W_prop Θ (gb Θ) (nI p) u (gb Θ + 234) (laz Θ S ω) n = _
        unfold W_prop F_X10_prop
        rw [c10w, c10, x_needProp_y hC hp, kV_v, if_neg (show ¬ u = 0 from notlit hu (j := 0) (by decide)), if_neg (show ¬ u = 1 from notlit hu (j := 1) (by decide)), if_neg (show ¬ u = 2 from notlit hu (j := 2) (by decide)), if_neg (show ¬ u = 3 from notlit hu (j := 3) (by decide))]
        exact wrI_x2 ns_ne
      · show F_X11_prop Θ (gb Θ + 218) (nI p) u (laz Θ S ω) n2 = _
        unfold F_X11_prop J_X11_prop_33 J_X11_prop_40 J_X11_prop_50
        rw [b218_0, d218, m_noProp_y (by exact hP.1) hP.2.1 hp, kI_v, d218, m_throwsIf0, kI_v, if_pos rfl, in_n (N := 4) (by decide) (by decide) hu, kI_v, if_pos rfl, d218, m_throwsIf1, kI_v, if_neg (by decide)]
  · refine fin_W fun n _ => ⟨1, S, ω, ?_, fun n2 => ⟨0, uF (uF S 218 0 0) 218 0 1, n2, ?_, rfl, fun h => absurd h (by decide), hC.thr.thr, hI.thr.thr⟩⟩
    · show W_prop Θ (gb Θ) v u (gb Θ + 234) (laz Θ S ω) n = _
      unfold W_prop F_X10_prop
      rw [c10w, c10, x_needProp_n hC hv, kV_x, wrI_x1]
    · show F_X11_prop Θ (gb Θ + 218) v u (laz Θ S ω) n2 = _
      unfold F_X11_prop J_X11_prop_40 J_X11_prop_50
      rw [b218_0, d218, m_noProp_n (by exact hP.1) hP.2.1 hv, kI_v, d218, m_throwsIf1, kI_v, if_neg (by decide)]
theorem pc7 (Θ : GP) : PC_7 Θ (gb Θ) (gb Θ + 218) (gb Θ + 234) (Inv Θ) := by
  intro v xs i hI
  obtain ⟨S, ω, rfl, hC, hI⟩ := hI
  have hP := hC.O
  show stW Θ _ _ (fun ω n => W_accused Θ (gb Θ) (xs (i + 1)) (xs (i + 2)) (gb Θ + 234) ω n) (fun ω n => F_X11_accused Θ (gb Θ + 218) (xs (i + 1)) (xs (i + 2)) ω n) _ _
  generalize xs (i + 1) = v
  generalize xs (i + 2) = u
  by_cases hv : ∃ s, s < cO' (zA S 219) ∧ v = nI s
  · obtain ⟨p, hp, rfl⟩ := hv
    have hr := CRa hC.1.2.1 hp
    by_cases hu : ∃ s, s < 4 ∧ u = nI s
    · obtain ⟨k, hk, rfl⟩ := hu
      refine fin_W fun n _ => ⟨0, uL S 234 (zA S 219 (4 * p + 41 + k)).toInt64, ω, ?_, fun n2 => ⟨zA S 219 (4 * p + 41 + k), uF (uL S 234 (zA S 219 (4 * p + 41 + k)).toInt64) 218 0 0, n2, ?_, rfl, fun _ => rfl, hC.nL.thr, hI.nL.thr⟩⟩
      · show W_accused Θ (gb Θ) (nI p) (nI k) (gb Θ + 234) (laz Θ S ω) n = _
        unfold W_accused F_X10_accused
        rw [c10w, c10, x_needOne_y hC hp, kV_v]
        rcases four hk with rfl | rfl | rfl | rfl
        · rw [if_pos (by decide), r10_0, a14_12, l_20 (by omega), wrI_v, hr.1]
        · rw [if_neg (by decide), if_pos (by decide), r10_0, a14_13, l_21 (by omega), wrI_v, hr.2.1]
        · rw [if_neg (by decide), if_neg (by decide), if_pos (by decide), r10_0, a14_14, l_22 (by omega), wrI_v, hr.2.2.1]
        · rw [if_neg (by decide), if_neg (by decide), if_neg (by decide), if_pos (by decide), r10_0, a14_15, l_23 (by omega), wrI_v, hr.2.2.2]
      · show F_X11_accused Θ (gb Θ + 218) (nI p) (nI k) (laz Θ _ ω) n2 = _
        unfold F_X11_accused J_X11_accused_33 J_X11_accused_50
        rw [b218_0, d218, m_noOne_y (by exact hP.1) hP.2.1 hp, kI_v, d218, m_throwsIf0, kI_v, if_pos rfl, in03_y hk, kI_v, if_neg (by decide), d218, m_throwsIf0, kI_v, if_pos rfl, d218]
        rcases four hk with rfl | rfl | rfl | rfl
        · have e := m_of0 (Θ := Θ) (S := uF (uL S 234 (zA S 219 (4 * p + 41 + 0)).toInt64) 218 0 0) (ω := ω) (n := n2) (p := p) (by omega)
          exact (congrArg (fun r => kI r _) e).trans rfl
        · have e := m_of1 (Θ := Θ) (S := uF (uL S 234 (zA S 219 (4 * p + 41 + 1)).toInt64) 218 0 0) (ω := ω) (n := n2) (p := p) (by omega)
          exact (congrArg (fun r => kI r _) e).trans rfl
        · have e := m_of2 (Θ := Θ) (S := uF (uL S 234 (zA S 219 (4 * p + 41 + 2)).toInt64) 218 0 0) (ω := ω) (n := n2) (p := p) (by omega)
          exact (congrArg (fun r => kI r _) e).trans rfl
        · have e := m_of3 (Θ := Θ) (S := uF (uL S 234 (zA S 219 (4 * p + 41 + 3)).toInt64) 218 0 0) (ω := ω) (n := n2) (p := p) (by omega)
          exact (congrArg (fun r => kI r _) e).trans rfl
    · refine fin_W fun n _ => ⟨2, S, ω, ?_, fun n2 => ⟨0, uF (uF S 218 0 0) 218 0 2, n2, ?_, rfl, fun h => absurd h (by decide), hC.thr.thr, hI.thr.thr⟩⟩
      · show W_accused Θ (gb Θ) (nI p) u (gb Θ + 234) (laz Θ S ω) n = _
        unfold W_accused F_X10_accused
        rw [c10w, c10, x_needOne_y hC hp, kV_v, if_neg (show ¬ u = 0 from notlit hu (j := 0) (by decide)), if_neg (show ¬ u = 1 from notlit hu (j := 1) (by decide)), if_neg (show ¬ u = 2 from notlit hu (j := 2) (by decide)), if_neg (show ¬ u = 3 from notlit hu (j := 3) (by decide))]
        exact wrI_x2 ns_ne
      · show F_X11_accused Θ (gb Θ + 218) (nI p) u (laz Θ S ω) n2 = _
        unfold F_X11_accused J_X11_accused_33 J_X11_accused_40 J_X11_accused_50
        rw [b218_0, d218, m_noOne_y (by exact hP.1) hP.2.1 hp, kI_v, d218, m_throwsIf0, kI_v, if_pos rfl, in_n (N := 4) (by decide) (by decide) hu, kI_v, if_pos rfl, d218, m_throwsIf1, kI_v, if_neg (by decide)]
  · refine fin_W fun n _ => ⟨1, S, ω, ?_, fun n2 => ⟨0, uF (uF S 218 0 0) 218 0 1, n2, ?_, rfl, fun h => absurd h (by decide), hC.thr.thr, hI.thr.thr⟩⟩
    · show W_accused Θ (gb Θ) v u (gb Θ + 234) (laz Θ S ω) n = _
      unfold W_accused F_X10_accused
      rw [c10w, c10, x_needOne_n hC hv, kV_x, wrI_x1]
    · show F_X11_accused Θ (gb Θ + 218) v u (laz Θ S ω) n2 = _
      unfold F_X11_accused J_X11_accused_40 J_X11_accused_50
      rw [b218_0, d218, m_noOne_n (by exact hP.1) hP.2.1 hv, kI_v, d218, m_throwsIf1, kI_v, if_neg (by decide)]
