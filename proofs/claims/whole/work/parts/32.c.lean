/-! promise 49: count -/
section CN
variable {Θ : GP} {S : PZ} {ω : OW} {n : Nat}
theorem cnt_out {v : Int32} (hv : ¬ ∃ k, k < 15 ∧ v = nI k) : cntS S v = -1 := by
  unfold cntS
  rw [if_neg (show ¬ v = 0 from notlit hv (j := 0) (by decide)), if_neg (show ¬ v = 1 from notlit hv (j := 1) (by decide)), if_neg (show ¬ v = 2 from notlit hv (j := 2) (by decide)), if_neg (show ¬ v = 3 from notlit hv (j := 3) (by decide)), if_neg (show ¬ v = 4 from notlit hv (j := 4) (by decide)), if_neg (show ¬ v = 5 from notlit hv (j := 5) (by decide)), if_neg (show ¬ v = 6 from notlit hv (j := 6) (by decide)), if_neg (show ¬ v = 7 from notlit hv (j := 7) (by decide)), if_neg (fun h => h.elim (fun h => notlit hv (j := 8) (by decide) h) (fun h => h.elim (fun h => notlit hv (j := 9) (by decide) h) (fun h => h.elim (fun h => notlit hv (j := 10) (by decide) h) (fun h => notlit hv (j := 11) (by decide) h)))), if_neg (show ¬ v = 12 from notlit hv (j := 12) (by decide)), if_neg (show ¬ v = 13 from notlit hv (j := 13) (by decide)), if_neg (show ¬ v = 14 from notlit hv (j := 14) (by decide))]
theorem Core.acts (hC : Core Θ S ω) : zF S 50 0 = zF S 218 7 := by
  obtain ⟨A, fr, _, _, h3, _, h5, _⟩ := hC.2.2.2.2.2
  rw [h3, h5]
theorem x_count (hC : Core Θ S ω) (v : Int32) : F_X10_count Θ (gb Θ) v (laz Θ S ω) n = some (.inl (some (.int (cntS S v)), laz Θ S ω, n)) := by
  by_cases hv : ∃ k, k < 15 ∧ v = nI k
  · unfold F_X10_count
    rcases eq15 hv with rfl | rfl | rfl | rfl | rfl | rfl | rfl | rfl | rfl | rfl | rfl | rfl | rfl | rfl | rfl
    · rw [if_pos rfl, r10_0, a14_0, hC.1.2.1.1.1]
      rfl
    · rw [if_neg (by decide), if_pos rfl, r10_0, a14_1, hC.1.2.1.1.2.1]
      rfl
    · rw [if_neg (by decide), if_neg (by decide), if_pos rfl, r10_0, a14_2, hC.1.2.1.1.2.2.1]
      rfl
    · obtain ⟨lw, ⟨ak, aa, as, ac, lk, ll, ls, lc, sf, cf, ⟨e1, _⟩, ⟨n1, _⟩, _⟩, hM⟩ := hC.1.2.2
      rw [if_neg (by decide), if_neg (by decide), if_neg (by decide), if_pos rfl, r10_0, a14_17, o_rI e1 n1 rfl]
      unfold J_X10_count_127
      rcases hM.2.1 with h | h
      · rw [h, if_pos rfl]
        show _ = (some (.inl (some (.int (if zA S 219 3 = 1 then zA S 219 305 else -1)), laz Θ S ω, n)) : RO)
        rw [h, if_neg (by decide)]
      · rw [h, if_neg (by decide), r10_0, a14_17, o_rI e1 n1 rfl]
        show _ = (some (.inl (some (.int (if zA S 219 3 = 1 then zA S 219 305 else -1)), laz Θ S ω, n)) : RO)
        rw [h, if_pos rfl, hM.2.2.2.1 h]
    · rw [if_neg (by decide), if_neg (by decide), if_neg (by decide), if_neg (by decide), if_pos rfl, r10_0, a14_5, hC.1.2.1.1.2.2.2.2.2.1]
      rfl
    · rw [if_neg (by decide), if_neg (by decide), if_neg (by decide), if_neg (by decide), if_neg (by decide), if_pos rfl, r10_0, a14_3, hC.1.2.1.1.2.2.2.1]
      rfl
    · rw [if_neg (by decide), if_neg (by decide), if_neg (by decide), if_neg (by decide), if_neg (by decide), if_neg (by decide), if_pos rfl, r10_0, a14_4, hC.1.2.1.1.2.2.2.2.1]
      rfl
    · rw [if_neg (by decide), if_neg (by decide), if_neg (by decide), if_neg (by decide), if_neg (by decide), if_neg (by decide), if_neg (by decide), if_pos rfl, c10, x_slotsWithProp hC.1.2.1 hC.P.2.2 hC.P.2.1 rfl hC.1.1, kI_v]
      rfl
    · rw [if_neg (by decide), if_neg (by decide), if_neg (by decide), if_neg (by decide), if_neg (by decide), if_neg (by decide), if_neg (by decide), if_neg (by decide), if_pos rfl]
      unfold J_X10_count_157
      rw [r10_0, d14, x_peopleOf hC.1.2.1 hC.O.2.2 hC.O.2.1 rfl, kI_v]
      rfl
    · rw [if_neg (by decide), if_neg (by decide), if_neg (by decide), if_neg (by decide), if_neg (by decide), if_neg (by decide), if_neg (by decide), if_neg (by decide), if_neg (by decide), if_pos rfl]
      unfold J_X10_count_157
      rw [r10_0, d14, x_peopleOf hC.1.2.1 hC.O.2.2 hC.O.2.1 rfl, kI_v]
      rfl
    · rw [if_neg (by decide), if_neg (by decide), if_neg (by decide), if_neg (by decide), if_neg (by decide), if_neg (by decide), if_neg (by decide), if_neg (by decide), if_neg (by decide), if_neg (by decide), if_pos rfl]
      unfold J_X10_count_157
      rw [r10_0, d14, x_peopleOf hC.1.2.1 hC.O.2.2 hC.O.2.1 rfl, kI_v]
      rfl
    · rw [if_neg (by decide), if_neg (by decide), if_neg (by decide), if_neg (by decide), if_neg (by decide), if_neg (by decide), if_neg (by decide), if_neg (by decide), if_neg (by decide), if_neg (by decide), if_neg (by decide), if_pos rfl]
      unfold J_X10_count_157
      rw [r10_0, d14, x_peopleOf hC.1.2.1 hC.O.2.2 hC.O.2.1 rfl, kI_v]
      rfl
    · rw [if_neg (by decide), if_neg (by decide), if_neg (by decide), if_neg (by decide), if_neg (by decide), if_neg (by decide), if_neg (by decide), if_neg (by decide), if_neg (by decide), if_neg (by decide), if_neg (by decide), if_neg (by decide), if_pos rfl, c10, x_wornTogether hC.1.2.1 hC.P.2.2 hC.P.2.1 rfl hC.1.1, kI_v]
      rfl
    · rw [if_neg (by decide), if_neg (by decide), if_neg (by decide), if_neg (by decide), if_neg (by decide), if_neg (by decide), if_neg (by decide), if_neg (by decide), if_neg (by decide), if_neg (by decide), if_neg (by decide), if_neg (by decide), if_neg (by decide), if_pos rfl, r10_0, a14_16, a24_0, hC.1.2.1.2.2.2.2.1]
      rfl
    · rw [if_neg (by decide), if_neg (by decide), if_neg (by decide), if_neg (by decide), if_neg (by decide), if_neg (by decide), if_neg (by decide), if_neg (by decide), if_neg (by decide), if_neg (by decide), if_neg (by decide), if_neg (by decide), if_neg (by decide), if_neg (by decide), if_pos rfl, r10_4, a50_0, hC.acts]
      rfl
  · rw [cnt_out hv]
    unfold F_X10_count
    rw [if_neg (show ¬ v = 0 from notlit hv (j := 0) (by decide)), if_neg (show ¬ v = 1 from notlit hv (j := 1) (by decide)), if_neg (show ¬ v = 2 from notlit hv (j := 2) (by decide)), if_neg (show ¬ v = 3 from notlit hv (j := 3) (by decide)), if_neg (show ¬ v = 4 from notlit hv (j := 4) (by decide)), if_neg (show ¬ v = 5 from notlit hv (j := 5) (by decide)), if_neg (show ¬ v = 6 from notlit hv (j := 6) (by decide)), if_neg (show ¬ v = 7 from notlit hv (j := 7) (by decide)), if_neg (show ¬ v = 8 from notlit hv (j := 8) (by decide)), if_neg (show ¬ v = 9 from notlit hv (j := 9) (by decide)), if_neg (show ¬ v = 10 from notlit hv (j := 10) (by decide)), if_neg (show ¬ v = 11 from notlit hv (j := 11) (by decide)), if_neg (show ¬ v = 12 from notlit hv (j := 12) (by decide)), if_neg (show ¬ v = 13 from notlit hv (j := 13) (by decide)), if_neg (show ¬ v = 14 from notlit hv (j := 14) (by decide))]
theorem m_count {P O : Nat} (hP : zA S 219 0 = nI P) (hP8 : P ≤ 8) (hO : zA S 219 1 = nI O) (hO6 : O ≤ 6) (h1 : P = cP (zA S 219)) (h2 : O = cO' (zA S 219)) (v : Int32) : F_X11_count Θ (gb Θ + 218) v (laz Θ S ω) n = some (.inl (some (.int (cntS S v)), laz Θ (uF S 218 0 0) ω, n)) := by
  by_cases hv : ∃ k, k < 15 ∧ v = nI k
  · unfold F_X11_count
    rw [b218_0]
    rcases eq15 hv with rfl | rfl | rfl | rfl | rfl | rfl | rfl | rfl | rfl | rfl | rfl | rfl | rfl | rfl | rfl
    · rw [if_neg (by decide), if_neg (by decide), if_neg (by decide), if_neg (by decide), if_neg (by decide), if_neg (by decide), if_neg (by decide), if_neg (by decide), if_neg (by decide), if_neg (by decide), if_neg (by decide), if_neg (by decide)]
      unfold J_X11_count_123 J_X11_count_143
      rw [m_in1 (by decide), kI_v, if_neg (by decide), a218_1]
      have e := l_219 (Θ := Θ) (S := uF S 218 0 0) (ω := ω) (i := 0) (kk := fun x4 => some (.inl (some (.int x4), laz Θ (uF S 218 0 0) ω, n))) (by decide)
      exact e
    · rw [if_neg (by decide), if_neg (by decide), if_neg (by decide), if_neg (by decide), if_neg (by decide), if_neg (by decide), if_neg (by decide), if_neg (by decide), if_neg (by decide), if_neg (by decide), if_neg (by decide), if_neg (by decide)]
      unfold J_X11_count_123 J_X11_count_143
      rw [m_in1 (by decide), kI_v, if_neg (by decide), a218_1]
      have e := l_219 (Θ := Θ) (S := uF S 218 0 0) (ω := ω) (i := 1) (kk := fun x4 => some (.inl (some (.int x4), laz Θ (uF S 218 0 0) ω, n))) (by decide)
      exact e
    · rw [if_neg (by decide), if_neg (by decide), if_neg (by decide), if_neg (by decide), if_neg (by decide), if_neg (by decide), if_neg (by decide), if_neg (by decide), if_neg (by decide), if_neg (by decide), if_neg (by decide), if_neg (by decide)]
      unfold J_X11_count_123 J_X11_count_143
      rw [m_in1 (by decide), kI_v, if_neg (by decide), a218_1]
      have e := l_219 (Θ := Θ) (S := uF S 218 0 0) (ω := ω) (i := 2) (kk := fun x4 => some (.inl (some (.int x4), laz Θ (uF S 218 0 0) ω, n))) (by decide)
      exact e
    · rw [if_pos rfl, a218_1, lI_lit, l_219 (by decide)]
      unfold J_X11_count_90
      show (if zA S 219 3 = 1 then _ else _) = (some (.inl (some (.int (if zA S 219 3 = 1 then zA S 219 305 else -1)), _, n)) : RO)
      by_cases h : zA S 219 3 = 1
      · rw [if_pos h, if_pos h, a218_1, lI_lit, l_219 (by decide)]
        rfl
      · rw [if_neg h, if_neg h]
    · rw [if_neg (by decide), if_pos rfl]
      unfold J_X11_count_123 J_X11_count_143
      rw [m_in1 (by decide), kI_v, if_neg (by decide), a218_1]
      have e := l_219 (Θ := Θ) (S := uF S 218 0 0) (ω := ω) (i := 4) (kk := fun x4 => some (.inl (some (.int x4), laz Θ (uF S 218 0 0) ω, n))) (by decide)
      exact e
    · rw [if_neg (by decide), if_neg (by decide), if_pos rfl]
      unfold J_X11_count_123 J_X11_count_143
      rw [m_in1 (by decide), kI_v, if_neg (by decide), a218_1]
      have e := l_219 (Θ := Θ) (S := uF S 218 0 0) (ω := ω) (i := 5) (kk := fun x4 => some (.inl (some (.int x4), laz Θ (uF S 218 0 0) ω, n))) (by decide)
      exact e
    · rw [if_neg (by decide), if_neg (by decide), if_neg (by decide), if_pos rfl]
      unfold J_X11_count_123 J_X11_count_143
      rw [m_in1 (by decide), kI_v, if_neg (by decide), a218_1]
      have e := l_219 (Θ := Θ) (S := uF S 218 0 0) (ω := ω) (i := 6) (kk := fun x4 => some (.inl (some (.int x4), laz Θ (uF S 218 0 0) ω, n))) (by decide)
      exact e
    · rw [if_neg (by decide), if_neg (by decide), if_neg (by decide), if_neg (by decide), if_pos rfl, d218, m_slotsWithProps (by exact hP) hP8, kI_v]
      rfl
    · rw [if_neg (by decide), if_neg (by decide), if_neg (by decide), if_neg (by decide), if_neg (by decide), if_pos rfl]
      unfold J_X11_count_96
      rw [d218, m_ofState (by exact hO) hO6, kI_v, h2]
      rfl
    · rw [if_neg (by decide), if_neg (by decide), if_neg (by decide), if_neg (by decide), if_neg (by decide), if_neg (by decide), if_pos rfl]
      unfold J_X11_count_96
      rw [d218, m_ofState (by exact hO) hO6, kI_v, h2]
      rfl
    · rw [if_neg (by decide), if_neg (by decide), if_neg (by decide), if_neg (by decide), if_neg (by decide), if_neg (by decide), if_neg (by decide), if_pos rfl]
      unfold J_X11_count_96
      rw [d218, m_ofState (by exact hO) hO6, kI_v, h2]
      rfl
    · rw [if_neg (by decide), if_neg (by decide), if_neg (by decide), if_neg (by decide), if_neg (by decide), if_neg (by decide), if_neg (by decide), if_neg (by decide), if_pos rfl]
      unfold J_X11_count_96
      rw [d218, m_ofState (by exact hO) hO6, kI_v, h2]
      rfl
    · rw [if_neg (by decide), if_neg (by decide), if_neg (by decide), if_neg (by decide), if_neg (by decide), if_neg (by decide), if_neg (by decide), if_neg (by decide), if_neg (by decide), if_pos rfl, d218, m_wornOfAll (by exact hP) hP8, kI_v, h1]
      rfl
    · rw [if_neg (by decide), if_neg (by decide), if_neg (by decide), if_neg (by decide), if_neg (by decide), if_neg (by decide), if_neg (by decide), if_neg (by decide), if_neg (by decide), if_neg (by decide), if_pos rfl, a218_1, lI_lit, l_219 (by decide)]
      rfl
    · rw [if_neg (by decide), if_neg (by decide), if_neg (by decide), if_neg (by decide), if_neg (by decide), if_neg (by decide), if_neg (by decide), if_neg (by decide), if_neg (by decide), if_neg (by decide), if_neg (by decide), if_pos rfl, a218_7]
      rfl
  · rw [cnt_out hv]
    unfold F_X11_count J_X11_count_123 J_X11_count_143
    rw [b218_0, if_neg (show ¬ v = 3 from notlit hv (j := 3) (by decide)), if_neg (show ¬ v = 4 from notlit hv (j := 4) (by decide)), if_neg (show ¬ v = 5 from notlit hv (j := 5) (by decide)), if_neg (show ¬ v = 6 from notlit hv (j := 6) (by decide)), if_neg (show ¬ v = 7 from notlit hv (j := 7) (by decide)), if_neg (show ¬ v = 8 from notlit hv (j := 8) (by decide)), if_neg (show ¬ v = 9 from notlit hv (j := 9) (by decide)), if_neg (show ¬ v = 10 from notlit hv (j := 10) (by decide)), if_neg (show ¬ v = 11 from notlit hv (j := 11) (by decide)), if_neg (show ¬ v = 12 from notlit hv (j := 12) (by decide)), if_neg (show ¬ v = 13 from notlit hv (j := 13) (by decide)), if_neg (show ¬ v = 14 from notlit hv (j := 14) (by decide)), m_in0 ?_, kI_v, if_pos rfl]
    rcases q_out (P := 7) (by decide) (fun ⟨k, h, e⟩ => hv ⟨k, by omega, e⟩) with q | ⟨_, q⟩
    · exact Or.inl q
    · exact Or.inr ((q_pred (P := 7) (by decide)).mpr q)
end CN
theorem pc47 (Θ : GP) : PC_47 Θ (gb Θ) (gb Θ + 218) (gb Θ + 234) (Inv Θ) := by
  intro v xs i hI
  obtain ⟨S, ω, rfl, hC, hI⟩ := hI
  exact fin_I fun n _ => ⟨cntS S (xs (i + 1)), S, ω, n, x_count hC _, fun n2 => ⟨uF S 218 0 0, n2, m_count hC.P.1 hC.P.2.1 hC.O.1 hC.O.2.1 rfl rfl _, hC.thr, hI.thr⟩⟩
