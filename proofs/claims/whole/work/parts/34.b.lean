theorem Bec.idle {Θ : GP} {S S' : PZ} {c d : Nat} (h : Bec S S' c d) (hc : c + 12 ≤ 196) (hI : Idle Θ S) : Idle Θ S' := by
  obtain ⟨b1, b2, b3, b4, b5, b6, b7, b8, b9, b10, b11⟩ := h
  obtain ⟨h1, h2, h3, h4⟩ := hI
  refine ⟨by rw [b10 214 4 (by omega), b10 214 5 (by omega)]; exact h1, by rw [b8 216 (by omega), b8 217 (by omega), b8 200 (by omega)]; exact h2, by rw [b3 218 23 (by omega) (by omega)]; exact h3, by rw [b3 218 24 (by omega) (by omega)]; exact h4⟩
theorem pc46 (Θ : GP) : PC_46 Θ (gb Θ) (gb Θ + 218) (gb Θ + 234) (Inv Θ) := by
  intro v xs i hI
  obtain ⟨S, ω, rfl, hC, hI⟩ := hI
  obtain ⟨k1, k2, k3⟩ := hC.2.2.2.2.1
  rcases k2 with h0 | h0
  · refine fin_I fun n _ => ⟨0, S, ω, n, ?_, fun n2 => ⟨uF S 218 0 0, n2, ?_, hC.thr, hI.thr⟩⟩
    · show F_X10_back Θ (gb Θ) (laz Θ S ω) n = _
      unfold F_X10_back
      rw [r10_3, k1, h0, if_pos rfl]
    · show F_X11_back Θ (gb Θ + 218) (laz Θ S ω) n2 = _
      unfold F_X11_back
      rw [b218_0, a218_6, show zF (uF S 218 0 0) 218 6 = 0 from h0, if_pos rfl]
  · obtain ⟨w1, w2, lw, w3⟩ := k3 h0
    refine fin_I fun n _ => ?_
    obtain ⟨S0, e0, hb⟩ := x_become (Θ := Θ) (S := S) (ω := ω) (n := n) (c := 14) (d := 38) (by decide) (by decide) (by omega)
    have hb' := hb
    obtain ⟨b1, b2, b3, b4, b5, b6, b7, b8, b9, b10, b11⟩ := hb'
    refine ⟨1, uF S0 50 0 0, ω, n, ?_, fun n2 => ⟨uF (uA (uF (uF S0 50 0 0) 218 0 0) 219 (cpF (zA S 220) (zA S 219) 0 1154)) 218 7 0, n2, ?_, ?_, ?_⟩⟩
    · show F_X10_back Θ (gb Θ) (laz Θ S ω) n = _
      unfold F_X10_back F_X5_forget
      rw [r10_3, k1, h0, if_neg (by decide), r10_0, r10_2, d14, e0, kV_v, r10_4, d50, b50_0, kV_v]
    · show F_X11_back Θ (gb Θ + 218) (laz Θ _ ω) n2 = _
      unfold F_X11_back
      have e6 : zF (uF (uF S0 50 0 0) 218 0 0) 218 6 = 1 := (b3 218 6 (by omega) (by omega)).trans h0
      rw [b218_0, a218_6, e6, if_neg (by decide)]
      have e := m_back_L (Θ := Θ) (S := uF (uF S0 50 0 0) 218 0 0) (ω := ω) (n := n2) 1154 0 5000 (zA S0 219) (by omega) (by omega)
      rw [show uA (uF (uF S0 50 0 0) 218 0 0) 219 (zA S0 219) = uF (uF S0 50 0 0) 218 0 0 from uA_self (uF (uF S0 50 0 0) 218 0 0) 219] at e
      rw [show zA (uF (uF S0 50 0 0) 218 0 0) 220 = zA S 220 from b8 220 (by omega), b8 219 (by omega)] at e
      exact e
    · obtain ⟨⟨a1, a2, lw', a3⟩, ⟨len, l1, l2, l3⟩, c1, d1, _, A, fr, f1, f2, f3, f4, f5, f6⟩ := hC
      have zf : ∀ k j, k ≠ 14 → k ≠ 24 → ¬ (k = 50 ∧ j = 0) → ¬ (k = 218 ∧ (j = 0 ∨ j = 7)) → zF (uF (uA (uF (uF S0 50 0 0) 218 0 0) 219 (cpF (zA S 220) (zA S 219) 0 1154)) 218 7 0) k j = zF S k j := by
        intro k j q1 q2 q3 q4
        rw [zF_uF, if_neg (by omega), zF_uA, zF_uF, if_neg (by omega), zF_uF, if_neg q3, b3 k j q1 q2]
      have za : ∀ k, k < 14 ∨ 26 ≤ k → k ≠ 219 → zA (uF (uA (uF (uF S0 50 0 0) 218 0 0) 219 (cpF (zA S 220) (zA S 219) 0 1154)) 218 7 0) k = zA S k := by
        intro k q1 q2
        rw [zA_uF, zA_uA, if_neg q2, zA_uF, zA_uF, b8 k (by omega)]
      have z219 : ∀ k, k < 1154 → zA (uF (uA (uF (uF S0 50 0 0) 218 0 0) 219 (cpF (zA S 220) (zA S 219) 0 1154)) 218 7 0) 219 k = zA S 220 k := by
        intro k q
        rw [zA_uF, zA_uA, if_pos rfl]
        unfold cpF
        rw [if_pos ⟨Nat.zero_le _, q⟩]
      have zc : ∀ k, 14 ≤ k → k < 26 → zA (uF (uA (uF (uF S0 50 0 0) 218 0 0) 219 (cpF (zA S 220) (zA S 219) 0 1154)) 218 7 0) k = zA S0 k := by
        intro k q1 q2
        rw [zA_uF, zA_uA, if_neg (by omega), zA_uF, zA_uF]
      have zfc : ∀ k j, 14 ≤ k → k < 26 → zF (uF (uA (uF (uF S0 50 0 0) 218 0 0) 219 (cpF (zA S 220) (zA S 219) 0 1154)) 218 7 0) k j = zF S0 k j := by
        intro k j q1 q2
        rw [zF_uF, if_neg (by omega), zF_uA, zF_uF, if_neg (by omega), zF_uF, if_neg (by omega)]
      have zr : ∀ k j, k ≠ 14 → zR (uF (uA (uF (uF S0 50 0 0) 218 0 0) 219 (cpF (zA S 220) (zA S 219) 0 1154)) 218 7 0) k j = zR S k j := b10
      have zrc : zR (uF (uA (uF (uF S0 50 0 0) 218 0 0) 219 (cpF (zA S 220) (zA S 219) 0 1154)) 218 7 0) 14 17 = zR S 38 17 := b9
      have z50 : zF (uF (uA (uF (uF S0 50 0 0) 218 0 0) 219 (cpF (zA S 220) (zA S 219) 0 1154)) 218 7 0) 50 0 = nI 0 := rfl
      have z07 : zF (uF (uA (uF (uF S0 50 0 0) 218 0 0) 219 (cpF (zA S 220) (zA S 219) 0 1154)) 218 7 0) 218 7 = nI 0 := rfl
      generalize uF (uA (uF (uF S0 50 0 0) 218 0 0) 219 (cpF (zA S 220) (zA S 219) 0 1154)) 218 7 0 = S2 at zf za z219 zc zfc zr zrc z50 z07 ⊢
      refine ⟨⟨w1.wc (fun k hk => z219 k (by omega)), ((w2.bec w1 hb).congr (fun k j p q => zfc k j (by omega) (by omega)) (fun k p q => zc k (by omega) (by omega))).wc (fun k hk => z219 k (by omega)) w1, lw, by rw [zrc]; exact w3.wc z219⟩, ⟨len, l1, by rw [zf 1 0 (by omega) (by omega) (by omega) (by omega)]; exact l2, by rw [zf 218 9 (by omega) (by omega) (by omega) (by omega)]; exact l3⟩, by rw [za 224 (by omega) (by decide), za 2 (by omega) (by decide)]; exact c1, by rw [zf 0 14 (by omega) (by omega) (by omega) (by omega), zf 218 14 (by omega) (by omega) (by omega) (by omega)]; exact d1, ⟨by rw [zf 0 3 (by omega) (by omega) (by omega) (by omega), zf 218 6 (by omega) (by omega) (by omega) (by omega)]; exact k1, by rw [zf 218 6 (by omega) (by omega) (by omega) (by omega)]; exact Or.inr h0, fun _ => ⟨by rw [za 220 (by omega) (by decide)]; exact w1, by rw [za 220 (by omega) (by decide)]; exact w2.congr (fun k j p q => zf k j (by omega) (by omega) (by omega) (by omega)) (fun k p q => za k (by omega) (by omega)), lw, by rw [za 220 (by omega) (by decide), zr 38 17 (by decide)]; exact w3⟩⟩, 0, fr, by omega, f2, z50, by rw [zf 50 1 (by omega) (by omega) (by omega) (by omega)]; exact f4, z07, fun i hi => by omega⟩
    · exact ((((hb.idle (by omega) hI).nF (by omega)).nF (by omega)).nA (by omega)).nF (by omega)
theorem pc44 (Θ : GP) : PC_44 Θ (gb Θ) (gb Θ + 218) (gb Θ + 234) (Inv Θ) := by
  intro v xs i hI
  obtain ⟨S, ω, rfl, hC, hI⟩ := hI
  obtain ⟨A, fr, f1, f2, f3, f4, f5, f6⟩ := hC.2.2.2.2.2
  by_cases h0 : A = 0
  · subst h0
    refine fin_I fun n _ => ⟨0, S, ω, n, ?_, fun n2 => ⟨uF S 218 0 0, n2, ?_, hC.thr, hI.thr⟩⟩
    · show F_X10_undo Θ (gb Θ) (laz Θ S ω) n = _
      unfold F_X10_undo F_X5_takeBack
      rw [r10_4, r10_0, d50, a50_0, f3, if_pos (by decide), kI_v, bz_0]
    · show F_X11_undo Θ (gb Θ + 218) (laz Θ S ω) n2 = _
      unfold F_X11_undo
      rw [b218_0, a218_7, show zF (uF S 218 0 0) 218 7 = nI 0 from f5, if_pos (by decide)]
  · have hr : (fr + 11) % 12 < 12 := Nat.mod_lt _ (by decide)
    have hr' : (fr + 12 - A + (A - 1)) % 12 = (fr + 11) % 12 := by congr 1; omega
    have h6 := f6 (A - 1) (by omega)
    rw [hr'] at h6
    obtain ⟨w1, w2, w3, w4⟩ := h6
    have hne : ¬ nI A = 0 := fun z => h0 ((nI_eq (b := 0) (by omega) (by omega)).mp z)
    refine fin_I fun n _ => ?_
    obtain ⟨S0, e0, hb⟩ := x_become (Θ := Θ) (S := uF (uF S 50 1 (nI ((fr + 11) % 12))) 50 0 (nI (A - 1))) (ω := ω) (n := n) (c := 14) (d := 52 + 12 * ((fr + 11) % 12)) (by decide) (cts_at hr) (by omega)
    have hb' := hb
    obtain ⟨b1, b2, b3, b4, b5, b6, b7, b8, b9, b10, b11⟩ := hb'
    refine ⟨1, S0, ω, n, ?_, fun n2 => ⟨uA (uF (uF S0 218 0 0) 218 7 (nI (A - 1))) 219 (pastW S (A - 1)), n2, ?_, ?_, ?_⟩⟩
    · show F_X10_undo Θ (gb Θ) (laz Θ S ω) n = _
      unfold F_X10_undo F_X5_takeBack
      have e5 : nI fr + 12 - 1 - (nI fr + 12 - 1) / 12 * 12 = nI ((fr + 11) % 12) := by
        have e : nI fr + 12 - 1 = nI (fr + 11) := by
          show nI fr + nI 12 - nI 1 = _
          rw [nI_add, nI_sub (by omega)]
          congr 1
        rw [e]
        exact nI_rem (k := 12) (by omega) (by omega)
      have g0 : zF (uF S 50 1 (nI ((fr + 11) % 12))) 50 0 = nI A := f3
      have g1 : zF (uF (uF S 50 1 (nI ((fr + 11) % 12))) 50 0 (nI (A - 1))) 50 1 = nI ((fr + 11) % 12) := rfl
      rw [r10_4, r10_0, d50, a50_0, f3, if_neg hne, a50_1, f4, e5, b50_1, a50_0, g0, show nI A - 1 = nI (A - 1) from nI_sub (b := 1) (by omega), b50_0, a50_2, a50_1, g1, z_lA hr, d14, e0, kV_v, kI_v, bz_1]
    · show F_X11_undo Θ (gb Θ + 218) (laz Θ S0 ω) n2 = _
      unfold F_X11_undo
      have g7 : zF S0 218 7 = nI A := (b3 218 7 (by omega) (by omega)).trans f5
      have g7' : zF (uF S0 218 0 0) 218 7 = nI A := g7
      rw [b218_0, a218_7, g7', if_neg hne, a218_7, g7', show nI A - 1 = nI (A - 1) from nI_sub (b := 1) (by omega), b218_7]
      have e := m_undo_L (Θ := Θ) (S := uF (uF S0 218 0 0) 218 7 (nI (A - 1))) (ω := ω) (n := n2) (B := A - 1) rfl (by omega) 305 0 5000 (zA S0 219) (by omega) (by omega)
      rw [show uA (uF (uF S0 218 0 0) 218 7 (nI (A - 1))) 219 (zA S0 219) = uF (uF S0 218 0 0) 218 7 (nI (A - 1)) from uA_self (uF (uF S0 218 0 0) 218 7 (nI (A - 1))) 219] at e
      refine e.trans ?_
      congr 6
      funext j
      unfold cpF pastW
      rw [show zA (uF (uF S0 218 0 0) 218 7 (nI (A - 1))) 223 = zA S 223 from b8 223 (by omega), show zA S0 219 = zA S 219 from b8 219 (by omega)]
      by_cases hj : j < 305
      · rw [if_pos ⟨Nat.zero_le _, hj⟩, if_pos hj]
      · rw [if_neg (by omega), if_neg hj]
    · obtain ⟨⟨a1, a2, lw, a3⟩, ⟨len, l1, l2, l3⟩, c1, d1, ⟨k1, k2, k3⟩, _⟩ := hC
      have zf : ∀ k j, k ≠ 14 → k ≠ 24 → k ≠ 50 → ¬ (k = 218 ∧ (j = 0 ∨ j = 7)) → zF (uA (uF (uF S0 218 0 0) 218 7 (nI (A - 1))) 219 (pastW S (A - 1))) k j = zF S k j := by
        intro k j q1 q2 q3 q4
        rw [zF_uA, zF_uF, if_neg (by omega), zF_uF, if_neg (by omega), b3 k j q1 q2, zF_uF, if_neg (by omega), zF_uF, if_neg (by omega)]
      have za : ∀ k, k < 14 ∨ 26 ≤ k → k ≠ 219 → zA (uA (uF (uF S0 218 0 0) 218 7 (nI (A - 1))) 219 (pastW S (A - 1))) k = zA S k := by
        intro k q1 q2
        rw [zA_uA, if_neg q2, zA_uF, zA_uF, b8 k (by omega), zA_uF, zA_uF]
      have z219 : zA (uA (uF (uF S0 218 0 0) 218 7 (nI (A - 1))) 219 (pastW S (A - 1))) 219 = pastW S (A - 1) := by
        rw [zA_uA, if_pos rfl]
      have zc : ∀ k, 14 ≤ k → k < 26 → zA (uA (uF (uF S0 218 0 0) 218 7 (nI (A - 1))) 219 (pastW S (A - 1))) k = zA S0 k := by
        intro k q1 q2
        rw [zA_uA, if_neg (by omega), zA_uF, zA_uF]
      have zfc : ∀ k j, 14 ≤ k → k < 26 → zF (uA (uF (uF S0 218 0 0) 218 7 (nI (A - 1))) 219 (pastW S (A - 1))) k j = zF S0 k j := by
        intro k j q1 q2
        rw [zF_uA, zF_uF, if_neg (by omega), zF_uF, if_neg (by omega)]
      have zr : ∀ k j, k ≠ 14 → zR (uA (uF (uF S0 218 0 0) 218 7 (nI (A - 1))) 219 (pastW S (A - 1))) k j = zR S k j := b10
      have zrc : zR (uA (uF (uF S0 218 0 0) 218 7 (nI (A - 1))) 219 (pastW S (A - 1))) 14 17 = zR S 14 17 := b9.trans w3
      have z50 : zF (uA (uF (uF S0 218 0 0) 218 7 (nI (A - 1))) 219 (pastW S (A - 1))) 50 0 = nI (A - 1) := (b3 50 0 (by omega) (by omega)).trans rfl
      have z51 : zF (uA (uF (uF S0 218 0 0) 218 7 (nI (A - 1))) 219 (pastW S (A - 1))) 50 1 = nI ((fr + 11) % 12) := (b3 50 1 (by omega) (by omega)).trans rfl
      have z07 : zF (uA (uF (uF S0 218 0 0) 218 7 (nI (A - 1))) 219 (pastW S (A - 1))) 218 7 = nI (A - 1) := rfl
      have hcr : CR S0 14 (pastW S (A - 1)) := (CR.congr (S := S) (S' := uF (uF S 50 1 (nI ((fr + 11) % 12))) 50 0 (nI (A - 1))) (fun k j p q => by rw [zF_uF, if_neg (by omega), zF_uF, if_neg (by omega)]) (fun k p q => rfl) w2).bec w1 hb
      generalize uA (uF (uF S0 218 0 0) 218 7 (nI (A - 1))) 219 (pastW S (A - 1)) = S2 at zf za z219 zc zfc zr zrc z50 z51 z07 ⊢
      have x23 : zA S2 223 = zA S 223 := za 223 (by omega) (by decide)
      have w5 : ∀ k, 305 ≤ k ∨ k = 3 → pastW S (A - 1) k = zA S 219 k := by
        intro k hk
        rcases hk with hk | rfl
        · unfold pastW; rw [if_neg (by omega)]
        · exact w4
      have hp : ∀ i, pastW S2 i = pastW S i := fun i => by
        funext k
        unfold pastW
        rw [z219, x23]
        split
        · rfl
        · exact w5 k (Or.inl (by omega))
      have cr : ∀ {c : Nat} {w : Nat → Int32}, (26 ≤ c ∧ c + 12 ≤ 50 ∨ (52 ≤ c ∧ c + 12 ≤ 196)) → CR S c w → CR S2 c w := fun h1 z => z.congr (fun k j p q => zf k j (by omega) (by omega) (by omega) (by omega)) (fun k p q => za k (by omega) (by omega))
      refine ⟨⟨by rw [z219]; exact w1, by rw [z219]; exact hcr.congr (fun k j p q => zfc k j (by omega) (by omega)) (fun k p q => zc k (by omega) (by omega)), lw, by rw [z219, zrc]; exact a3.congr w5⟩, ⟨len, l1, by rw [zf 1 0 (by omega) (by omega) (by omega) (by omega)]; exact l2, by rw [zf 218 9 (by omega) (by omega) (by omega) (by omega)]; exact l3⟩, by rw [za 224 (by omega) (by decide), za 2 (by omega) (by decide)]; exact c1, by rw [zf 0 14 (by omega) (by omega) (by omega) (by omega), zf 218 14 (by omega) (by omega) (by omega) (by omega)]; exact d1, ⟨by rw [zf 0 3 (by omega) (by omega) (by omega) (by omega), zf 218 6 (by omega) (by omega) (by omega) (by omega)]; exact k1, by rw [zf 218 6 (by omega) (by omega) (by omega) (by omega)]; exact k2, ?_⟩, A - 1, (fr + 11) % 12, by omega, hr, z50, z51, z07, ?_⟩
      · rw [zf 218 6 (by omega) (by omega) (by omega) (by omega), za 220 (by omega) (by decide), zr 38 17 (by omega)]
        intro h
        obtain ⟨g1, g2, g3⟩ := k3 h
        exact ⟨g1, cr (by omega) g2, g3⟩
      · intro i hi
        obtain ⟨g1, g2, g3, g4⟩ := f6 i (by omega)
        have er : ((fr + 11) % 12 + 12 - (A - 1) + i) % 12 = (fr + 12 - A + i) % 12 := by omega
        have hm : (fr + 12 - A + i) % 12 < 12 := Nat.mod_lt _ (by decide)
        rw [er, hp i, z219, w5 3 (Or.inr rfl), zr _ 17 (by omega), zrc]
        exact ⟨g1, cr (by omega) g2, g3, g4⟩
    · exact (((hb.idle (by omega) ((hI.nF (by omega)).nF (by omega))).nF (by omega)).nF (by omega)).nA (by omega)
