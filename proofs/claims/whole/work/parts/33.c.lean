/-! acts -/
theorem Core.rem {Θ : GP} {S S0 : PZ} {ω : OW} (h : Core Θ S ω) {A fr : Nat} (hA : A ≤ 12) (hfr : fr < 12) (e1 : zF S 50 0 = nI A) (e2 : zF S 50 1 = nI fr) (e3 : zF S 218 7 = nI A) (b : Bec S S0 (52 + 12 * fr) 14) : Core Θ (rmM (uF (uF S0 50 1 (nI ((fr + 1) % 12))) 50 0 (nI (nxA A))) A) ω := by
  obtain ⟨⟨a1, a2, lw, a3⟩, ⟨len, l1, l2, l3⟩, c1, d1, ⟨k1, k2, k3⟩, A', fr', f1, f2, f3, f4, f5, f6⟩ := h
  have hAA : A' = A := (nI_eq (by omega) (by omega)).mp (f3.symm.trans e1)
  have hff : fr' = fr := (nI_eq (by omega) (by omega)).mp (f4.symm.trans e2)
  subst hAA hff
  have hb := b
  obtain ⟨b1, b2, b3, b4, b5, b6, b7, b8, b9, b10, b11⟩ := b
  -- numbers and rows of the end
  have zf : ∀ k j, k ≠ 52 + 12 * fr' → k ≠ 52 + 12 * fr' + 10 → k ≠ 50 → ¬ (k = 218 ∧ j = 7) → zF (rmM (uF (uF S0 50 1 (nI ((fr' + 1) % 12))) 50 0 (nI (nxA A'))) A') k j = zF S k j := by
    intro k j q1 q2 q3 q4
    unfold rmM
    rw [zF_uA, zF_uF, if_neg q4, zF_uF, if_neg (fun z => q3 z.1), zF_uF, if_neg (fun z => q3 z.1), b3 k j q1 q2]
  have za : ∀ k, k < 52 + 12 * fr' ∨ 52 + 12 * fr' + 12 ≤ k → k ≠ 223 → zA (rmM (uF (uF S0 50 1 (nI ((fr' + 1) % 12))) 50 0 (nI (nxA A'))) A') k = zA S k := by
    intro k q1 q2
    unfold rmM
    rw [zA_uA, if_neg q2, zA_uF, zA_uF, zA_uF, b8 k q1]
  have zac : ∀ k, k ≠ 223 → zA (rmM (uF (uF S0 50 1 (nI ((fr' + 1) % 12))) 50 0 (nI (nxA A'))) A') k = zA S0 k := by
    intro k q2
    unfold rmM
    rw [zA_uA, if_neg q2, zA_uF, zA_uF, zA_uF]
  have zfc : ∀ k j, k ≠ 50 → k ≠ 218 → zF (rmM (uF (uF S0 50 1 (nI ((fr' + 1) % 12))) 50 0 (nI (nxA A'))) A') k j = zF S0 k j := by
    intro k j q1 q2
    unfold rmM
    rw [zF_uA, zF_uF, if_neg (fun z => q2 z.1), zF_uF, if_neg (fun z => q1 z.1), zF_uF, if_neg (fun z => q1 z.1)]
  have zr : ∀ k j, k ≠ 52 + 12 * fr' → zR (rmM (uF (uF S0 50 1 (nI ((fr' + 1) % 12))) 50 0 (nI (nxA A'))) A') k j = zR S k j := b10
  have zrc : zR (rmM (uF (uF S0 50 1 (nI ((fr' + 1) % 12))) 50 0 (nI (nxA A'))) A') (52 + 12 * fr') 17 = zR S 14 17 := b9
  have z223 : zA (rmM (uF (uF S0 50 1 (nI ((fr' + 1) % 12))) 50 0 (nI (nxA A'))) A') 223 = accN (zA S 223) (zA S 219) A' := by
    unfold rmM
    rw [zA_uA, if_pos rfl, zA_uF, zA_uF, zA_uF, zA_uF, b8 223 (by omega), b8 219 (by omega)]
  have z50 : zF (rmM (uF (uF S0 50 1 (nI ((fr' + 1) % 12))) 50 0 (nI (nxA A'))) A') 50 0 = nI (nxA A') := rfl
  have z51 : zF (rmM (uF (uF S0 50 1 (nI ((fr' + 1) % 12))) 50 0 (nI (nxA A'))) A') 50 1 = nI ((fr' + 1) % 12) := rfl
  have z218 : zF (rmM (uF (uF S0 50 1 (nI ((fr' + 1) % 12))) 50 0 (nI (nxA A'))) A') 218 7 = nI (nxA A') := rfl
  generalize rmM (uF (uF S0 50 1 (nI ((fr' + 1) % 12))) 50 0 (nI (nxA A'))) A' = S2 at zf za zac zfc zr zrc z223 z50 z51 z218 ⊢
  have x19 : zA S2 219 = zA S 219 := za 219 (by omega) (by decide)
  have cr : ∀ {c : Nat} {w : Nat → Int32}, (c + 12 ≤ 50 ∨ (52 ≤ c ∧ c + 12 ≤ 196)) → (c + 12 ≤ 52 + 12 * fr' ∨ 52 + 12 * fr' + 12 ≤ c) → CR S c w → CR S2 c w := fun h1 h2 z => z.congr (fun k j p q => zf k j (by omega) (by omega) (by omega) (by omega)) (fun k p q => za k (by omega) (by omega))
  refine ⟨⟨by rw [x19]; exact a1, by rw [x19]; exact cr (by omega) (by omega) a2, lw, by rw [x19, zr 14 17 (by omega)]; exact a3⟩, ⟨len, l1, by rw [zf 1 0 (by omega) (by omega) (by omega) (by omega)]; exact l2, by rw [zf 218 9 (by omega) (by omega) (by omega) (by omega)]; exact l3⟩, by rw [za 224 (by omega) (by decide), za 2 (by omega) (by decide)]; exact c1, by rw [zf 0 14 (by omega) (by omega) (by omega) (by omega), zf 218 14 (by omega) (by omega) (by omega) (by omega)]; exact d1, ⟨by rw [zf 0 3 (by omega) (by omega) (by omega) (by omega), zf 218 6 (by omega) (by omega) (by omega) (by omega)]; exact k1, by rw [zf 218 6 (by omega) (by omega) (by omega) (by omega)]; exact k2, ?_⟩, nxA A', (fr' + 1) % 12, by unfold nxA; split <;> omega, Nat.mod_lt _ (by decide), z50, z51, z218, ?_⟩
  · rw [zf 218 6 (by omega) (by omega) (by omega) (by omega), za 220 (by omega) (by decide), zr 38 17 (by omega)]
    intro h
    obtain ⟨g1, g2, g3⟩ := k3 h
    exact ⟨g1, cr (by omega) (by omega) g2, g3⟩
  · intro i hi
    have hnew : ∀ i, (∀ k, k < 305 → zA S2 223 (305 * i + k) = zA S 219 k) → pastW S2 i = zA S 219 := by
      intro i hk
      funext k
      unfold pastW
      split
      · exact hk k (by assumption)
      · rw [x19]
    have hold : ∀ i j, (∀ k, k < 305 → zA S2 223 (305 * i + k) = zA S 223 (305 * j + k)) → pastW S2 i = pastW S j := by
      intro i j hk
      funext k
      unfold pastW
      split
      · exact hk k (by assumption)
      · rw [x19]
    have crn : CR S2 (52 + 12 * fr') (zA S 219) := (a2.bec a1 hb).congr (fun k j p q => zfc k j (by omega) (by omega)) (fun k p q => zac k (by omega))
    by_cases h12 : A' = 12
    · have en : nxA A' = 12 := by unfold nxA; rw [if_pos h12]
      rw [en] at hi ⊢
      by_cases hl : i = 11
      · have er : ((fr' + 1) % 12 + 12 - 12 + i) % 12 = fr' := by omega
        have ep : pastW S2 i = zA S 219 := hnew i (fun k hk => by rw [z223]; unfold accN; rw [if_pos h12, if_neg (by omega), if_pos (by omega), show 305 * i + k - 3355 = k by omega])
        rw [er, ep, zrc, zr 14 17 (by omega), x19]
        exact ⟨a1, crn, rfl, rfl⟩
      · have er : ((fr' + 1) % 12 + 12 - 12 + i) % 12 = (fr' + 12 - A' + (i + 1)) % 12 := by omega
        have ep : pastW S2 i = pastW S (i + 1) := hold i (i + 1) (fun k hk => by rw [z223]; unfold accN; rw [if_pos h12, if_pos (by omega), show 305 * i + k + 305 = 305 * (i + 1) + k by omega])
        obtain ⟨g1, g2, g3, g4⟩ := f6 (i + 1) (by omega)
        have hr : (fr' + 12 - A' + (i + 1)) % 12 ≠ fr' := by omega
        have hm : (fr' + 12 - A' + (i + 1)) % 12 < 12 := Nat.mod_lt _ (by decide)
        rw [er, ep, zr _ 17 (by omega), zr 14 17 (by omega), x19]
        exact ⟨g1, cr (by omega) (by omega) g2, g3, g4⟩
    · have en : nxA A' = A' + 1 := by unfold nxA; rw [if_neg h12]
      rw [en] at hi ⊢
      by_cases hl : i = A'
      · have er : ((fr' + 1) % 12 + 12 - (A' + 1) + i) % 12 = fr' := by omega
        have ep : pastW S2 i = zA S 219 := hnew i (fun k hk => by rw [z223]; unfold accN; rw [if_neg h12, if_pos (by omega), show 305 * i + k - 305 * A' = k by omega])
        rw [er, ep, zrc, zr 14 17 (by omega), x19]
        exact ⟨a1, crn, rfl, rfl⟩
      · have er : ((fr' + 1) % 12 + 12 - (A' + 1) + i) % 12 = (fr' + 12 - A' + i) % 12 := by omega
        have ep : pastW S2 i = pastW S i := hold i i (fun k hk => by rw [z223]; unfold accN; rw [if_neg h12, if_neg (by omega)])
        obtain ⟨g1, g2, g3, g4⟩ := f6 i (by omega)
        have hr : (fr' + 12 - A' + i) % 12 ≠ fr' := by omega
        have hm : (fr' + 12 - A' + i) % 12 < 12 := Nat.mod_lt _ (by decide)
        rw [er, ep, zr _ 17 (by omega), zr 14 17 (by omega), x19]
        exact ⟨g1, cr (by omega) (by omega) g2, g3, g4⟩
/-- behind the class's remembering; what the reference's will make of it -/
def Rmd (Θ : GP) (S S1 : PZ) (ω : OW) (A : Nat) : Prop := A ≤ 12 ∧ zF S1 218 7 = nI A ∧ Core Θ (rmM S1 A) ω ∧ CR S1 14 (zA S 219) ∧ zA S1 219 = zA S 219 ∧ (∀ k j, k < 50 ∨ 196 ≤ k → zF S1 k j = zF S k j) ∧ (∀ k, k < 50 ∨ 196 ≤ k → zA S1 k = zA S k) ∧ (∀ k j, k < 50 ∨ 196 ≤ k → zR S1 k j = zR S k j)
theorem x_remember {Θ : GP} {S : PZ} {ω : OW} {n : Nat} (hC : Core Θ S ω) : ∃ S1 A, F_X5_remember Θ (gb Θ + 50) (gb Θ + 14) (laz Θ S ω) n = some (.inl (none, laz Θ S1 ω, n)) ∧ Rmd Θ S S1 ω A := by
  obtain ⟨A, fr, f1, f2, f3, f4, f5, f6⟩ := hC.2.2.2.2.2
  obtain ⟨S0, e0, hb⟩ := x_become (Θ := Θ) (S := S) (ω := ω) (n := n) (cts_at f2) (show 14 ∈ cts by decide) (by omega)
  have hb' := hb
  obtain ⟨b1, b2, b3, b4, b5, b6, b7, b8, b9, b10, b11⟩ := hb'
  refine ⟨uF (uF S0 50 1 (nI ((fr + 1) % 12))) 50 0 (nI (nxA A)), A, ?_, f1, ?_, hC.rem f1 f2 f3 f4 f5 hb, ?_, b8 219 (by omega), ?_, ?_, ?_⟩
  · unfold F_X5_remember
    have g1 : zF S0 50 1 = nI fr := (b3 50 1 (by omega) (by omega)).trans f4
    have g0 : zF S0 50 0 = nI A := (b3 50 0 (by omega) (by omega)).trans f3
    have e5 : nI fr + 1 - (nI fr + 1) / 12 * 12 = nI ((fr + 1) % 12) := by
      rw [nI_1]; exact nI_rem (k := 12) (by omega) (by omega)
    have g0' : zF (uF S0 50 1 (nI ((fr + 1) % 12))) 50 0 = nI A := g0
    have e6 : (if nI A + 1 < 12 then nI A + 1 else 12) = nI (nxA A) := by
      rw [nI_1]
      unfold nxA
      by_cases h : A = 12
      · subst h; rfl
      · rw [if_neg h]
        by_cases h2 : A = 11
        · subst h2; rfl
        · exact if_pos (nI_lt (b := 12) (by omega) (by omega))
    rw [a50_2, a50_1, f4, z_lA f2, c0 (cts_kd _ (cts_at f2)).1, e0, kV_v, a50_1, g1, e5, b50_1, a50_0, g0', e6, b50_0]
  · rw [zF_uF, if_neg (by decide), zF_uF, if_neg (by decide), b3 218 7 (by omega) (by omega)]; exact f5
  · exact hC.1.2.1.congr (fun k j p q => by rw [zF_uF, if_neg (by omega), zF_uF, if_neg (by omega), b3 k j (by omega) (by omega)]) (fun k p q => b8 k (by omega))
  · intro k j hk
    rw [zF_uF, if_neg (by omega), zF_uF, if_neg (by omega), b3 k j (by omega) (by omega)]
  · intro k hk
    exact b8 k (by omega)
  · intro k j hk
    exact b10 k j (by omega)
