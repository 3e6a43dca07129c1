/-! the beginning: class and reference are at one; all that is left is there -/
section ZE
variable {Θ : GP}
theorem z3_9 {k : Nat} (h : 9 ≤ k) : z0A 3 k = 0 := by
  show upd (upd (upd (fun _ => 0) 5 2) 6 10) 8 1 k = 0
  rw [upd_ne _ _ (by omega), upd_ne _ _ (by omega), upd_ne _ _ (by omega)]
theorem z3_0 : cP (z0A 3) = 0 ∧ cO' (z0A 3) = 0 := ⟨by decide, by decide⟩
theorem z3_WB : WB (z0A 3) := by
  have r : ∀ k N, 9 ≤ k → Rg (z0A 3 k) N := fun k N h => ⟨0, Nat.zero_le _, z3_9 h⟩
  refine ⟨⟨0, by omega, rfl⟩, ⟨0, by omega, rfl⟩, ⟨0, by omega, rfl⟩, ⟨0, by omega, rfl⟩, ⟨2, by omega, rfl⟩, ⟨10, by omega, rfl⟩, ⟨0, by omega, rfl⟩, fun p _ => ⟨r _ _ (by omega), r _ _ (by omega), r _ _ (by omega), Or.inr (r _ _ (by omega))⟩, fun a _ => ⟨r _ _ (by omega), r _ _ (by omega), r _ _ (by omega), r _ _ (by omega)⟩, fun p q _ hq => ?_⟩
  rw [z3_0.1] at hq
  exact absurd hq (Nat.not_lt_zero _)
theorem z3_pin (s : Int32) : pin (z0A 3) s = -1 := by
  rcases pin_cases (z0A 3) s with h | ⟨q, h, _⟩
  · exact h.1
  · rw [z3_0.1] at h
    exact absurd h (Nat.not_lt_zero _)
theorem s0_219 : zA (S0 Θ) 219 = z0A 3 := rfl
theorem s0_CR : CR (S0 Θ) 14 (z0A 3) := by
  refine ⟨⟨rfl, rfl, rfl, rfl, rfl, rfl, rfl⟩, fun p hp => ?_, fun s hs => ?_, fun a ha => ?_, rfl, 0, by omega, rfl, fun ago hg => ?_⟩
  · rw [z3_0.1] at hp
    exact absurd hp (Nat.not_lt_zero _)
  · rw [z3_pin]
    show (if 0 ≤ s ∧ s < 10 then (-1 : Int32) else 0) = -1
    rw [if_pos ⟨Nat.zero_le _, hs⟩]
  · rw [z3_0.2] at ha
    exact absurd ha (Nat.not_lt_zero _)
  · have : (z0A 3 7).toNatClampNeg = 0 := by decide
    rw [this] at hg
    exact absurd hg (Nat.not_lt_zero _)
theorem no_k {k : Nat} (h : ¬ kdz k < 99) : notOurs Θ (gb Θ + k) := by
  rintro ⟨_, z⟩
  rw [Nat.add_sub_cancel_left] at z
  exact h z
theorem s0_law : LawR Θ (wAll Θ) (gb Θ + 9) (z0A 3) (0, fun _ => 0, fun _ => 0, fun _ _ => true) := by
  obtain ⟨w0, w1, w2, w3, w4⟩ := wAll_lw (Θ := Θ)
  refine ⟨⟨gb Θ + 10, gb Θ + 11, gb Θ + 12, gb Θ + 13, 0, 0, 1, 0, fun _ => 0, fun _ => 0, ⟨w0, w1, w2, w3, w4⟩, ⟨no_k (by decide), no_k (by decide), no_k (by decide), no_k (by decide), no_k (by decide)⟩, ⟨Nat.le_refl _, Nat.le_refl _, Nat.zero_lt_one, by omega, by omega, by omega, by omega⟩, fun l hl => absurd hl (Nat.not_lt_zero _)⟩, Nat.zero_le _, Or.inl rfl, fun _ => rfl, fun h => absurd h (by decide), fun l hl => absurd hl (Nat.not_lt_zero _)⟩
theorem s0_Core : Core Θ (S0 Θ) (wAll Θ) := by
  refine ⟨⟨z3_WB, s0_CR, _, s0_law⟩, ⟨0, by omega, rfl, rfl⟩, fun i _ => ⟨0, by omega, rfl, rfl⟩, rfl, ⟨rfl, Or.inl rfl, fun h => ?_⟩, 0, 0, by omega, by omega, rfl, rfl, rfl, fun i hi => absurd hi (Nat.not_lt_zero _)⟩
  have h : (0 : Int32) = 1 := h
  exact absurd h (by decide)
theorem s0_Idle : Idle Θ (S0 Θ) := ⟨Or.inl ⟨rfl, rfl⟩, fun t _ => ⟨rfl, rfl, rfl⟩, rfl, rfl⟩
end ZE
theorem pure_all : PureAll := by
  intro Θ _
  refine ⟨Inv Θ, pt (fun _ => none) (gb Θ) (xAll Θ (gb Θ)), gb Θ + 218, pt (fun _ => none) (gb Θ) (xAll Θ (gb Θ) ++ mdl Θ (gb Θ + 218)), gb Θ + 234, iX (gb Θ), ?_, ?_, ?_⟩
  · have e := iM (Θ := Θ) (gb Θ + 218) (pt (fun _ => none) (gb Θ) (xAll Θ (gb Θ)))
    have p := pt_app (ω := fun _ => none) (b := gb Θ) (A := xAll Θ (gb Θ)) (B := mdl Θ (gb Θ + 218))
    rw [xAll_len] at p
    rw [p] at e
    unfold ωm
    rw [pt_one]
    exact e
  · have p := pt_app (ω := fun _ => none) (b := gb Θ) (A := xAll Θ (gb Θ) ++ mdl Θ (gb Θ + 218)) (B := [.inl (gJ Θ, 1, .inr (.inl (fun _ => 0)))])
    rw [List.length_append, xAll_len, mdl_len] at p
    unfold ωo
    rw [pt_one]
    have p : pt (pt (fun _ => none) (gb Θ) (xAll Θ (gb Θ) ++ mdl Θ (gb Θ + 218))) (gb Θ + 234) [.inl (gJ Θ, 1, .inr (.inl (fun _ => 0)))] = wAll Θ := p
    rw [p]
    exact ⟨S0 Θ, wAll Θ, wAll_z, s0_Core, s0_Idle⟩
  · exact ⟨pc0 Θ, pc1 Θ, pc2 Θ, pc3 Θ, pc4 Θ, pc5 Θ, pc6 Θ, pc7 Θ, pc8 Θ, pc9 Θ, pc10 Θ, pc11 Θ, pc12 Θ, pc13 Θ, pc14 Θ, pc15 Θ, pc16 Θ, pc17 Θ, pc18 Θ, pc19 Θ, pc20 Θ, pc21 Θ, pc22 Θ, pc23 Θ, pc24 Θ, pc25 Θ, pc26 Θ, pc27 Θ, pc28 Θ, pc29 Θ, pc30 Θ, pc31 Θ, pc32 Θ, pc33 Θ, pc34 Θ, pc35 Θ, pc36 Θ, pc37 Θ, pc38 Θ, pc39 Θ, pc40 Θ, pc41 Θ, pc42 Θ, pc43 Θ, pc44 Θ, pc45 Θ, pc46 Θ, pc47 Θ⟩
