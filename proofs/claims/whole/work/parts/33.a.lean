/-! courts that change -/
def cts : List Nat := [14, 26, 38, 52, 64, 76, 88, 100, 112, 124, 136, 148, 160, 172, 184]
theorem cts_kd : ∀ c ∈ cts, kdz c = 0 ∧ kdz (c + 1) = 20 ∧ kdz (c + 2) = 20 ∧ kdz (c + 3) = 20 ∧ kdz (c + 4) = 20 ∧ kdz (c + 5) = 20 ∧ kdz (c + 6) = 20 ∧ kdz (c + 7) = 20 ∧ kdz (c + 8) = 20 ∧ kdz (c + 9) = 20 ∧ kdz (c + 10) = 4 ∧ kdz (c + 10 + 1) = 20 := by decide
theorem cts_al : ∀ c ∈ cts, 8 ≤ alz (c + 1) ∧ 8 ≤ alz (c + 2) ∧ 8 ≤ alz (c + 3) ∧ 8 ≤ alz (c + 4) ∧ 10 ≤ alz (c + 5) ∧ 6 ≤ alz (c + 6) ∧ 6 ≤ alz (c + 7) ∧ 6 ≤ alz (c + 8) ∧ 6 ≤ alz (c + 9) ∧ 240 ≤ alz (c + 10 + 1) := by decide
theorem cts_at {i : Nat} (hi : i < 12) : 52 + 12 * i ∈ cts := by
  have q : i = 0 ∨ i = 1 ∨ i = 2 ∨ i = 3 ∨ i = 4 ∨ i = 5 ∨ i = 6 ∨ i = 7 ∨ i = 8 ∨ i = 9 ∨ i = 10 ∨ i = 11 := by omega
  rcases q with rfl | rfl | rfl | rfl | rfl | rfl | rfl | rfl | rfl | rfl | rfl | rfl <;> decide
theorem z_cp0 {Θ : GP} {S : PZ} {ω : OW} {k1 k2 n : Nat} {kk : OW → RO} (h1 : kdz k1 = 20) (h2 : kdz k2 = 20) (l1 : n ≤ alz k1) (l2 : n ≤ alz k2) (hb : n < 2 ^ 31) : cpI (laz Θ S ω) (gI Θ) (gb Θ + k1) 0 (gb Θ + k2) 0 (OfNat.ofNat n : Int32) kk = kk (laz Θ (uA S k2 (va_cpy (zA S k1) (zA S k2) 0 0 n)) ω) := z_cp (d := 0) h1 h2 l1 (by omega) (by omega)
theorem cpy_at (f g : Nat → Int32) (n k : Nat) : va_cpy f g 0 0 n k = if k < n then f k else g k := by
  unfold va_cpy
  by_cases h : k < n
  · rw [if_pos ⟨Nat.zero_le _, by omega⟩, if_pos h]
    congr 1; omega
  · rw [if_neg (by omega), if_neg h]
/-- the court at c has become the one at d -/
def Bec (S S' : PZ) (c d : Nat) : Prop :=
  (∀ j, j < 7 → zF S' c j = zF S d j) ∧ (∀ j, j < 2 → zF S' (c + 10) j = zF S (d + 10) j) ∧ (∀ k j, k ≠ c → k ≠ c + 10 → zF S' k j = zF S k j) ∧
  (∀ i q, 1 ≤ i → i ≤ 4 → q < 8 → zA S' (c + i) q = zA S (d + i) q) ∧ (∀ q, q < 10 → zA S' (c + 5) q = zA S (d + 5) q) ∧ (∀ i q, 6 ≤ i → i ≤ 9 → q < 6 → zA S' (c + i) q = zA S (d + i) q) ∧ (∀ q, q < 240 → zA S' (c + 11) q = zA S (d + 11) q) ∧
  (∀ k, k < c ∨ c + 12 ≤ k → zA S' k = zA S k) ∧ zR S' c 17 = zR S d 17 ∧ (∀ k j, k ≠ c → zR S' k j = zR S k j) ∧ (∀ k, zL S' k = zL S k)
section BE
variable {Θ : GP} {S : PZ} {ω : OW} {n : Nat}
theorem x_logBecome {c d : Nat} (hc : c ∈ cts) (hd : d ∈ cts) (hcd : c ≠ d) : F_X4_become Θ (gb Θ + (c + 10)) (gb Θ + (d + 10)) (laz Θ S ω) n = some (.inl (none, laz Θ (uA (uF (uF S (c + 10) 0 (zF S (d + 10) 0)) (c + 10) 1 (zF S (d + 10) 1)) (c + 10 + 1) (va_cpy (zA S (d + 10 + 1)) (zA S (c + 10 + 1)) 0 0 240)) ω, n)) := by
  have k1 := cts_kd c hc
  have k2 := cts_kd d hd
  have a1 := cts_al c hc
  have a2 := cts_al d hd
  unfold F_X4_become
  rw [r4_0 k2.2.2.2.2.2.2.2.2.2.2.1, w4_0 k1.2.2.2.2.2.2.2.2.2.2.1, r4_1 k2.2.2.2.2.2.2.2.2.2.2.1, w4_1 k1.2.2.2.2.2.2.2.2.2.2.1, r4_2 k2.2.2.2.2.2.2.2.2.2.2.1, r4_2 k1.2.2.2.2.2.2.2.2.2.2.1, z_cp0 k2.2.2.2.2.2.2.2.2.2.2.2 k1.2.2.2.2.2.2.2.2.2.2.2 a2.2.2.2.2.2.2.2.2.2 a1.2.2.2.2.2.2.2.2.2 (by decide)]
  rw [zF_uF, if_neg (by omega)]
  rfl
theorem x_become {c d : Nat} (hc : c ∈ cts) (hd : d ∈ cts) (hcd : c + 12 ≤ d ∨ d + 12 ≤ c) : ∃ S', F_X0_become Θ (gb Θ + c) (gb Θ + d) (laz Θ S ω) n = some (.inl (none, laz Θ S' ω, n)) ∧ Bec S S' c d := by
  have k1 := cts_kd c hc
  have k2 := cts_kd d hd
  have a1 := cts_al c hc
  have a2 := cts_al d hd
  have hne : ¬ d = c := by omega
  refine Exists.intro ?w (And.intro ?_ ?_)
  case w => exact uR (uA (uF (uF (uA (uA (uA (uA (uA (uA (uA (uA (uA (uF (uF (uF (uF (uF (uF (uF S c 0 (zF S d 0)) c 1 (zF S d 1)) c 2 (zF S d 2)) c 3 (zF S d 3)) c 4 (zF S d 4)) c 5 (zF S d 5)) c 6 (zF S d 6)) (c + 1) (va_cpy (zA S (d + 1)) (zA S (c + 1)) 0 0 8)) (c + 2) (va_cpy (zA S (d + 2)) (zA S (c + 2)) 0 0 8)) (c + 3) (va_cpy (zA S (d + 3)) (zA S (c + 3)) 0 0 8)) (c + 4) (va_cpy (zA S (d + 4)) (zA S (c + 4)) 0 0 8)) (c + 5) (va_cpy (zA S (d + 5)) (zA S (c + 5)) 0 0 10)) (c + 6) (va_cpy (zA S (d + 6)) (zA S (c + 6)) 0 0 6)) (c + 7) (va_cpy (zA S (d + 7)) (zA S (c + 7)) 0 0 6)) (c + 8) (va_cpy (zA S (d + 8)) (zA S (c + 8)) 0 0 6)) (c + 9) (va_cpy (zA S (d + 9)) (zA S (c + 9)) 0 0 6)) (c + 10) 0 (zF S (d + 10) 0)) (c + 10) 1 (zF S (d + 10) 1)) (c + 10 + 1) (va_cpy (zA S (d + 10 + 1)) (zA S (c + 10 + 1)) 0 0 240)) c 17 (zR S d 17)
  · obtain ⟨p0, p1, p2, p3, p4, p5, p6, p7, p8, p9, p10, p11⟩ := k1
    obtain ⟨q0, q1, q2, q3, q4, q5, q6, q7, q8, q9, q10, q11⟩ := k2
    obtain ⟨b1, b2, b3, b4, b5, b6, b7, b8, b9, b11⟩ := a1
    obtain ⟨e1, e2, e3, e4, e5, e6, e7, e8, e9, e11⟩ := a2
    unfold F_X0_become
    rw [r0_0 q0, w0_0 p0, r0_1 q0, w0_1 p0, r0_2 q0, w0_2 p0, r0_3 q0, w0_3 p0, r0_4 q0, w0_4 p0, r0_5 q0, w0_5 p0, r0_6 q0, w0_6 p0]
    rw [r0_7 q0, r0_7 p0, z_cp0 q1 p1 e1 b1 (by decide), r0_8 q0, r0_8 p0, z_cp0 q2 p2 e2 b2 (by decide), r0_9 q0, r0_9 p0, z_cp0 q3 p3 e3 b3 (by decide), r0_10 q0, r0_10 p0, z_cp0 q4 p4 e4 b4 (by decide), r0_11 q0, r0_11 p0, z_cp0 q5 p5 e5 b5 (by decide), r0_12 q0, r0_12 p0, z_cp0 q6 p6 e6 b6 (by decide), r0_13 q0, r0_13 p0, z_cp0 q7 p7 e7 b7 (by decide), r0_14 q0, r0_14 p0, z_cp0 q8 p8 e8 b8 (by decide), r0_15 q0, r0_15 p0, z_cp0 q9 p9 e9 b9 (by decide)]
    rw [r0_16 p0, r0_16 q0, c4 p10, x_logBecome hc hd (by omega), kV_v, r0_17 q0, w0_17 p0]
    have g1 : ¬ d + 1 = c := by omega
    have f1 : ¬ d = c + 1 := by omega
    have g2 : ¬ d + 2 = c := by omega
    have f2 : ¬ d = c + 2 := by omega
    have g3 : ¬ d + 3 = c := by omega
    have f3 : ¬ d = c + 3 := by omega
    have g4 : ¬ d + 4 = c := by omega
    have f4 : ¬ d = c + 4 := by omega
    have g5 : ¬ d + 5 = c := by omega
    have f5 : ¬ d = c + 5 := by omega
    have g6 : ¬ d + 6 = c := by omega
    have f6 : ¬ d = c + 6 := by omega
    have g7 : ¬ d + 7 = c := by omega
    have f7 : ¬ d = c + 7 := by omega
    have g8 : ¬ d + 8 = c := by omega
    have f8 : ¬ d = c + 8 := by omega
    have g9 : ¬ d + 9 = c := by omega
    have f9 : ¬ d = c + 9 := by omega
    have g10 : ¬ d + 10 = c := by omega
    have f10 : ¬ d = c + 10 := by omega
    have g11 : ¬ d + 11 = c := by omega
    have f11 : ¬ d = c + 11 := by omega
    simp only [zF_uF, zF_uA, zA_uF, zA_uA, zR_uF, zR_uA, hne, g1, f1, g2, f2, g3, f3, g4, f4, g5, f5, g6, f6, g7, f7, g8, f8, g9, f9, g10, f10, g11, f11, false_and, if_false, Nat.add_right_cancel_iff, Nat.add_left_cancel_iff, Nat.reduceEqDiff, ↓reduceIte]
    rw [if_neg (show ¬ c + 10 = c by omega)]
  · have w0 : ∀ k j : Nat, zF S k j = zF S k j := fun _ _ => rfl
    refine ⟨?_, ?_, ?_, ?_, ?_, ?_, ?_, ?_, ?_, ?_, ?_⟩
    · intro j hj
      have q : j = 0 ∨ j = 1 ∨ j = 2 ∨ j = 3 ∨ j = 4 ∨ j = 5 ∨ j = 6 := by omega
      rcases q with rfl | rfl | rfl | rfl | rfl | rfl | rfl <;> simp [zF_uF, zF_uA, zF_uR]
    · intro j hj
      have q : j = 0 ∨ j = 1 := by omega
      rcases q with rfl | rfl <;> simp [zF_uF, zF_uA, zF_uR]
    · intro k j h1 h2
      simp [zF_uF, zF_uA, zF_uR, h1, h2]
    · intro i q h1 h2 h3
      have z : i = 1 ∨ i = 2 ∨ i = 3 ∨ i = 4 := by omega
      rcases z with rfl | rfl | rfl | rfl <;> simp [zA_uF, zA_uA, zA_uR, cpy_at, h3]
    · intro q h3
      simp [zA_uF, zA_uA, zA_uR, cpy_at, h3]
    · intro i q h1 h2 h3
      have z : i = 6 ∨ i = 7 ∨ i = 8 ∨ i = 9 := by omega
      rcases z with rfl | rfl | rfl | rfl <;> simp [zA_uF, zA_uA, zA_uR, cpy_at, h3]
    · intro q h3
      simp [zA_uF, zA_uA, zA_uR, cpy_at, h3]
    · intro k hk
      have z : ¬ k = c + 1 ∧ ¬ k = c + 2 ∧ ¬ k = c + 3 ∧ ¬ k = c + 4 ∧ ¬ k = c + 5 ∧ ¬ k = c + 6 ∧ ¬ k = c + 7 ∧ ¬ k = c + 8 ∧ ¬ k = c + 9 ∧ ¬ k = c + 10 + 1 := by omega
      simp only [zA_uF, zA_uA, zA_uR, z.1, z.2.1, z.2.2.1, z.2.2.2.1, z.2.2.2.2.1, z.2.2.2.2.2.1, z.2.2.2.2.2.2.1, z.2.2.2.2.2.2.2.1, z.2.2.2.2.2.2.2.2.1, z.2.2.2.2.2.2.2.2.2, if_false]
    · simp [zR_uR]
    · intro k j hk
      simp [zR_uR, zR_uA, zR_uF, hk]
    · intro k
      rfl
end BE
