/-! promise 35: alike -/
def gal (w : Nat → Int32) (p q : Nat) : Int32 := if w (4 * p + 41) = w (4 * q + 41) ∧ w (4 * p + 42) = w (4 * q + 42) then 1 else 0
def alX (w : Nat → Int32) (O : Nat) : Nat → Nat → Int32 → Int32
  | 0, _, a => a
  | k + 1, p, a => alX w O k (p + 1) (adL (gal w p) (O - (p + 1)) (p + 1) a)
def alM (w : Nat → Int32) : Nat → Nat → Int32 → Int32
  | 0, _, a => a
  | k + 1, p, a => alM w k (p + 1) (adL (gal w p) p 0 a)
theorem gal_comm (w : Nat → Int32) (p q : Nat) : gal w p q = gal w q p := by
  unfold gal
  by_cases h : w (4 * p + 41) = w (4 * q + 41) ∧ w (4 * p + 42) = w (4 * q + 42)
  · rw [if_pos h, if_pos ⟨h.1.symm, h.2.symm⟩]
  · rw [if_neg h, if_neg (fun z => h ⟨z.1.symm, z.2.symm⟩)]
theorem al_eq (w : Nat → Int32) {O : Nat} (h : O ≤ 6) : alX w O O 0 0 = alM w O 0 0 := by
  have q : O = 0 ∨ O = 1 ∨ O = 2 ∨ O = 3 ∨ O = 4 ∨ O = 5 ∨ O = 6 := by omega
  rcases q with rfl | rfl | rfl | rfl | rfl | rfl | rfl <;> simp only [alX, alM, adL, Nat.reduceAdd, Nat.reduceSub]
  · rw [gal_comm w 1 0]
  · rw [gal_comm w 1 0, gal_comm w 2 0, gal_comm w 2 1]
  · rw [gal_comm w 1 0, gal_comm w 2 0, gal_comm w 2 1, gal_comm w 3 0, gal_comm w 3 1, gal_comm w 3 2]
    ac_rfl
  · rw [gal_comm w 1 0, gal_comm w 2 0, gal_comm w 2 1, gal_comm w 3 0, gal_comm w 3 1, gal_comm w 3 2, gal_comm w 4 0, gal_comm w 4 1, gal_comm w 4 2, gal_comm w 4 3]
    ac_rfl
  · rw [gal_comm w 1 0, gal_comm w 2 0, gal_comm w 2 1, gal_comm w 3 0, gal_comm w 3 1, gal_comm w 3 2, gal_comm w 4 0, gal_comm w 4 1, gal_comm w 4 2, gal_comm w 4 3, gal_comm w 5 0, gal_comm w 5 1, gal_comm w 5 2, gal_comm w 5 3, gal_comm w 5 4]
    ac_rfl
section AL
variable {Θ : GP} {S : PZ} {ω : OW} {n : Nat}
theorem x_alike_I {w : Nat → Int32} (hC : CR S 14 w) {O p : Nat} (hO : zF S 14 1 = nI O) (hO6 : O ≤ 6) (hq : O = cO' w) (hp : p < O) (k4 : Nat → Int32 → Int32 → OW → Nat → RO) : ∀ (k q f : Nat) (a : Int32), q + k = O → k < f → L_X10_alike_19 Θ k4 f (gb Θ) a (nI p) (nI q) (laz Θ S ω) n = k4 (gb Θ) (adL (gal w p) k q a) (nI p + 1) (laz Θ S ω) n := by
  intro k
  induction k with
  | zero =>
    intro q f a h1 h2
    obtain ⟨f, rfl⟩ : ∃ g, f = g + 1 := ⟨f - 1, by omega⟩
    unfold L_X10_alike_19 B_X10_alike_19
    rw [r10_0, a14_1, hO, if_pos (nI_le (by omega) (by omega))]
    rfl
  | succ k ih =>
    intro q f a h1 h2
    obtain ⟨f, rfl⟩ : ∃ g, f = g + 1 := ⟨f - 1, by omega⟩
    have e1 := CRa hC (show p < cO' w by omega)
    have e2 := CRa hC (show q < cO' w by omega)
    unfold L_X10_alike_19 B_X10_alike_19 J_X10_alike_75
    rw [r10_0, a14_1, hO, if_neg (nI_ge (by omega) (by omega)), r10_0, a14_12, l_20 (by omega), r10_0, a14_12, l_20 (by omega), e1.1, e2.1]
    by_cases c1 : w (4 * p + 41) = w (4 * q + 41)
    · rw [if_pos c1, r10_0, a14_13, l_21 (by omega), r10_0, a14_13, l_21 (by omega), e1.2.1, e2.2.1]
      by_cases c2 : w (4 * p + 42) = w (4 * q + 42)
      · rw [if_pos c2, nI_1, ih (q + 1) f _ (by omega) (by omega)]
        simp only [adL, gal, if_pos (And.intro c1 c2)]
      · rw [if_neg c2, nI_1, ih (q + 1) f _ (by omega) (by omega)]
        simp only [adL]
        rw [show gal w p q = 0 from if_neg (fun z => c2 z.2), Int32.add_zero]
    · rw [if_neg c1, nI_1, ih (q + 1) f _ (by omega) (by omega)]
      simp only [adL]
      rw [show gal w p q = 0 from if_neg (fun z => c1 z.1), Int32.add_zero]
theorem x_alike_O {w : Nat → Int32} (hC : CR S 14 w) {O : Nat} (hO : zF S 14 1 = nI O) (hO6 : O ≤ 6) (hq : O = cO' w) : ∀ (k p f : Nat) (a : Int32), p + k = O → k < f → L_X10_alike_4 Θ f (gb Θ) a (nI p) (laz Θ S ω) n = some (.inl (some (.int (alX w O k p a)), laz Θ S ω, n)) := by
  intro k
  induction k with
  | zero =>
    intro p f a h1 h2
    obtain ⟨f, rfl⟩ : ∃ g, f = g + 1 := ⟨f - 1, by omega⟩
    unfold L_X10_alike_4 B_X10_alike_4
    rw [r10_0, a14_1, hO, if_pos (nI_le (by omega) (by omega))]
    rfl
  | succ k ih =>
    intro p f a h1 h2
    obtain ⟨f, rfl⟩ : ∃ g, f = g + 1 := ⟨f - 1, by omega⟩
    unfold L_X10_alike_4 B_X10_alike_4
    rw [r10_0, a14_1, hO, if_neg (nI_ge (by omega) (by omega)), nI_1, x_alike_I hC hO hO6 hq (by omega) _ (O - (p + 1)) (p + 1) 5000 a (by omega) (by omega), nI_1, ih (p + 1) f _ (by omega) (by omega)]
    rfl
theorem m_alike_I {O p : Nat} (hO6 : O ≤ 6) (hp : p < O) (k4 : Nat → Int32 → Int32 → OW → Nat → RO) : ∀ (k q f : Nat) (a : Int32), q + k = p → k < f → L_X11_alike_19 Θ k4 f (gb Θ + 218) a (nI p) (nI q) (laz Θ S ω) n = k4 (gb Θ + 218) (adL (gal (zA S 219) p) k q a) (nI p + 1) (laz Θ S ω) n := by
  intro k
  induction k with
  | zero =>
    intro q f a h1 h2
    obtain ⟨f, rfl⟩ : ∃ g, f = g + 1 := ⟨f - 1, by omega⟩
    unfold L_X11_alike_19 B_X11_alike_19
    rw [if_pos (nI_le (by omega) (by omega))]
    rfl
  | succ k ih =>
    intro q f a h1 h2
    obtain ⟨f, rfl⟩ : ∃ g, f = g + 1 := ⟨f - 1, by omega⟩
    unfold L_X11_alike_19 B_X11_alike_19 J_X11_alike_59 J_X11_alike_60
    rw [if_neg (nI_ge (by omega) (by omega)), d218, m_of0 (by omega), kI_v, d218, m_of0 (by omega), kI_v]
    by_cases c1 : zA S 219 (4 * p + 41) = zA S 219 (4 * q + 41)
    · rw [if_pos c1, d218, m_of1 (by omega), kI_v, d218, m_of1 (by omega), kI_v]
      by_cases c2 : zA S 219 (4 * p + 42) = zA S 219 (4 * q + 42)
      · rw [if_pos c2, nI_1, ih (q + 1) f _ (by omega) (by omega)]
        simp only [adL, gal, if_pos (And.intro c1 c2)]
      · rw [if_neg c2, nI_1, ih (q + 1) f _ (by omega) (by omega)]
        simp only [adL]
        rw [show gal (zA S 219) p q = 0 from if_neg (fun z => c2 z.2)]
    · rw [if_neg c1, nI_1, ih (q + 1) f _ (by omega) (by omega)]
      simp only [adL]
      rw [show gal (zA S 219) p q = 0 from if_neg (fun z => c1 z.1)]
theorem m_alike_O {O : Nat} (hO : zA S 219 1 = nI O) (hO6 : O ≤ 6) : ∀ (k p f : Nat) (a : Int32), p + k = O → k < f → L_X11_alike_9 Θ f (gb Θ + 218) a (nI p) (laz Θ S ω) n = some (.inl (some (.int (alM (zA S 219) k p a)), laz Θ S ω, n)) := by
  intro k
  induction k with
  | zero =>
    intro p f a h1 h2
    obtain ⟨f, rfl⟩ : ∃ g, f = g + 1 := ⟨f - 1, by omega⟩
    unfold L_X11_alike_9 B_X11_alike_9
    rw [d218, m_oneCount, kI_v, hO, if_pos (nI_le (by omega) (by omega))]
    rfl
  | succ k ih =>
    intro p f a h1 h2
    obtain ⟨f, rfl⟩ : ∃ g, f = g + 1 := ⟨f - 1, by omega⟩
    unfold L_X11_alike_9 B_X11_alike_9
    rw [d218, m_oneCount, kI_v, hO, if_neg (nI_ge (by omega) (by omega))]
    have e := m_alike_I (Θ := Θ) (S := S) (ω := ω) (n := n) hO6 (show p < O by omega) (L_X11_alike_9 Θ f) p 0 5000 a (by omega) (by omega)
    refine e.trans ?_
    rw [nI_1, ih (p + 1) f _ (by omega) (by omega)]
    rfl
end AL
theorem pc33 (Θ : GP) : PC_33 Θ (gb Θ) (gb Θ + 218) (gb Θ + 234) (Inv Θ) := by
  intro v xs i hI
  obtain ⟨S, ω, rfl, hC, hI⟩ := hI
  have hO := hC.O
  refine fin_I fun n _ => ⟨alX (zA S 219) (cO' (zA S 219)) (cO' (zA S 219)) 0 0, S, ω, n, ?_, fun n2 => ⟨uF S 218 0 0, n2, ?_, hC.thr, hI.thr⟩⟩
  · exact x_alike_O hC.1.2.1 hO.2.2 hO.2.1 rfl _ 0 5000 0 (by omega) (by omega)
  · show F_X11_alike Θ (gb Θ + 218) (laz Θ S ω) n2 = _
    unfold F_X11_alike
    rw [b218_0, al_eq _ hO.2.1]
    exact m_alike_O (S := uF S 218 0 0) hO.1 hO.2.1 _ 0 5000 0 (by omega) (by omega)
