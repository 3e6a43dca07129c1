/-! loops that gather bits or a sum -/
def orL (g : Nat → Int32) : Nat → Nat → Int32 → Int32
  | 0, _, a => a
  | k + 1, p, a => orL g k (p + 1) (a ||| g p)
def adL (g : Nat → Int32) : Nat → Nat → Int32 → Int32
  | 0, _, a => a
  | k + 1, p, a => adL g k (p + 1) (a + g p)
theorem orL_congr {g h : Nat → Int32} : ∀ (k p : Nat) (a : Int32), (∀ q, p ≤ q → q < p + k → g q = h q) → orL g k p a = orL h k p a := by
  intro k
  induction k with
  | zero => intro p a _; rfl
  | succ k ih =>
    intro p a hq
    unfold orL
    rw [hq p (Nat.le_refl _) (by omega), ih (p + 1) _ (fun q h1 h2 => hq q (by omega) (by omega))]
theorem adL_congr {g h : Nat → Int32} : ∀ (k p : Nat) (a : Int32), (∀ q, p ≤ q → q < p + k → g q = h q) → adL g k p a = adL h k p a := by
  intro k
  induction k with
  | zero => intro p a _; rfl
  | succ k ih =>
    intro p a hq
    unfold adL
    rw [hq p (Nat.le_refl _) (by omega), ih (p + 1) _ (fun q h1 h2 => hq q (by omega) (by omega))]
theorem pinL_cases (w : Nat → Int32) (s : Int32) : ∀ (k p : Nat), (pinL w s k p = -1 ∧ ∀ q, p ≤ q → q < p + k → w (4 * q + 12) ≠ s) ∨ ∃ q, p ≤ q ∧ q < p + k ∧ pinL w s k p = nI q ∧ w (4 * q + 12) = s ∧ ∀ r, p ≤ r → r < q → w (4 * r + 12) ≠ s := by
  intro k
  induction k with
  | zero => intro p; exact Or.inl ⟨rfl, fun q h1 h2 => by omega⟩
  | succ k ih =>
    intro p
    unfold pinL
    by_cases hc : w (4 * p + 12) = s
    · rw [if_pos hc]
      exact Or.inr ⟨p, Nat.le_refl _, by omega, rfl, hc, fun r h1 h2 => by omega⟩
    · rw [if_neg hc]
      rcases ih (p + 1) with ⟨h1, h2⟩ | ⟨q, h1, h2, h3, h4, h5⟩
      · refine Or.inl ⟨h1, fun q a b => ?_⟩
        by_cases hq : q = p
        · subst hq; exact hc
        · exact h2 q (by omega) (by omega)
      · refine Or.inr ⟨q, by omega, by omega, h3, h4, fun r a b => ?_⟩
        by_cases hq : r = p
        · subst hq; exact hc
        · exact h5 r (by omega) (by omega)
theorem pin_cases (w : Nat → Int32) (s : Int32) : (pin w s = -1 ∧ ∀ q, q < cP w → w (4 * q + 12) ≠ s) ∨ ∃ q, q < cP w ∧ pin w s = nI q ∧ w (4 * q + 12) = s := by
  rcases pinL_cases w s (cP w) 0 with ⟨h1, h2⟩ | ⟨q, h1, h2, h3, h4, h5⟩
  · exact Or.inl ⟨h1, fun q a => h2 q (Nat.zero_le _) (by omega)⟩
  · exact Or.inr ⟨q, by omega, h3, h4⟩
theorem pinL_congr {w w' : Nat → Int32} {s : Int32} : ∀ (k p : Nat), (∀ q, p ≤ q → q < p + k → (w' (4 * q + 12) = s ↔ w (4 * q + 12) = s)) → pinL w' s k p = pinL w s k p := by
  intro k
  induction k with
  | zero => intro p _; rfl
  | succ k ih =>
    intro p h
    unfold pinL
    have e := ih (p + 1) (fun q a b => h q (by omega) (by omega))
    have c := h p (Nat.le_refl _) (by omega)
    by_cases hc : w (4 * p + 12) = s
    · rw [if_pos hc, if_pos (c.mpr hc)]
    · rw [if_neg hc, if_neg (fun z => hc (c.mp z)), e]
theorem pin_congr {w w' : Nat → Int32} {s : Int32} (h0 : w' 0 = w 0) (h : ∀ q, q < cP w → (w' (4 * q + 12) = s ↔ w (4 * q + 12) = s)) : pin w' s = pin w s := by
  unfold pin
  rw [h0]
  exact pinL_congr _ _ (fun q _ b => h q (by unfold cP; omega))
theorem pin_neg {w : Nat → Int32} {s : Int32} (h8 : cP w ≤ 8) : (pin w s < 0) ↔ pin w s = -1 := by
  rcases pin_cases w s with ⟨h, _⟩ | ⟨q, h1, h2, _⟩
  · rw [h]; decide
  · rw [h2]
    constructor
    · intro h; exact absurd h (nI_pos (by omega))
    · intro h; exact ((q_m1 (by omega)).mp h).elim
theorem pin_ge {w : Nat → Int32} {s : Int32} (h8 : cP w ≤ 8) : (0 ≤ pin w s) ↔ pin w s ≠ -1 := by
  rw [← q_nlt, pin_neg h8]
theorem wh_neg {x : Int32} (h : x = -1 ∨ Rg x 9) : (x < 0) ↔ x = -1 := by
  rcases h with rfl | ⟨k, hk, rfl⟩
  · decide
  · constructor
    · intro h; exact absurd h (nI_pos (by omega))
    · intro h; exact ((q_m1 (by omega)).mp h).elim
def gst (w : Nat → Int32) (st : Int32) : Nat → Int32 := fun q => if w (4 * q + 44) = st then 1 <<< (nI q &&& 31) else 0
def gsl (w : Nat → Int32) : Nat → Int32 := fun q => if pin w (nI q) = -1 then 0 else 1 <<< (nI q &&& 31)
def gna (w : Nat → Int32) : Nat → Int32 := fun q => if w (4 * q + 12) = -1 then 0 else 1 <<< (nI q &&& 31)
def gwo (w : Nat → Int32) : Nat → Int32 := fun q => w (4 * q + 11)
section LO
variable {Θ : GP} {S : PZ} {ω : OW} {n : Nat}
theorem m_ofState_L {P : Nat} (hP : zA S 219 1 = nI P) (hP8 : P ≤ 6) {st : Int32} : ∀ (k p f : Nat) (a : Int32), p + k = P → k < f → L_X11_ofState_4 Θ f (gb Θ + 218) st a (nI p) (laz Θ S ω) n = some (.inl (some (.int (orL (gst (zA S 219) st) k p a)), laz Θ S ω, n)) := by
  intro k
  induction k with
  | zero =>
    intro p f a h1 h2
    obtain ⟨f, rfl⟩ : ∃ g, f = g + 1 := ⟨f - 1, by omega⟩
    unfold L_X11_ofState_4 B_X11_ofState_4
    rw [d218, m_oneCount, kI_v, hP, if_pos (nI_le (by omega) (by omega))]
    rfl
  | succ k ih =>
    intro p f a h1 h2
    obtain ⟨f, rfl⟩ : ∃ g, f = g + 1 := ⟨f - 1, by omega⟩
    unfold L_X11_ofState_4 B_X11_ofState_4 J_X11_ofState_30
    rw [d218, m_oneCount, kI_v, hP, if_neg (nI_ge (by omega) (by omega)), d218, m_of3 (by omega), kI_v]
    by_cases hc : zA S 219 (4 * p + 44) = st
    · rw [if_pos hc, nI_1, ih (p + 1) f _ (by omega) (by omega)]
      simp only [orL, gst, if_pos hc]
    · rw [if_neg hc, nI_1, ih (p + 1) f _ (by omega) (by omega)]
      simp only [orL, gst, if_neg hc]
theorem m_ofState {P : Nat} (hP : zA S 219 1 = nI P) (hP8 : P ≤ 6) (st : Int32) : F_X11_ofState Θ (gb Θ + 218) st (laz Θ S ω) n = some (.inl (some (.int (orL (gst (zA S 219) st) P 0 0)), laz Θ S ω, n)) := m_ofState_L hP hP8 P 0 5000 0 (by omega) (by omega)
theorem m_nailedOnes_L {P : Nat} (hP : zA S 219 0 = nI P) (hP8 : P ≤ 8) : ∀ (k p f : Nat) (a : Int32), p + k = P → k < f → L_X11_nailedOnes_4 Θ f (gb Θ + 218) a (nI p) (laz Θ S ω) n = some (.inl (some (.int (orL (gna (zA S 219)) k p a)), laz Θ S ω, n)) := by
  intro k
  induction k with
  | zero =>
    intro p f a h1 h2
    obtain ⟨f, rfl⟩ : ∃ g, f = g + 1 := ⟨f - 1, by omega⟩
    unfold L_X11_nailedOnes_4 B_X11_nailedOnes_4
    rw [d218, m_props, kI_v, hP, if_pos (nI_le (by omega) (by omega))]
    rfl
  | succ k ih =>
    intro p f a h1 h2
    obtain ⟨f, rfl⟩ : ∃ g, f = g + 1 := ⟨f - 1, by omega⟩
    unfold L_X11_nailedOnes_4 B_X11_nailedOnes_4 J_X11_nailedOnes_28
    rw [d218, m_props, kI_v, hP, if_neg (nI_ge (by omega) (by omega)), d218, m_isNailed (by omega), kI_v]
    by_cases hc : zA S 219 (4 * p + 12) = -1
    · rw [if_pos hc, if_pos rfl, nI_1, ih (p + 1) f _ (by omega) (by omega)]
      simp only [orL, gna, if_pos hc]
    · rw [if_neg hc, if_neg (by decide), nI_1, ih (p + 1) f _ (by omega) (by omega)]
      simp only [orL, gna, if_neg hc]
theorem m_nailedOnes {P : Nat} (hP : zA S 219 0 = nI P) (hP8 : P ≤ 8) : F_X11_nailedOnes Θ (gb Θ + 218) (laz Θ S ω) n = some (.inl (some (.int (orL (gna (zA S 219)) P 0 0)), laz Θ S ω, n)) := m_nailedOnes_L hP hP8 P 0 5000 0 (by omega) (by omega)
theorem m_wornOfAll_L {P : Nat} (hP : zA S 219 0 = nI P) (hP8 : P ≤ 8) : ∀ (k p f : Nat) (a : Int32), p + k = P → k < f → L_X11_wornOfAll_4 Θ f (gb Θ + 218) a (nI p) (laz Θ S ω) n = some (.inl (some (.int (adL (gwo (zA S 219)) k p a)), laz Θ S ω, n)) := by
  intro k
  induction k with
  | zero =>
    intro p f a h1 h2
    obtain ⟨f, rfl⟩ : ∃ g, f = g + 1 := ⟨f - 1, by omega⟩
    unfold L_X11_wornOfAll_4 B_X11_wornOfAll_4
    rw [d218, m_props, kI_v, hP, if_pos (nI_le (by omega) (by omega))]
    rfl
  | succ k ih =>
    intro p f a h1 h2
    obtain ⟨f, rfl⟩ : ∃ g, f = g + 1 := ⟨f - 1, by omega⟩
    unfold L_X11_wornOfAll_4 B_X11_wornOfAll_4 
    rw [d218, m_props, kI_v, hP, if_neg (nI_ge (by omega) (by omega)), d218, m_ofProp2 (by omega), kI_v]
    rw [nI_1, ih (p + 1) f _ (by omega) (by omega)]
    simp only [adL, gwo]
theorem m_wornOfAll {P : Nat} (hP : zA S 219 0 = nI P) (hP8 : P ≤ 8) : F_X11_wornOfAll Θ (gb Θ + 218) (laz Θ S ω) n = some (.inl (some (.int (adL (gwo (zA S 219)) P 0 0)), laz Θ S ω, n)) := m_wornOfAll_L hP hP8 P 0 5000 0 (by omega) (by omega)
theorem m_slotsWithProps_L {P : Nat} (hP : zA S 219 0 = nI P) (hP8 : P ≤ 8) : ∀ (k p f : Nat) (a : Int32), p + k = 10 → k < f → L_X11_slotsWithProps_4 Θ f (gb Θ + 218) a (nI p) (laz Θ S ω) n = some (.inl (some (.int (orL (gsl (zA S 219)) k p a)), laz Θ S ω, n)) := by
  intro k
  induction k with
  | zero =>
    intro p f a h1 h2
    obtain ⟨f, rfl⟩ : ∃ g, f = g + 1 := ⟨f - 1, by omega⟩
    unfold L_X11_slotsWithProps_4 B_X11_slotsWithProps_4
    rw [if_pos (show (10 : Int32) ≤ nI p from nI_le (a := 10) (by omega) (by omega))]
    rfl
  | succ k ih =>
    intro p f a h1 h2
    obtain ⟨f, rfl⟩ : ∃ g, f = g + 1 := ⟨f - 1, by omega⟩
    unfold L_X11_slotsWithProps_4 B_X11_slotsWithProps_4 J_X11_slotsWithProps_27
    rw [if_neg (show ¬ (10 : Int32) ≤ nI p from nI_ge (b := 10) (by omega) (by omega)), d218, m_propIn hP hP8, kI_v]
    by_cases hc : pin (zA S 219) (nI p) = -1
    · rw [if_pos hc, nI_1, ih (p + 1) f _ (by omega) (by omega)]
      simp only [orL, gsl, if_pos hc]
    · rw [if_neg hc, nI_1, ih (p + 1) f _ (by omega) (by omega)]
      simp only [orL, gsl, if_neg hc]
theorem m_slotsWithProps {P : Nat} (hP : zA S 219 0 = nI P) (hP8 : P ≤ 8) : F_X11_slotsWithProps Θ (gb Θ + 218) (laz Θ S ω) n = some (.inl (some (.int (orL (gsl (zA S 219)) 10 0 0)), laz Θ S ω, n)) := m_slotsWithProps_L hP hP8 10 0 5000 0 (by omega) (by omega)
theorem x_peopleOf_L {w : Nat → Int32} (hC : CR S 14 w) {P : Nat} (hP : zF S 14 1 = nI P) (hP8 : P ≤ 6) (hq : P = cO' w) {st : Int32} : ∀ (k p f : Nat) (a : Int32), p + k = P → k < f → L_X0_peopleOf_4 Θ f (gb Θ + 14) st a (nI p) (laz Θ S ω) n = some (.inl (some (.int (orL (gst w st) k p a)), laz Θ S ω, n)) := by
  intro k
  induction k with
  | zero =>
    intro p f a h1 h2
    obtain ⟨f, rfl⟩ : ∃ g, f = g + 1 := ⟨f - 1, by omega⟩
    unfold L_X0_peopleOf_4 B_X0_peopleOf_4
    rw [a14_1, hP, if_pos (nI_le (by omega) (by omega))]
    rfl
  | succ k ih =>
    intro p f a h1 h2
    obtain ⟨f, rfl⟩ : ∃ g, f = g + 1 := ⟨f - 1, by omega⟩
    unfold L_X0_peopleOf_4 B_X0_peopleOf_4 J_X0_peopleOf_30
    rw [a14_1, hP, if_neg (nI_ge (by omega) (by omega)), a14_15, l_23 (by omega), (CRa hC (show p < cO' w by omega)).2.2.2]
    by_cases hc : w (4 * p + 44) = st
    · rw [if_pos hc, nI_1, ih (p + 1) f _ (by omega) (by omega)]
      simp only [orL, gst, if_pos hc]
    · rw [if_neg hc, nI_1, ih (p + 1) f _ (by omega) (by omega)]
      simp only [orL, gst, if_neg hc]
theorem x_peopleOf {w : Nat → Int32} (hC : CR S 14 w) {P : Nat} (hP : zF S 14 1 = nI P) (hP8 : P ≤ 6) (hq : P = cO' w) (st : Int32) : F_X0_peopleOf Θ (gb Θ + 14) st (laz Θ S ω) n = some (.inl (some (.int (orL (gst w st) P 0 0)), laz Θ S ω, n)) := x_peopleOf_L hC hP hP8 hq P 0 5000 0 (by omega) (by omega)
theorem x_wornTogether_L (hC : CR S 14 (zA S 219)) {P : Nat} (hP : zF S 14 0 = nI P) (hP8 : P ≤ 8) (hq : P = cP (zA S 219)) (hW : WB (zA S 219)) : ∀ (k p f : Nat) (a : Int32), p + k = P → k < f → L_X10_wornTogether_4 Θ f (gb Θ) a (nI p) (laz Θ S ω) n = some (.inl (some (.int (adL (gwo (zA S 219)) k p a)), laz Θ S ω, n)) := by
  intro k
  induction k with
  | zero =>
    intro p f a h1 h2
    obtain ⟨f, rfl⟩ : ∃ g, f = g + 1 := ⟨f - 1, by omega⟩
    unfold L_X10_wornTogether_4 B_X10_wornTogether_4
    rw [r10_0, a14_0, hP, if_pos (nI_le (by omega) (by omega))]
    rfl
  | succ k ih =>
    intro p f a h1 h2
    obtain ⟨f, rfl⟩ : ∃ g, f = g + 1 := ⟨f - 1, by omega⟩
    unfold L_X10_wornTogether_4 B_X10_wornTogether_4 
    rw [r10_0, a14_0, hP, if_neg (nI_ge (by omega) (by omega)), r10_0, a14_9, l_17 (by omega), (CRp hC (show p < cP (zA S 219) by omega)).2.2.1]
    rw [nI_1, ih (p + 1) f _ (by omega) (by omega)]
    simp only [adL, gwo]
theorem x_wornTogether (hC : CR S 14 (zA S 219)) {P : Nat} (hP : zF S 14 0 = nI P) (hP8 : P ≤ 8) (hq : P = cP (zA S 219)) (hW : WB (zA S 219)) : F_X10_wornTogether Θ (gb Θ) (laz Θ S ω) n = some (.inl (some (.int (adL (gwo (zA S 219)) P 0 0)), laz Θ S ω, n)) := x_wornTogether_L hC hP hP8 hq hW P 0 5000 0 (by omega) (by omega)
theorem x_nailedProps_L (hC : CR S 14 (zA S 219)) {P : Nat} (hP : zF S 14 0 = nI P) (hP8 : P ≤ 8) (hq : P = cP (zA S 219)) (hW : WB (zA S 219)) : ∀ (k p f : Nat) (a : Int32), p + k = P → k < f → L_X10_nailedProps_4 Θ f (gb Θ) a (nI p) (laz Θ S ω) n = some (.inl (some (.int (orL (gna (zA S 219)) k p a)), laz Θ S ω, n)) := by
  intro k
  induction k with
  | zero =>
    intro p f a h1 h2
    obtain ⟨f, rfl⟩ : ∃ g, f = g + 1 := ⟨f - 1, by omega⟩
    unfold L_X10_nailedProps_4 B_X10_nailedProps_4
    rw [r10_0, a14_0, hP, if_pos (nI_le (by omega) (by omega))]
    rfl
  | succ k ih =>
    intro p f a h1 h2
    obtain ⟨f, rfl⟩ : ∃ g, f = g + 1 := ⟨f - 1, by omega⟩
    unfold L_X10_nailedProps_4 B_X10_nailedProps_4 J_X10_nailedProps_35
    rw [r10_0, a14_0, hP, if_neg (nI_ge (by omega) (by omega)), r10_0, a14_10, l_18 (by omega), (CRp hC (show p < cP (zA S 219) by omega)).2.2.2]
    have hw := wh_neg (hW.2.2.2.2.2.2.2.1 p (by omega)).2.2.2
    by_cases hc : zA S 219 (4 * p + 12) = -1
    · rw [if_pos (hw.mpr hc), nI_1, ih (p + 1) f _ (by omega) (by omega)]
      simp only [orL, gna, if_pos hc]
    · rw [if_neg (fun z => hc (hw.mp z)), nI_1, ih (p + 1) f _ (by omega) (by omega)]
      simp only [orL, gna, if_neg hc]
theorem x_nailedProps (hC : CR S 14 (zA S 219)) {P : Nat} (hP : zF S 14 0 = nI P) (hP8 : P ≤ 8) (hq : P = cP (zA S 219)) (hW : WB (zA S 219)) : F_X10_nailedProps Θ (gb Θ) (laz Θ S ω) n = some (.inl (some (.int (orL (gna (zA S 219)) P 0 0)), laz Θ S ω, n)) := x_nailedProps_L hC hP hP8 hq hW P 0 5000 0 (by omega) (by omega)
theorem x_slotsWithProp_L (hC : CR S 14 (zA S 219)) {P : Nat} (hP : zF S 14 0 = nI P) (hP8 : P ≤ 8) (hq : P = cP (zA S 219)) (hW : WB (zA S 219)) : ∀ (k p f : Nat) (a : Int32), p + k = 10 → k < f → L_X10_slotsWithProp_4 Θ f (gb Θ) a (nI p) (laz Θ S ω) n = some (.inl (some (.int (orL (gsl (zA S 219)) k p a)), laz Θ S ω, n)) := by
  intro k
  induction k with
  | zero =>
    intro p f a h1 h2
    obtain ⟨f, rfl⟩ : ∃ g, f = g + 1 := ⟨f - 1, by omega⟩
    unfold L_X10_slotsWithProp_4 B_X10_slotsWithProp_4
    rw [if_pos (show (10 : Int32) ≤ nI p from nI_le (a := 10) (by omega) (by omega))]
    rfl
  | succ k ih =>
    intro p f a h1 h2
    obtain ⟨f, rfl⟩ : ∃ g, f = g + 1 := ⟨f - 1, by omega⟩
    unfold L_X10_slotsWithProp_4 B_X10_slotsWithProp_4 J_X10_slotsWithProp_30
    rw [if_neg (show ¬ (10 : Int32) ≤ nI p from nI_ge (b := 10) (by omega) (by omega)), r10_0, a14_11, l_19 (by omega), CRt hC (show p < 10 by omega)]
    have hw := pin_neg (w := zA S 219) (s := nI p) (by omega)
    by_cases hc : pin (zA S 219) (nI p) = -1
    · rw [if_pos (hw.mpr hc), nI_1, ih (p + 1) f _ (by omega) (by omega)]
      simp only [orL, gsl, if_pos hc]
    · rw [if_neg (fun z => hc (hw.mp z)), nI_1, ih (p + 1) f _ (by omega) (by omega)]
      simp only [orL, gsl, if_neg hc]
theorem x_slotsWithProp (hC : CR S 14 (zA S 219)) {P : Nat} (hP : zF S 14 0 = nI P) (hP8 : P ≤ 8) (hq : P = cP (zA S 219)) (hW : WB (zA S 219)) : F_X10_slotsWithProp Θ (gb Θ) (laz Θ S ω) n = some (.inl (some (.int (orL (gsl (zA S 219)) 10 0 0)), laz Θ S ω, n)) := x_slotsWithProp_L hC hP hP8 hq hW 10 0 5000 0 (by omega) (by omega)
/-- what lies outside the picture -/
theorem o_rI {la c j : Nat} {fs : List Value} {x : Int32} {kk : Int32 → RO} (h : ω la = some (.inr (c, fs))) (hn : notOurs Θ la) (hj : fs[j]? = some (.int x)) : rI (laz Θ S ω) la c j kk = kk x := by
  unfold rI
  rw [laz_out Θ S ω hn, h]
  show (if c = c then _ else _) = _
  rw [if_pos rfl, hj]
theorem o_rA {la c j a : Nat} {fs : List Value} {kk : Nat → RO} (h : ω la = some (.inr (c, fs))) (hn : notOurs Θ la) (hj : fs[j]? = some (.ref a)) : rA (laz Θ S ω) la c j kk = kk a := by
  unfold rA
  rw [laz_out Θ S ω hn, h]
  show (if c = c then _ else _) = _
  rw [if_pos rfl, hj]
theorem o_cO {la c : Nat} {fs : List Value} {r : RO} (h : ω la = some (.inr (c, fs))) (hn : notOurs Θ la) : cO (laz Θ S ω) la c r = r := by
  unfold cO
  rw [laz_out Θ S ω hn, h]
  exact if_pos rfl
theorem o_lI {a i len : Nat} {f : Nat → Int32} {kk : Int32 → RO} (h : ω a = some (.inl (gI Θ, len, .inl f))) (hn : notOurs Θ a) (hi : i < len) (hl : len < 2 ^ 31) : lI (laz Θ S ω) (gI Θ) a (nI i) kk = kk (f i) := by
  unfold lI
  rw [laz_out Θ S ω hn, h]
  show (if gI Θ = gI Θ ∧ ¬ (nI i < 0 ∨ len ≤ (nI i).toNatClampNeg) then _ else _) = _
  rw [if_pos ⟨rfl, nI_in hi hl⟩, nI_clamp (by omega)]
end LO
theorem eq15 {v : Int32} (h : ∃ k, k < 15 ∧ v = nI k) : v = 0 ∨ v = 1 ∨ v = 2 ∨ v = 3 ∨ v = 4 ∨ v = 5 ∨ v = 6 ∨ v = 7 ∨ v = 8 ∨ v = 9 ∨ v = 10 ∨ v = 11 ∨ v = 12 ∨ v = 13 ∨ v = 14 := by
  obtain ⟨k, hk, rfl⟩ := h
  have q : k = 0 ∨ k = 1 ∨ k = 2 ∨ k = 3 ∨ k = 4 ∨ k = 5 ∨ k = 6 ∨ k = 7 ∨ k = 8 ∨ k = 9 ∨ k = 10 ∨ k = 11 ∨ k = 12 ∨ k = 13 ∨ k = 14 := by omega
  rcases q with rfl | rfl | rfl | rfl | rfl | rfl | rfl | rfl | rfl | rfl | rfl | rfl | rfl | rfl | rfl <;> simp [nI_lit] <;> decide
/-- count: what both answer -/
def cntS (S : PZ) (v : Int32) : Int32 :=
  if v = 0 then zA S 219 0 else if v = 1 then zA S 219 1 else if v = 2 then zA S 219 2 else if v = 3 then (if zA S 219 3 = 1 then zA S 219 305 else -1) else if v = 4 then zA S 219 4 else if v = 5 then zA S 219 5 else if v = 6 then zA S 219 6 else if v = 7 then orL (gsl (zA S 219)) 10 0 0
  else if v = 8 ∨ v = 9 ∨ v = 10 ∨ v = 11 then orL (gst (zA S 219) (v - 8)) (cO' (zA S 219)) 0 0 else if v = 12 then adL (gwo (zA S 219)) (cP (zA S 219)) 0 0 else if v = 13 then zA S 219 7 else if v = 14 then zF S 218 7 else -1

