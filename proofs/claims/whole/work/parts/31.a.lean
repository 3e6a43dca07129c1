/-! numbers -/
theorem nI_mul (a b : Nat) : nI a * nI b = nI (a * b) := (Int32.ofNat_mul a b).symm
theorem nI_lit (k : Nat) : (OfNat.ofNat k : Int32) = nI k := rfl
theorem q_le1 {k s : Nat} (hk : k < 2 ^ 31) (hs : s < 2 ^ 31) : ((OfNat.ofNat k : Int32) ≤ nI s) ↔ k ≤ s := nI_leI hk hs
theorem q_le2 {k s : Nat} (hk : k < 2 ^ 31) (hs : s < 2 ^ 31) : (nI s ≤ (OfNat.ofNat k : Int32)) ↔ s ≤ k := nI_leI hs hk
theorem q_lt1 {k s : Nat} (hk : k < 2 ^ 31) (hs : s < 2 ^ 31) : ((OfNat.ofNat k : Int32) < nI s) ↔ k < s := nI_ltI hk hs
theorem q_lt2 {k s : Nat} (hk : k < 2 ^ 31) (hs : s < 2 ^ 31) : (nI s < (OfNat.ofNat k : Int32)) ↔ s < k := nI_ltI hs hk
theorem q_eq2 {k s : Nat} (hk : k < 2 ^ 31) (hs : s < 2 ^ 31) : (nI s = (OfNat.ofNat k : Int32)) ↔ s = k := nI_eq hs hk
theorem q_eq1 {k s : Nat} (hk : k < 2 ^ 31) (hs : s < 2 ^ 31) : ((OfNat.ofNat k : Int32) = nI s) ↔ k = s := nI_eq hk hs
theorem m1_toInt : (-1 : Int32).toInt = -1 := by decide
theorem q_m1 {s : Nat} (hs : s < 2 ^ 31) : (nI s = -1) ↔ False := by
  constructor
  · intro h
    have e := congrArg Int32.toInt h
    rw [nI_toInt hs, m1_toInt] at e
    omega
  · exact False.elim
theorem q_m1' {s : Nat} (hs : s < 2 ^ 31) : (-1 = nI s) ↔ False := by
  rw [eq_comm, q_m1 hs]
theorem m1_neg : (-1 : Int32) < 0 := by decide
theorem m1_ge : ¬ (0 : Int32) ≤ -1 := by decide
theorem q_add (a k : Nat) : nI a + (OfNat.ofNat k : Int32) = nI (a + k) := nI_add a k
theorem q_add' (a k : Nat) : (OfNat.ofNat k : Int32) + nI a = nI (k + a) := nI_add k a
theorem q_mul (a k : Nat) : (OfNat.ofNat k : Int32) * nI a = nI (k * a) := nI_mul k a
theorem q_mul' (a k : Nat) : nI a * (OfNat.ofNat k : Int32) = nI (a * k) := nI_mul a k
theorem nI_sub {a b : Nat} (h : b ≤ a) : nI a - nI b = nI (a - b) := by
  have e : nI a = nI (a - b) + nI b := by rw [nI_add]; congr 1; omega
  rw [e, Int32.add_sub_cancel]
theorem q_sub {a k : Nat} (h : k ≤ a) : nI a - (OfNat.ofNat k : Int32) = nI (a - k) := nI_sub h
theorem nI_div {a b : Nat} (ha : a < 2 ^ 31) (hb : b < 2 ^ 31) : nI a / nI b = nI (a / b) := by
  have hd : a / b ≤ a := Nat.div_le_self a b
  rw [← Int32.toInt_inj, Int32.toInt_div, nI_toInt ha, nI_toInt hb, nI_toInt (by omega)]
  have : (Int.tdiv (a : Int) (b : Int)) = ((a / b : Nat) : Int) := (Int.ofNat_tdiv a b).symm
  rw [this]
  generalize a / b = c at hd ⊢
  exact Int.bmod_eq_of_le (by omega) (by omega)
theorem q_div {a k : Nat} (ha : a < 2 ^ 31) (hb : k < 2 ^ 31) : nI a / (OfNat.ofNat k : Int32) = nI (a / k) := nI_div ha hb
/-- a value that is none of 0 .. P-1 -/
theorem q_out {v : Int32} {P : Nat} (hP : P < 2 ^ 31) (h : ¬ ∃ p, p < P ∧ v = nI p) : v < 0 ∨ (¬ v < 0 ∧ nI P ≤ v) := by
  by_cases hv : v < 0
  · exact Or.inl hv
  · obtain ⟨j, hj, rfl⟩ := nI_of hv
    refine Or.inr ⟨hv, nI_le ?_ hj⟩
    apply Nat.le_of_not_lt
    intro hc
    exact h ⟨j, hc, rfl⟩
theorem q_pred {P : Nat} {v : Int32} (hP : P < 2 ^ 31) : (nI P - 1 < v) ↔ (nI P ≤ v) := by
  have e : (nI P - 1).toInt = (P : Int) - 1 := by
    rw [Int32.toInt_sub, nI_toInt hP]
    have h1 : (1 : Int32).toInt = 1 := by decide
    rw [h1]
    exact Int.bmod_eq_of_le (by omega) (by omega)
  rw [Int32.lt_iff_toInt_lt, Int32.le_iff_toInt_le, e, nI_toInt hP]
  omega
theorem q_nle {P : Nat} {v : Int32} (h : nI P ≤ v) : ¬ v < nI P := by
  rw [Int32.le_iff_toInt_le] at h
  rw [Int32.lt_iff_toInt_lt]
  omega
theorem q_nlt {a b : Int32} : (¬ a < b) ↔ b ≤ a := by
  rw [Int32.lt_iff_toInt_lt, Int32.le_iff_toInt_le]; omega
/-- x is one of 0 .. hi -/
def Rg (x : Int32) (hi : Nat) : Prop := ∃ k, k ≤ hi ∧ x = nI k
theorem ixp0 (p : Nat) : (9 + (4 * nI p)) + 0 = nI (4 * p + 9) := by
  show nI 9 + nI 4 * nI p + nI 0 = _
  rw [nI_mul, nI_add, nI_add]; congr 1; omega
theorem ixp1 (p : Nat) : (9 + (4 * nI p)) + 1 = nI (4 * p + 10) := by
  show nI 9 + nI 4 * nI p + nI 1 = _
  rw [nI_mul, nI_add, nI_add]; congr 1; omega
theorem ixp2 (p : Nat) : (9 + (4 * nI p)) + 2 = nI (4 * p + 11) := by
  show nI 9 + nI 4 * nI p + nI 2 = _
  rw [nI_mul, nI_add, nI_add]; congr 1; omega
theorem ixp3 (p : Nat) : (9 + (4 * nI p)) + 3 = nI (4 * p + 12) := by
  show nI 9 + nI 4 * nI p + nI 3 = _
  rw [nI_mul, nI_add, nI_add]; congr 1; omega
theorem ixa0 (p : Nat) : (41 + (4 * nI p)) + 0 = nI (4 * p + 41) := by
  show nI 41 + nI 4 * nI p + nI 0 = _
  rw [nI_mul, nI_add, nI_add]; congr 1; omega
theorem ixa1 (p : Nat) : (41 + (4 * nI p)) + 1 = nI (4 * p + 42) := by
  show nI 41 + nI 4 * nI p + nI 1 = _
  rw [nI_mul, nI_add, nI_add]; congr 1; omega
theorem ixa2 (p : Nat) : (41 + (4 * nI p)) + 2 = nI (4 * p + 43) := by
  show nI 41 + nI 4 * nI p + nI 2 = _
  rw [nI_mul, nI_add, nI_add]; congr 1; omega
theorem ixa3 (p : Nat) : (41 + (4 * nI p)) + 3 = nI (4 * p + 44) := by
  show nI 41 + nI 4 * nI p + nI 3 = _
  rw [nI_mul, nI_add, nI_add]; congr 1; omega
/-! the reference's small methods -/
section MB
variable {Θ : GP} {S : PZ} {ω : OW} {n : Nat}
theorem m_props : F_X11_props Θ (gb Θ + 218) (laz Θ S ω) n = some (.inl (some (.int (zA S 219 0)), laz Θ S ω, n)) := by
  unfold F_X11_props
  rw [a218_1, lI_lit, l_219 (by decide)]
theorem m_oneCount : F_X11_oneCount Θ (gb Θ + 218) (laz Θ S ω) n = some (.inl (some (.int (zA S 219 1)), laz Θ S ω, n)) := by
  unfold F_X11_oneCount
  rw [a218_1, lI_lit, l_219 (by decide)]
theorem m_ofProp0 {p : Nat} (hp : p < 8) : F_X11_ofProp Θ (gb Θ + 218) (nI p) 0 (laz Θ S ω) n = some (.inl (some (.int (zA S 219 (4 * p + 9))), laz Θ S ω, n)) := by
  unfold F_X11_ofProp F_X11_propAt
  rw [a218_1, kI_v, ixp0, l_219 (by omega)]
theorem m_ofProp1 {p : Nat} (hp : p < 8) : F_X11_ofProp Θ (gb Θ + 218) (nI p) 1 (laz Θ S ω) n = some (.inl (some (.int (zA S 219 (4 * p + 10))), laz Θ S ω, n)) := by
  unfold F_X11_ofProp F_X11_propAt
  rw [a218_1, kI_v, ixp1, l_219 (by omega)]
theorem m_ofProp2 {p : Nat} (hp : p < 8) : F_X11_ofProp Θ (gb Θ + 218) (nI p) 2 (laz Θ S ω) n = some (.inl (some (.int (zA S 219 (4 * p + 11))), laz Θ S ω, n)) := by
  unfold F_X11_ofProp F_X11_propAt
  rw [a218_1, kI_v, ixp2, l_219 (by omega)]
theorem m_ofProp3 {p : Nat} (hp : p < 8) : F_X11_ofProp Θ (gb Θ + 218) (nI p) 3 (laz Θ S ω) n = some (.inl (some (.int (zA S 219 (4 * p + 12))), laz Θ S ω, n)) := by
  unfold F_X11_ofProp F_X11_propAt
  rw [a218_1, kI_v, ixp3, l_219 (by omega)]
theorem m_of0 {p : Nat} (hp : p < 6) : F_X11_of Θ (gb Θ + 218) (nI p) 0 (laz Θ S ω) n = some (.inl (some (.int (zA S 219 (4 * p + 41))), laz Θ S ω, n)) := by
  unfold F_X11_of F_X11_oneAt
  rw [a218_1, kI_v, ixa0, l_219 (by omega)]
theorem m_of1 {p : Nat} (hp : p < 6) : F_X11_of Θ (gb Θ + 218) (nI p) 1 (laz Θ S ω) n = some (.inl (some (.int (zA S 219 (4 * p + 42))), laz Θ S ω, n)) := by
  unfold F_X11_of F_X11_oneAt
  rw [a218_1, kI_v, ixa1, l_219 (by omega)]
theorem m_of2 {p : Nat} (hp : p < 6) : F_X11_of Θ (gb Θ + 218) (nI p) 2 (laz Θ S ω) n = some (.inl (some (.int (zA S 219 (4 * p + 43))), laz Θ S ω, n)) := by
  unfold F_X11_of F_X11_oneAt
  rw [a218_1, kI_v, ixa2, l_219 (by omega)]
theorem m_of3 {p : Nat} (hp : p < 6) : F_X11_of Θ (gb Θ + 218) (nI p) 3 (laz Θ S ω) n = some (.inl (some (.int (zA S 219 (4 * p + 44))), laz Θ S ω, n)) := by
  unfold F_X11_of F_X11_oneAt
  rw [a218_1, kI_v, ixa3, l_219 (by omega)]
theorem m_isNailed {p : Nat} (hp : p < 8) : F_X11_isNailed Θ (gb Θ + 218) (nI p) (laz Θ S ω) n = some (.inl (some (.int (if zA S 219 (4 * p + 12) = -1 then 0 else 1)), laz Θ S ω, n)) := by
  unfold F_X11_isNailed J_X11_isNailed_15
  rw [d218, m_ofProp3 hp, kI_v]
  split
  · rw [bz_0]
  · rw [bz_1]
theorem m_waits {p : Nat} (hp : p < 6) : F_X11_waits Θ (gb Θ + 218) (nI p) (laz Θ S ω) n = some (.inl (some (.int (if zA S 219 (4 * p + 44) = 0 then 1 else 0)), laz Θ S ω, n)) := by
  unfold F_X11_waits J_X11_waits_14
  rw [d218, m_of3 hp, kI_v]
  split
  · rw [bz_1]
  · rw [bz_0]
theorem m_isInnocent {p : Nat} (hp : p < 6) : F_X11_isInnocent Θ (gb Θ + 218) (nI p) (laz Θ S ω) n = some (.inl (some (.int (if zA S 219 (4 * p + 41) = 0 then 1 else 0)), laz Θ S ω, n)) := by
  unfold F_X11_isInnocent J_X11_isInnocent_14
  rw [d218, m_of0 hp, kI_v]
  split
  · rw [bz_1]
  · rw [bz_0]
theorem m_in (v lo hi : Int32) (ω : OW) : F_X11_in Θ v lo hi ω n = some (.inl (some (.int (if v < lo ∨ hi < v then 0 else 1)), ω, n)) := by
  unfold F_X11_in J_X11_in_14 J_X11_in_15
  by_cases h1 : v < lo
  · rw [if_pos h1, if_pos (Or.inl h1), bz_0]
  · by_cases h2 : hi < v
    · rw [if_neg h1, if_pos h2, if_pos (Or.inr h2), bz_0]
    · rw [if_neg h1, if_neg h2, if_neg (fun h => h.elim h1 h2), bz_1]
theorem m_in1 {v lo hi : Int32} (h : ¬ (v < lo ∨ hi < v)) (ω : OW) : F_X11_in Θ v lo hi ω n = some (.inl (some (.int 1), ω, n)) := by
  rw [m_in, if_neg h]
theorem m_in0 {v lo hi : Int32} (h : v < lo ∨ hi < v) (ω : OW) : F_X11_in Θ v lo hi ω n = some (.inl (some (.int 0), ω, n)) := by
  rw [m_in, if_pos h]
theorem m_noProp_y {P p : Nat} (hP : zA S 219 0 = nI P) (hP8 : P ≤ 8) (hp : p < P) : F_X11_noProp Θ (gb Θ + 218) (nI p) (laz Θ S ω) n = some (.inl (some (.int 0), laz Θ S ω, n)) := by
  unfold F_X11_noProp J_X11_noProp_19
  rw [d218, m_props, kI_v, hP, m_in1, kI_v, if_neg (by decide), bz_0]
  rintro (h | h)
  · exact nI_pos (by omega) h
  · rw [q_pred (by omega), nI_leI (by omega) (by omega)] at h; omega
theorem m_noProp_n {P : Nat} {v : Int32} (hP : zA S 219 0 = nI P) (hP8 : P ≤ 8) (h : ¬ ∃ p, p < P ∧ v = nI p) : F_X11_noProp Θ (gb Θ + 218) v (laz Θ S ω) n = some (.inl (some (.int 1), laz Θ S ω, n)) := by
  unfold F_X11_noProp J_X11_noProp_19
  rw [d218, m_props, kI_v, hP, m_in0, kI_v, if_pos rfl, bz_1]
  rcases q_out (by omega) h with h | h
  · exact Or.inl h
  · exact Or.inr ((q_pred (by omega)).mpr h.2)
theorem m_noOne_y {P p : Nat} (hP : zA S 219 1 = nI P) (hP8 : P ≤ 6) (hp : p < P) : F_X11_noOne Θ (gb Θ + 218) (nI p) (laz Θ S ω) n = some (.inl (some (.int 0), laz Θ S ω, n)) := by
  unfold F_X11_noOne J_X11_noOne_19
  rw [d218, m_oneCount, kI_v, hP, m_in1, kI_v, if_neg (by decide), bz_0]
  rintro (h | h)
  · exact nI_pos (by omega) h
  · rw [q_pred (by omega), nI_leI (by omega) (by omega)] at h; omega
theorem m_noOne_n {P : Nat} {v : Int32} (hP : zA S 219 1 = nI P) (hP8 : P ≤ 6) (h : ¬ ∃ p, p < P ∧ v = nI p) : F_X11_noOne Θ (gb Θ + 218) v (laz Θ S ω) n = some (.inl (some (.int 1), laz Θ S ω, n)) := by
  unfold F_X11_noOne J_X11_noOne_19
  rw [d218, m_oneCount, kI_v, hP, m_in0, kI_v, if_pos rfl, bz_1]
  rcases q_out (by omega) h with h | h
  · exact Or.inl h
  · exact Or.inr ((q_pred (by omega)).mpr h.2)
theorem m_noSlot_y {p : Nat} (hp : p < 10) (ω : OW) : F_X11_noSlot Θ (nI p) ω n = some (.inl (some (.int 0), ω, n)) := by
  unfold F_X11_noSlot J_X11_noSlot_15
  rw [m_in1, kI_v, if_neg (by decide), bz_0]
  rintro (h | h)
  · exact nI_pos (by omega) h
  · have := (nI_ltI (a := 9) (b := p) (by omega) (by omega)).mp h
    omega
theorem m_noSlot_n {v : Int32} (h : ¬ ∃ p, p < 10 ∧ v = nI p) (ω : OW) : F_X11_noSlot Θ v ω n = some (.inl (some (.int 1), ω, n)) := by
  unfold F_X11_noSlot J_X11_noSlot_15
  rw [m_in0, kI_v, if_pos rfl, bz_1]
  rcases q_out (by omega) h with h | h
  · exact Or.inl h
  · refine Or.inr ?_
    have := h.2
    rw [Int32.le_iff_toInt_le, nI_toInt (by omega)] at this
    have h9 : (9 : Int32).toInt = 9 := by decide
    rw [Int32.lt_iff_toInt_lt, h9]
    omega
theorem m_throwsIf0 (c : Int32) : F_X11_throwsIf Θ (gb Θ + 218) 0 c (laz Θ S ω) n = some (.inl (some (.int 0), laz Θ S ω, n)) := by
  unfold F_X11_throwsIf J_X11_throwsIf_9
  rw [if_pos rfl, bz_0]
theorem m_throwsIf1 (c : Int32) : F_X11_throwsIf Θ (gb Θ + 218) 1 c (laz Θ S ω) n = some (.inl (some (.int 1), laz Θ (uF S 218 0 c) ω, n)) := by
  unfold F_X11_throwsIf J_X11_throwsIf_9
  rw [if_neg (by decide), b218_0, bz_1]
theorem m_thrown : F_X11_thrown Θ (gb Θ + 218) (laz Θ S ω) n = some (.inl (some (.int (zF S 218 0)), laz Θ S ω, n)) := by
  unfold F_X11_thrown
  rw [a218_0]
/-- the prop that is nailed in a slot -/
def pinL (w : Nat → Int32) (s : Int32) : Nat → Nat → Int32
  | 0, _ => -1
  | k + 1, p => if w (4 * p + 12) = s then nI p else pinL w s k (p + 1)
def pin (w : Nat → Int32) (s : Int32) : Int32 := pinL w s (w 0).toNatClampNeg 0
theorem m_propIn_L {P : Nat} {s : Int32} (hP : zA S 219 0 = nI P) (hP8 : P ≤ 8) : ∀ (k p f : Nat), p + k = P → k < f → L_X11_propIn_2 Θ f (gb Θ + 218) s (nI p) (laz Θ S ω) n = some (.inl (some (.int (pinL (zA S 219) s k p)), laz Θ S ω, n)) := by
  intro k
  induction k with
  | zero =>
    intro p f h1 h2
    obtain ⟨g, rfl⟩ : ∃ g, f = g + 1 := ⟨f - 1, by omega⟩
    unfold L_X11_propIn_2 B_X11_propIn_2
    rw [d218, m_props, kI_v, hP, if_pos (nI_le (by omega) (by omega))]
    rfl
  | succ k ih =>
    intro p f h1 h2
    obtain ⟨g, rfl⟩ : ∃ g, f = g + 1 := ⟨f - 1, by omega⟩
    unfold L_X11_propIn_2 B_X11_propIn_2
    rw [d218, m_props, kI_v, hP, if_neg (nI_ge (by omega) (by omega)), d218, m_ofProp3 (by omega), kI_v]
    unfold pinL
    split
    · rfl
    · rw [nI_1, ih (p + 1) g (by omega) (by omega)]
theorem m_propIn {P : Nat} {s : Int32} (hP : zA S 219 0 = nI P) (hP8 : P ≤ 8) : F_X11_propIn Θ (gb Θ + 218) s (laz Θ S ω) n = some (.inl (some (.int (pin (zA S 219) s)), laz Θ S ω, n)) := by
  unfold F_X11_propIn pin
  rw [hP, nI_clamp (by omega)]
  exact m_propIn_L hP hP8 P 0 5000 (by omega) (by omega)
end MB
