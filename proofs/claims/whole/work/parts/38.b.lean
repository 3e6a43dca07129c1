/-! promise 32: cover -/
theorem orL_bt {g : Nat → Int32} {i : Nat} : ∀ (k p : Nat) (a : Int32), bt (orL g k p a) i = true ↔ (bt a i = true ∨ ∃ q, p ≤ q ∧ q < p + k ∧ bt (g q) i = true) := by
  intro k
  induction k with
  | zero =>
    intro p a
    constructor
    · exact Or.inl
    · rintro (h | ⟨q, h1, h2, _⟩)
      · exact h
      · omega
  | succ k ih =>
    intro p a
    show bt (orL g k (p + 1) (a ||| g p)) i = true ↔ _
    rw [ih, b_or, Bool.or_eq_true]
    constructor
    · rintro ((h | h) | ⟨q, h1, h2, h3⟩)
      · exact Or.inl h
      · exact Or.inr ⟨p, by omega, by omega, h⟩
      · exact Or.inr ⟨q, by omega, by omega, h3⟩
    · rintro (h | ⟨q, h1, h2, h3⟩)
      · exact Or.inl (Or.inl h)
      · by_cases z : q = p
        · subst z; exact Or.inl (Or.inr h3)
        · exact Or.inr ⟨q, by omega, by omega, h3⟩
theorem and_sh {x : Int32} {d : Nat} (hd : d < 32) : x &&& (1 <<< (nI d &&& 31)) = 0 ↔ ¬ bt x d = true := by
  constructor
  · intro h e
    have := congrArg (fun z => bt z d) h
    have : bt (x &&& (1 <<< (nI d &&& 31))) d = bt 0 d := this
    rw [b_and, bt_sh hd hd, b_0, e, decide_eq_true rfl] at this
    cases this
  · intro h
    apply b_ext
    intro i hi
    rw [b_and, bt_sh hd hi, b_0]
    by_cases z : i = d
    · subst z; rw [Bool.eq_false_iff.mpr h]; rfl
    · rw [decide_eq_false z, Bool.and_false]
def gde (w : Nat → Int32) : Nat → Int32 := fun q => if w (4 * q + 44) = 0 then w (4 * q + 41) else 0
def ddW (w : Nat → Int32) (p : Nat) : Nat := (w (4 * p + 9)).toNatClampNeg
theorem ddW_eq {w : Nat → Int32} (hW : WB w) {p : Nat} (hp : p < 8) : w (4 * p + 9) = nI (ddW w p) ∧ ddW w p ≤ 5 := by
  obtain ⟨k, h1, h2⟩ := (hW.2.2.2.2.2.2.2.1 p hp).1
  have : ddW w p = k := by unfold ddW; rw [h2]; exact nI_clamp (by omega)
  rw [this]; exact ⟨h2, h1⟩
def gsh (w : Nat → Int32) (x : Int32) : Nat → Int32 := fun q => if hasS x (nI q) = 0 then 0 else 1 <<< (w (4 * q + 9) &&& 31)
def shwS (w : Nat → Int32) (x : Int32) : Int32 := orL (gsh w x) (cP w) 0 0
theorem shwS_bt {w : Nat → Int32} (hW : WB w) {x : Int32} {i : Nat} (hi : i < 32) : bt (shwS w x) i = true ↔ ∃ q, q < cP w ∧ bt x q = true ∧ ddW w q = i := by
  have h8 := hW.P8
  unfold shwS
  rw [orL_bt]
  constructor
  · rintro (h | ⟨q, h1, h2, h3⟩)
    · rw [b_0] at h; cases h
    · have hd := ddW_eq hW (show q < 8 by omega)
      unfold gsh at h3
      rcases hasS_01 x (nI q) with z | z
      · rw [if_pos z, b_0] at h3; cases h3
      · rw [if_neg (by rw [z]; decide), hd.1, bt_sh (by omega) hi, decide_eq_true_iff] at h3
        exact ⟨q, by omega, (hasS_bt (by omega)).mp z, h3.symm⟩
  · rintro ⟨q, h1, h2, h3⟩
    have hd := ddW_eq hW (show q < 8 by omega)
    refine Or.inr ⟨q, by omega, by omega, ?_⟩
    unfold gsh
    rw [if_neg (by rw [(hasS_bt (by omega)).mpr h2]; decide), hd.1, bt_sh (by omega) hi, decide_eq_true_iff]
    exact h3.symm
def gcv (w : Nat → Int32) (due : Int32) (s : Nat) : Bool := decide (due &&& (shwS w (nI s) ^^^ -1) = 0)
theorem gcv_iff {w : Nat → Int32} (hW : WB w) (D : Int32) {s : Nat} (hs : s < 2 ^ cP w) : gcv w (D &&& shwS w (nI (2 ^ cP w - 1))) s = true ↔ cvB (ddW w) s.testBit (wpB (ddW w) (bt D) 0) (cP w) 0 := by
  have h8 := hW.P8
  have hpos : 0 < 2 ^ cP w := Nat.pow_pos (by omega)
  have hfull : ∀ q, q < cP w → bt (nI (2 ^ cP w - 1)) q = true := fun q hq => by
    rw [bt_nat (by omega), Nat.testBit_two_pow_sub_one]; exact decide_eq_true hq
  unfold gcv
  rw [decide_eq_true_iff]
  constructor
  · intro h d hd ⟨q, q1, q2, q3⟩
    have h5 := ddW_eq hW (show q < 8 by omega)
    have hd32 : d < 32 := by omega
    have e := congrArg (fun z => bt z d) h
    have e : bt ((D &&& shwS w (nI (2 ^ cP w - 1))) &&& (shwS w (nI s) ^^^ -1)) d = bt 0 d := e
    rw [b_and, b_and, b_xor, b_m1 d hd32, b_0, hd.1, (shwS_bt hW hd32).mpr ⟨q, by omega, hfull q (by omega), q3⟩] at e
    have e2 : bt (shwS w (nI s)) d = true := by
      cases x : bt (shwS w (nI s)) d
      · rw [x] at e; cases e
      · rfl
    obtain ⟨r, r1, r2, r3⟩ := (shwS_bt hW hd32).mp e2
    exact ⟨r, by omega, by omega, by rw [bt_nat (by omega)] at r2; exact r2, r3⟩
  · intro h
    apply b_ext
    intro i hi
    rw [b_and, b_and, b_xor, b_m1 i hi, b_0]
    cases x : bt D i
    · rfl
    · cases y : bt (shwS w (nI (2 ^ cP w - 1))) i
      · rfl
      · obtain ⟨q, q1, q2, q3⟩ := (shwS_bt hW hi).mp y
        obtain ⟨r, r1, r2, r3, r4⟩ := h i ⟨x, fun y hy => by omega⟩ ⟨q, by omega, by omega, q3⟩
        rw [(shwS_bt hW hi).mpr ⟨r, by omega, by rw [bt_nat (by omega)]; exact r3, r4⟩]
        rfl
theorem two_tab : ∀ p, p < 9 → ((1 : Int32) <<< (nI p &&& 31)) - 1 = nI (2 ^ p - 1) := by decide +kernel
section CV
variable {Θ : GP} {S : PZ} {ω : OW} {n : Nat} {w : Nat → Int32}
theorem x_cov4_L (hC : Core Θ S ω) : ∀ (k p f : Nat) (a : Int32), p + k = cO' (zA S 219) → k < f → L_X10_cover_4 Θ f (gb Θ) a (nI p) (laz Θ S ω) n = L_X10_cover_52 Θ 5000 (gb Θ) (orL (gde (zA S 219)) k p a) 0 0 (laz Θ S ω) n := by
  have h6 := hC.O
  intro k
  induction k with
  | zero =>
    intro p f a h1 h2
    obtain ⟨f, rfl⟩ : ∃ g, f = g + 1 := ⟨f - 1, by omega⟩
    unfold L_X10_cover_4 B_X10_cover_4
    rw [r10_0, a14_1, h6.2.2, if_pos (nI_le (by omega) (by omega)), show orL (gde (zA S 219)) 0 p a = a from rfl]
  | succ k ih =>
    intro p f a h1 h2
    obtain ⟨f, rfl⟩ : ∃ g, f = g + 1 := ⟨f - 1, by omega⟩
    have hp : p < cO' (zA S 219) := by omega
    rw [show L_X10_cover_4 Θ (f + 1) (gb Θ) a (nI p) (laz Θ S ω) n = B_X10_cover_4 Θ (L_X10_cover_4 Θ f) (gb Θ) a (nI p) (laz Θ S ω) n from rfl, show orL (gde (zA S 219)) (k + 1) p a = orL (gde (zA S 219)) k (p + 1) (a ||| gde (zA S 219) p) from rfl]
    unfold B_X10_cover_4 J_X10_cover_40
    rw [r10_0, a14_1, h6.2.2, if_neg (nI_ge (by omega) (by omega)), r10_0, d14, x_waits hC rfl hp, kI_v, nI_1]
    by_cases z : zA S 219 (4 * p + 44) = 0
    · rw [if_pos z, if_neg (show ¬ (1 : Int32) = 0 by decide), r10_0, a14_12, l_20 (by omega), (CRa hC.1.2.1 hp).1, ih (p + 1) f _ (by omega) (by omega)]
      unfold gde
      rw [if_pos z]
    · rw [if_neg z, if_pos rfl, ih (p + 1) f _ (by omega) (by omega)]
      unfold gde
      rw [if_neg z]
theorem x_cov52_L (hC : Core Θ S ω) (W : Nat → Bool) : ∀ (k p f m : Nat) (l1 : Int32), p + k = cP (zA S 219) → k < f → m < 2 ^ p → (∀ d, d < 6 → (bt l1 d = true ↔ wpB (ddW (zA S 219)) W p d)) → L_X10_cover_52 Θ f (gb Θ) l1 (nI m) (nI p) (laz Θ S ω) n = some (.inl (some (.int (nI (m + vlB (pkB (ddW (zA S 219)) W) k p))), laz Θ S ω, n)) := by
  have h8 := hC.P
  intro k
  induction k with
  | zero =>
    intro p f m l1 h1 h2 hm hb
    obtain ⟨f, rfl⟩ : ∃ g, f = g + 1 := ⟨f - 1, by omega⟩
    unfold L_X10_cover_52 B_X10_cover_52
    rw [r10_0, a14_0, h8.2.2, if_pos (nI_le (by omega) (by omega))]
    rfl
  | succ k ih =>
    intro p f m l1 h1 h2 hm hb
    obtain ⟨f, rfl⟩ : ∃ g, f = g + 1 := ⟨f - 1, by omega⟩
    have hp : p < cP (zA S 219) := by omega
    have hd := ddW_eq hC.1.1 (show p < 8 by omega)
    have e2 : 2 ^ (p + 1) = 2 ^ p + 2 ^ p := by rw [Nat.pow_succ]; omega
    rw [show L_X10_cover_52 Θ (f + 1) (gb Θ) l1 (nI m) (nI p) (laz Θ S ω) n = B_X10_cover_52 Θ (L_X10_cover_52 Θ f) (gb Θ) l1 (nI m) (nI p) (laz Θ S ω) n from rfl, show vlB (pkB (ddW (zA S 219)) W) (k + 1) p = (if pkB (ddW (zA S 219)) W p = true then 2 ^ p else 0) + vlB (pkB (ddW (zA S 219)) W) k (p + 1) from rfl]
    unfold B_X10_cover_52 J_X10_cover_96
    rw [r10_0, a14_0, h8.2.2, if_neg (nI_ge (by omega) (by omega)), r10_0, a14_7, l_15 (by omega), (CRp hC.1.2.1 hp).1, hd.1, nI_1]
    by_cases z : bt l1 (ddW (zA S 219) p) = true
    · have hw := (hb _ (by omega)).mp z
      have eo : nI m ||| (1 : Int32) <<< (nI p &&& 31) = nI (2 ^ p + m) := by
        have := Nat.two_pow_add_eq_or_of_lt hm 1
        rw [Nat.mul_one] at this
        rw [bit_rg p (by omega), nI_or, Nat.or_comm, ← this]
      rw [if_neg (fun u => (and_sh (by omega)).mp u z), if_pos (pkB_iff.mpr hw), eo, ih (p + 1) f (2 ^ p + m) _ (by omega) (by omega) (by omega) ?_]
      · congr 6; omega
      · intro d hd6
        rw [wpB_s, ← hb d hd6, b_and, b_xor, bt_sh (by omega) (by omega), b_m1 d (by omega), Bool.and_eq_true]
        by_cases y : d = ddW (zA S 219) p
        · rw [decide_eq_true y]
          exact ⟨fun u => absurd u.2 (by decide), fun u => absurd y u.2⟩
        · rw [decide_eq_false y]
          exact ⟨fun u => ⟨u.1, y⟩, fun u => ⟨u.1, rfl⟩⟩
    · have hw : ¬ wpB (ddW (zA S 219)) W p (ddW (zA S 219) p) := fun u => z ((hb _ (by omega)).mpr u)
      rw [if_pos ((and_sh (by omega)).mpr z), if_neg (fun u => hw (pkB_iff.mp u)), Nat.zero_add]
      refine ih (p + 1) f m l1 (by omega) (by omega) (by omega) (fun d hd6 => ?_)
      rw [wpB_s, hb d hd6]
      exact ⟨fun u => ⟨u, fun e => hw (by rw [← e]; exact u)⟩, fun u => u.1⟩
theorem m_shown_L (hw : zA S 219 = w) (hW : WB w) (x : Int32) : ∀ (k p f : Nat) (a : Int32), p + k = cP w → k < f → L_X11_shownBy_4 Θ f (gb Θ + 218) x a (nI p) (laz Θ S ω) n = some (.inl (some (.int (orL (gsh w x) k p a)), laz Θ S ω, n)) := by
  have h8 := hW.P8
  intro k
  induction k with
  | zero =>
    intro p f a h1 h2
    obtain ⟨f, rfl⟩ : ∃ g, f = g + 1 := ⟨f - 1, by omega⟩
    unfold L_X11_shownBy_4 B_X11_shownBy_4
    rw [d218, m_props, kI_v, hw, h8.1, if_pos (nI_le (by omega) (by omega))]
    rfl
  | succ k ih =>
    intro p f a h1 h2
    obtain ⟨f, rfl⟩ : ∃ g, f = g + 1 := ⟨f - 1, by omega⟩
    rw [show L_X11_shownBy_4 Θ (f + 1) (gb Θ + 218) x a (nI p) (laz Θ S ω) n = B_X11_shownBy_4 Θ (L_X11_shownBy_4 Θ f) (gb Θ + 218) x a (nI p) (laz Θ S ω) n from rfl, show orL (gsh w x) (k + 1) p a = orL (gsh w x) k (p + 1) (a ||| gsh w x p) from rfl]
    unfold B_X11_shownBy_4 J_X11_shownBy_33
    rw [d218, m_props, kI_v, hw, h8.1, if_neg (nI_ge (by omega) (by omega)), m_has, kI_v, nI_1]
    unfold gsh
    by_cases z : hasS x (nI p) = 0
    · rw [if_pos z, if_pos z]
      exact ih (p + 1) f _ (by omega) (by omega)
    · rw [if_neg z, if_neg z, d218, m_ofProp0 (by omega), kI_v, hw]
      exact ih (p + 1) f _ (by omega) (by omega)
theorem m_shownBy (hw : zA S 219 = w) (hW : WB w) (x : Int32) : F_X11_shownBy Θ (gb Θ + 218) x (laz Θ S ω) n = some (.inl (some (.int (shwS w x)), laz Θ S ω, n)) := by
  have h8 := hW.P8
  exact m_shown_L hw hW x (cP w) 0 5000 0 (by omega) (by omega)
theorem m_cov63_L (hw : zA S 219 = w) (hW : WB w) {due : Int32} : ∀ (k f b : Nat), k ≤ 256 → k < f → b < 256 → L_X11_cover_63 Θ f (gb Θ + 218) (nI b) due (nI k + (-1)) (laz Θ S ω) n = some (.inl (some (.int (nI (lvM (gcv w due) k b))), laz Θ S ω, n)) := by
  intro k
  induction k with
  | zero =>
    intro f b h1 h2 hb
    obtain ⟨f, rfl⟩ : ∃ g, f = g + 1 := ⟨f - 1, by omega⟩
    unfold L_X11_cover_63 B_X11_cover_63
    rw [if_pos (by decide)]
    rfl
  | succ k ih =>
    intro f b h1 h2 hb
    obtain ⟨f, rfl⟩ : ∃ g, f = g + 1 := ⟨f - 1, by omega⟩
    have p1 := cnt8_le k
    have p2 := cnt8_le b
    rw [m1_add (by omega), show k + 1 - 1 = k by omega, show L_X11_cover_63 Θ (f + 1) (gb Θ + 218) (nI b) due (nI k) (laz Θ S ω) n = B_X11_cover_63 Θ (L_X11_cover_63 Θ f) (gb Θ + 218) (nI b) due (nI k) (laz Θ S ω) n from rfl, show lvM (gcv w due) (k + 1) b = lvM (gcv w due) k (if gcv w due k = true ∧ cnt8 k ≤ cnt8 b then k else b) from rfl]
    unfold B_X11_cover_63 J_X11_cover_94 J_X11_cover_95
    rw [if_neg (nI_pos (by omega)), e_bc, kI_v, e_bc, kI_v, bc_tab k (by omega), bc_tab b hb]
    by_cases y : cnt8 k ≤ cnt8 b
    · rw [if_neg (show ¬ nI (cnt8 b) < nI (cnt8 k) from nI_nlt (by omega) (by omega)), d218, m_shownBy hw hW, kI_v]
      by_cases v : due &&& (shwS w (nI k) ^^^ -1) = 0
      · rw [if_pos v, if_pos (show gcv w due k = true ∧ cnt8 k ≤ cnt8 b from ⟨decide_eq_true v, y⟩)]
        exact ih f k (by omega) (by omega) (by omega)
      · rw [if_neg v, if_neg (show ¬ (gcv w due k = true ∧ cnt8 k ≤ cnt8 b) from fun u => v (of_decide_eq_true u.1))]
        exact ih f b (by omega) (by omega) hb
    · rw [if_pos (show nI (cnt8 b) < nI (cnt8 k) from nI_lt (by omega) (by omega)), if_neg (fun u => y u.2)]
      exact ih f b (by omega) (by omega) hb
theorem m_cov18_L (hw : zA S 219 = w) (hW : WB w) {x : Int32} : ∀ (k p f : Nat) (a : Int32), p + k = cO' w → k < f → L_X11_cover_18 Θ f (gb Θ + 218) x a (nI p) (laz Θ S ω) n = L_X11_cover_63 Θ 5000 (gb Θ + 218) x (orL (gde w) k p a &&& shwS w x) x (laz Θ S ω) n := by
  have h6 := hW.O6
  intro k
  induction k with
  | zero =>
    intro p f a h1 h2
    obtain ⟨f, rfl⟩ : ∃ g, f = g + 1 := ⟨f - 1, by omega⟩
    unfold L_X11_cover_18 B_X11_cover_18
    rw [d218, m_oneCount, kI_v, hw, h6.1, if_pos (nI_le (by omega) (by omega)), d218, m_shownBy hw hW, kI_v, show orL (gde w) 0 p a = a from rfl]
  | succ k ih =>
    intro p f a h1 h2
    obtain ⟨f, rfl⟩ : ∃ g, f = g + 1 := ⟨f - 1, by omega⟩
    rw [show L_X11_cover_18 Θ (f + 1) (gb Θ + 218) x a (nI p) (laz Θ S ω) n = B_X11_cover_18 Θ (L_X11_cover_18 Θ f) (gb Θ + 218) x a (nI p) (laz Θ S ω) n from rfl, show orL (gde w) (k + 1) p a = orL (gde w) k (p + 1) (a ||| gde w p) from rfl]
    unfold B_X11_cover_18 J_X11_cover_45
    rw [d218, m_oneCount, kI_v, hw, h6.1, if_neg (nI_ge (by omega) (by omega)), d218, m_waits (by omega), kI_v, hw, nI_1]
    unfold gde
    by_cases z : w (4 * p + 44) = 0
    · rw [if_pos z, if_pos z, if_neg (show ¬ (1 : Int32) = 0 by decide), d218, m_of0 (by omega), kI_v, hw]
      exact ih (p + 1) f _ (by omega) (by omega)
    · rw [if_neg z, if_neg z, if_pos rfl]
      exact ih (p + 1) f _ (by omega) (by omega)
end CV
theorem pc30 (Θ : GP) : PC_30 Θ (gb Θ) (gb Θ + 218) (gb Θ + 234) (Inv Θ) := by
  intro v xs i hI
  obtain ⟨S, ω, rfl, hC, hI⟩ := hI
  have hP := hC.P
  have hO := hC.O
  have hpos : 0 < 2 ^ cP (zA S 219) := Nat.pow_pos (by omega)
  have hle : 2 ^ cP (zA S 219) ≤ 2 ^ 8 := Nat.pow_le_pow_right (by omega) hP.2.1
  show stI (gb Θ) (gb Θ + 218) (fun ω n => F_X10_cover Θ (gb Θ) ω n) (fun ω n => F_X11_cover Θ (gb Θ + 218) ω n) (Inv Θ) _
  refine fin_I fun n _ => ⟨nI (vlB (pkB (ddW (zA S 219)) (bt (orL (gde (zA S 219)) (cO' (zA S 219)) 0 0))) (cP (zA S 219)) 0), S, ω, n, ?_, fun n2 => ⟨uF S 218 0 0, n2, ?_, hC.thr, hI.thr⟩⟩
  · show F_X10_cover Θ (gb Θ) (laz Θ S ω) n = _
    unfold F_X10_cover
    have e1 : L_X10_cover_4 Θ 5000 (gb Θ) 0 0 (laz Θ S ω) n = _ := x_cov4_L (n := n) hC (cO' (zA S 219)) 0 5000 0 (by omega) (by omega)
    have e2 : L_X10_cover_52 Θ 5000 (gb Θ) (orL (gde (zA S 219)) (cO' (zA S 219)) 0 0) 0 0 (laz Θ S ω) n = _ := x_cov52_L (n := n) hC (bt (orL (gde (zA S 219)) (cO' (zA S 219)) 0 0)) (cP (zA S 219)) 0 5000 0 _ (by omega) (by omega) (by decide) (fun d _ => ⟨fun u => ⟨u, fun y hy => by omega⟩, fun u => u.1⟩)
    rw [e1, e2, Nat.zero_add]
  · show F_X11_cover Θ (gb Θ + 218) (laz Θ S ω) n2 = _
    have hw : zA (uF S 218 0 0) 219 = zA S 219 := rfl
    unfold F_X11_cover
    rw [b218_0, d218, m_props, kI_v, hw, hP.1, two_tab _ (by omega)]
    have e1 : L_X11_cover_18 Θ 5000 (gb Θ + 218) (nI (2 ^ cP (zA S 219) - 1)) 0 0 (laz Θ (uF S 218 0 0) ω) n2 = _ := m_cov18_L (Θ := Θ) (ω := ω) (n := n2) hw hC.1.1 (cO' (zA S 219)) 0 5000 0 (by omega) (by omega)
    have e2 := m_cov63_L (Θ := Θ) (ω := ω) (n := n2) hw hC.1.1 (due := orL (gde (zA S 219)) (cO' (zA S 219)) 0 0 &&& shwS (zA S 219) (nI (2 ^ cP (zA S 219) - 1))) (2 ^ cP (zA S 219)) 5000 (2 ^ cP (zA S 219) - 1) (by omega) (by omega) (by omega)
    rw [m1_add (by omega)] at e2
    rw [e1, e2, cov_eq hP.2.1 (fun s hs => gcv_iff hC.1.1 _ hs)]
