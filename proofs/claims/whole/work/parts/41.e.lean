/-! texts: numbers and deeds, the reference's reading -/
/-- the first three digits alone -/
def nu3 (x : TX) (q : Nat) : Nat → Nat → Nat → Nat
  | 0, _, a => a
  | k + 1, i, a => nu3 x q k (i + 1) (if i - q < 3 then 10 * a + x.2 i - 48 else a)
theorem nu3_eq (x : TX) (q : Nat) : ∀ k i a, i + k ≤ q + 3 → q ≤ i → nu3 x q k i a = nuF x k i a := by
  intro k
  induction k with
  | zero => intro i a _ _; rfl
  | succ k ih =>
    intro i a h1 h2
    unfold nu3 nuF
    rw [if_pos (by omega), Nat.mul_comm 10 a, ih (i + 1) _ (by omega) (by omega)]
section MN
variable {Θ : GP} {S : PZ} {ω : OW} {n : Nat} {x : TX}
theorem m_number_L (h : MTx S x) {q : Nat} {lo hi : Int32} (hq : q ≤ x.1) : ∀ (k p f a : Nat), p + k = x.1 → k < f → q ≤ p → p ≤ deT x q → L_X11_number_6 Θ f (gb Θ + 218) lo hi (nI a) (laz Θ (mT S p q) ω) n = some (.inl (some (.int (if deT x p = q ∨ 3 < deT x p - q ∨ nI (nu3 x q (deT x p - p) p a) < lo ∨ ¬ nI (nu3 x q (deT x p - p) p a) ≤ hi then -1 else nI (nu3 x q (deT x p - p) p a))), laz Θ (mT S (deT x p) q) ω, n)) := by
  have h4 := h.2.1
  have fin : ∀ (p f a : Nat), p ≤ x.1 → q ≤ p → dgP x p = false → L_X11_number_6 Θ (f + 1) (gb Θ + 218) lo hi (nI a) (laz Θ (mT S p q) ω) n = some (.inl (some (.int (if deT x p = q ∨ 3 < deT x p - q ∨ nI (nu3 x q (deT x p - p) p a) < lo ∨ ¬ nI (nu3 x q (deT x p - p) p a) ≤ hi then -1 else nI (nu3 x q (deT x p - p) p a))), laz Θ (mT S (deT x p) q) ω, n)) := by
    intro p f a hp hqp hz
    have ea := m_isAt (Θ := Θ) (ω := ω) (n := n) h (p := p) (b := q) (lo := 48) (hi := 57) hp (by omega) (by omega) (by omega)
    have ea : F_X11_isAt Θ (gb Θ + 218) 48 57 (laz Θ (mT S p q) ω) n = _ := ea
    rw [show L_X11_number_6 Θ (f + 1) (gb Θ + 218) lo hi (nI a) (laz Θ (mT S p q) ω) n = B_X11_number_6 Θ (L_X11_number_6 Θ f) (gb Θ + 218) lo hi (nI a) (laz Θ (mT S p q) ω) n from rfl, deT_n hz, Nat.sub_self, show nu3 x q 0 p a = a from rfl]
    unfold B_X11_number_6 J_X11_number_99 J_X11_number_104
    rw [d218, ea, kI_v, show decide (p < x.1 ∧ 48 ≤ x.2 p ∧ x.2 p ≤ 57) = dgP x p from rfl, hz, if_pos (show b01 false = 0 from rfl), a218_10, mT_p, a218_12, mT_b]
    by_cases z1 : p = q
    · rw [if_pos (by rw [z1]), if_pos (Or.inl z1)]
    · rw [if_neg (fun u => z1 ((nI_eq (by omega) (by omega)).mp u)), a218_10, mT_p, a218_12, mT_b, nI_sub hqp]
      by_cases z2 : 3 < p - q
      · rw [if_pos (show (3 : Int32) < nI (p - q) from nI_lt (a := 3) z2 (by omega)), if_pos (Or.inr (Or.inl z2))]
      · rw [if_neg (show ¬ (3 : Int32) < nI (p - q) from nI_nlt (a := 3) (by omega) (by omega))]
        by_cases z3 : nI a < lo
        · rw [if_pos z3, if_pos (Or.inr (Or.inr (Or.inl z3)))]
        · rw [if_neg z3]
          by_cases z5 : nI a ≤ hi
          · rw [if_pos z5, if_neg (fun u => u.elim z1 (fun u => u.elim z2 (fun u => u.elim z3 (fun u => u z5))))]
          · rw [if_neg z5, if_pos (Or.inr (Or.inr (Or.inr z5)))]
  intro k
  induction k with
  | zero =>
    intro p f a h1 h2 hqp hpd
    obtain ⟨f, rfl⟩ : ∃ g, f = g + 1 := ⟨f - 1, by omega⟩
    exact fin p f a (by omega) hqp (dgP_o x p (by omega))
  | succ k ih =>
    intro p f a h1 h2 hqp hpd
    obtain ⟨f, rfl⟩ : ∃ g, f = g + 1 := ⟨f - 1, by omega⟩
    cases hz : dgP x p with
    | false => exact fin p f a (by omega) hqp hz
    | true =>
      obtain ⟨hb1, hb2⟩ := h.2.2 p (by omega)
      have hd := of_decide_eq_true hz
      have ea := m_isAt (Θ := Θ) (ω := ω) (n := n) h (p := p) (b := q) (lo := 48) (hi := 57) (by omega) (by omega) (by omega) (by omega)
      have ea : F_X11_isAt Θ (gb Θ + 218) 48 57 (laz Θ (mT S p q) ω) n = _ := ea
      have hpd' : p + 1 ≤ deT x q := by
        apply Classical.byContradiction
        intro u
        have e : p = deT x q := by omega
        have := rnB_out (dgP_o x) (x.1 - q) q (by omega)
        rw [show rnB (dgP x) (x.1 - q) q = p from e.symm, hz] at this
        cases this
      have hdb := deT_b (x := x) (p := p + 1) (by omega)
      have e3 : nu3 x q (deT x p - p) p a = nu3 x q (deT x (p + 1) - (p + 1)) (p + 1) (if p - q < 3 then 10 * a + x.2 p - 48 else a) := by
        rw [deT_s hz, show deT x (p + 1) - p = (deT x (p + 1) - (p + 1)) + 1 by omega]
        rfl
      have e := ih (p + 1) f (if p - q < 3 then 10 * a + x.2 p - 48 else a) (by omega) (by omega) (by omega) hpd'
      rw [show L_X11_number_6 Θ (f + 1) (gb Θ + 218) lo hi (nI a) (laz Θ (mT S p q) ω) n = B_X11_number_6 Θ (L_X11_number_6 Θ f) (gb Θ + 218) lo hi (nI a) (laz Θ (mT S p q) ω) n from rfl, e3, deT_s hz, ← e]
      unfold B_X11_number_6 J_X11_number_51
      rw [d218, ea, kI_v, show decide (p < x.1 ∧ 48 ≤ x.2 p ∧ x.2 p ≤ 57) = dgP x p from rfl, hz, if_neg (show ¬ b01 true = 0 by decide), a218_10, mT_p, a218_12, mT_b, nI_sub hqp]
      by_cases y : p - q < 3
      · rw [if_neg (show ¬ (3 : Int32) ≤ nI (p - q) from nI_ge (b := 3) y (by omega)), a218_8, a218_10, mT_p, l_224 (by omega), mT_A, hb2, if_pos (by omega), if_pos y, a218_10, mT_p, nI_1, b218_10, mT_up]
        congr 1
        rw [show (10 : Int32) * nI a = nI (10 * a) from nI_mul 10 a, nI_add, show (48 : Int32) = nI 48 from rfl, nI_sub (by omega)]
      · rw [if_pos (show (3 : Int32) ≤ nI (p - q) from nI_le (a := 3) (by omega) (by omega)), a218_10, mT_p, nI_1, b218_10, mT_up, if_neg y]
theorem m_number (h : MTx S x) {p b : Nat} (hp : p ≤ x.1) (lo hi : Int32) : F_X11_number Θ (gb Θ + 218) lo hi (laz Θ (mT S p b) ω) n = some (.inl (some (.int (nmR x (skT x p) lo hi)), laz Θ (mT S (deT x (skT x p)) (skT x p)) ω, n)) := by
  have h4 := h.2.1
  have hq := skT_b hp
  have hd := deT_b hq.2
  have e := m_number_L (Θ := Θ) (ω := ω) (n := n) h (q := skT x p) (lo := lo) (hi := hi) hq.2 (x.1 - skT x p) (skT x p) 5000 0 (by omega) (by omega) (Nat.le_refl _) hd.1
  have e : L_X11_number_6 Θ 5000 (gb Θ + 218) lo hi 0 (laz Θ (mT S (skT x p) (skT x p)) ω) n = _ := e
  unfold F_X11_number
  rw [d218, m_blanks h hp, kV_v, e]
  generalize skT x p = q at *
  congr 4
  unfold nmR
  by_cases z : dgP x q = true
  · have hz : q < deT x q := by
      rw [deT_s z]
      have := deT_b (x := x) (p := q + 1) (by have := (of_decide_eq_true z).1; omega)
      omega
    by_cases y : deT x q - q ≤ 3
    · have e3 : nu3 x q (deT x q - q) q 0 = nuV x q := nu3_eq x q _ q 0 (by omega) (Nat.le_refl _)
      rw [e3]
      have hv := nuV_le hq.2 y
      by_cases u : ¬ nI (nuV x q) < lo ∧ ¬ hi < nI (nuV x q)
      · rw [if_neg (fun v => v.elim (by omega) (fun v => v.elim (by omega) (fun v => v.elim u.1 (fun v => v (q_nlt.mp u.2))))), if_pos ⟨z, y, u.1, u.2⟩]
      · have ho : deT x q = q ∨ 3 < deT x q - q ∨ nI (nuV x q) < lo ∨ ¬ nI (nuV x q) ≤ hi := by
          by_cases w : nI (nuV x q) < lo
          · exact Or.inr (Or.inr (Or.inl w))
          · exact Or.inr (Or.inr (Or.inr (fun v => u ⟨w, q_nlt.mpr v⟩)))
        rw [if_pos ho, if_neg (fun v => u ⟨v.2.2.1, v.2.2.2⟩)]
    · rw [if_pos (Or.inr (Or.inl (by omega))), if_neg (fun u => y u.2.1)]
  · rw [if_pos (Or.inl (deT_n (Bool.eq_false_iff.mpr z))), if_neg (fun u => z u.1)]
/-- a number behind a word that must stand there -/
theorem m_after (h : MTx S x) {p b s : Nat} (hs : s < 21) (hp : p ≤ x.1) (lo hi : Int32) : F_X11_after Θ (gb Θ + 218) s lo hi (laz Θ (mT S p b) ω) n = some (.inl (some (.int (if isWd x (skT x p) s = true then nmR x (skT x (weT x (skT x p))) lo hi else -1)), laz Θ (if isWd x (skT x p) s = true then mT S (deT x (skT x (weT x (skT x p)))) (skT x (weT x (skT x p))) else mT S (weT x (skT x p)) (skT x p)) ω, n)) := by
  have hq := skT_b hp
  have hw := weT_b hq.2
  unfold F_X11_after J_X11_after_22
  rw [d218, m_letters h hp, kV_v, d218, m_isWord h hs hq.2, kI_v]
  cases hz : isWd x (skT x p) s with
  | true => rw [if_neg (show ¬ b01 true = 0 by decide), d218, m_number h hw.2, kI_v, if_pos rfl, if_pos rfl]
  | false => rw [if_pos (show b01 false = 0 from rfl), if_neg (show ¬ false = true by decide), if_neg (show ¬ false = true by decide)]
theorem m_deeds_L (h : MTx S x) {e q : Nat} (he : e ≤ x.1) : ∀ (k i f : Nat) (a : Int32), i + k = e → k + 1 < f → (∀ j, i ≤ j → j < e → 97 ≤ x.2 j ∧ x.2 j ≤ 122) → L_X11_deedsTold_28 Θ f (gb Θ + 218) a 1 (nI i) (laz Θ (mT S e q) ω) n = some (.inl (some (.int (dlS x k i a)), laz Θ (mT S e q) ω, n)) := by
  have h4 := h.2.1
  intro k
  induction k with
  | zero =>
    intro i f a h1 h2 h3
    obtain ⟨f, rfl⟩ : ∃ g, f = g + 1 := ⟨f - 1, by omega⟩
    unfold L_X11_deedsTold_28 B_X11_deedsTold_28 J_X11_deedsTold_97 J_X11_deedsTold_106
    rw [a218_10, mT_p, if_pos (nI_le (by omega) (by omega)), if_neg (show ¬ (1 : Int32) = 0 by decide)]
    rfl
  | succ k ih =>
    intro i f a h1 h2 h3
    obtain ⟨f, rfl⟩ : ∃ g, f = g + 1 := ⟨f - 1, by omega⟩
    obtain ⟨hb1, hb2⟩ := h.2.2 i (by omega)
    have h97 := h3 i (Nat.le_refl _) (by omega)
    rw [if_pos (by omega)] at hb2
    have ev : nI (x.2 i) - 97 = nI (x.2 i - 97) := by rw [show (97 : Int32) = nI 97 from rfl, nI_sub h97.1]
    have stop : ∀ (f : Nat) (a' : Int32), 0 < f → L_X11_deedsTold_28 Θ f (gb Θ + 218) a' 0 (nI (i + 1)) (laz Θ (mT S e q) ω) n = some (.inl (some (.int (-1)), laz Θ (mT S e q) ω, n)) := by
      intro f a' hf
      obtain ⟨f, rfl⟩ : ∃ g, f = g + 1 := ⟨f - 1, by omega⟩
      unfold L_X11_deedsTold_28 B_X11_deedsTold_28 J_X11_deedsTold_97 J_X11_deedsTold_106
      rw [a218_10, mT_p, if_pos rfl, if_pos rfl]
      split <;> rfl
    rw [show L_X11_deedsTold_28 Θ (f + 1) (gb Θ + 218) a 1 (nI i) (laz Θ (mT S e q) ω) n = B_X11_deedsTold_28 Θ (L_X11_deedsTold_28 Θ f) (gb Θ + 218) a 1 (nI i) (laz Θ (mT S e q) ω) n from rfl, show dlS x (k + 1) i a = if 103 ≤ x.2 i ∨ hasS a (nI (x.2 i - 97)) = 1 then -1 else dlS x k (i + 1) (a ||| 1 <<< (nI (x.2 i - 97) &&& 31)) from rfl]
    unfold B_X11_deedsTold_28 J_X11_deedsTold_74 J_X11_deedsTold_75 J_X11_deedsTold_89
    rw [a218_10, mT_p, if_neg (nI_ge (by omega) (by omega)), if_neg (show ¬ (1 : Int32) = 0 by decide), a218_8, l_224 (by omega), mT_A, hb2, ev, m_in, kI_v, nI_1]
    by_cases z : 103 ≤ x.2 i
    · rw [if_pos (show nI (x.2 i - 97) < 0 ∨ (5 : Int32) < nI (x.2 i - 97) from Or.inr (nI_lt (a := 5) (by omega) (by omega))), if_pos rfl, if_pos rfl, stop f _ (by omega), if_pos (Or.inl z)]
    · rw [if_neg (show ¬ (nI (x.2 i - 97) < 0 ∨ (5 : Int32) < nI (x.2 i - 97)) from fun u => u.elim (nI_pos (by omega)) (nI_nlt (a := 5) (by omega) (by omega))), if_neg (show ¬ (1 : Int32) = 0 by decide), m_has, kI_v]
      rcases hasS_01 a (nI (x.2 i - 97)) with y | y
      · rw [y, if_pos rfl, if_neg (show ¬ (1 : Int32) = 0 by decide), if_neg (show ¬ (103 ≤ x.2 i ∨ (0 : Int32) = 1) from fun u => u.elim z (fun v => absurd v (by decide)))]
        exact ih (i + 1) f _ (by omega) (by omega) (fun j h5 h6 => h3 j (by omega) h6)
      · rw [y, if_neg (show ¬ (1 : Int32) = 0 by decide), if_pos rfl, stop f _ (by omega), if_pos (Or.inr rfl)]
theorem m_deedsTold (h : MTx S x) {p b : Nat} (hp : p ≤ x.1) : F_X11_deedsTold Θ (gb Θ + 218) (laz Θ (mT S p b) ω) n = some (.inl (some (.int (ddR x (skT x p))), laz Θ (mT S (weT x (skT x p)) (skT x p)) ω, n)) := by
  have h4 := h.2.1
  have hq := skT_b hp
  have hw := weT_b hq.2
  unfold F_X11_deedsTold J_X11_deedsTold_22 ddR
  rw [d218, m_letters h hp, kV_v, a218_10, mT_p, a218_12, mT_b]
  generalize skT x p = q at *
  by_cases z : ltP x q = true
  · have hz : q < weT x q := by
      rw [weT_s z]
      have := weT_b (x := x) (p := q + 1) (by have := (of_decide_eq_true z).1; omega)
      omega
    rw [if_neg (nI_ge hz (by omega)), a218_12, mT_b, if_pos z, m_deeds_L h hw.2 (weT x q - q) q 5000 0 (by omega) (by omega) (fun j h1 h2 => by
      have := of_decide_eq_true (rnB_in (ltP x) (x.1 - q) q j h1 h2)
      exact ⟨this.2.1, this.2.2⟩)]
  · rw [weT_n (Bool.eq_false_iff.mpr z), if_pos (nI_le (Nat.le_refl _) (by omega)), a218_12, mT_b, if_neg z]
    show B_X11_deedsTold_28 Θ (L_X11_deedsTold_28 Θ 4999) (gb Θ + 218) 0 0 (nI q) (laz Θ (mT S q q) ω) n = _
    unfold B_X11_deedsTold_28 J_X11_deedsTold_97 J_X11_deedsTold_106
    rw [a218_10, mT_p, if_pos (nI_le (Nat.le_refl _) (by omega)), if_pos rfl]
end MN
