/-! cover: sets of props by which all is shown -/
def vlB (f : Nat → Bool) : Nat → Nat → Nat
  | 0, _ => 0
  | k + 1, p => (if f p = true then 2 ^ p else 0) + vlB f k (p + 1)
def ctB (f : Nat → Bool) : Nat → Nat → Nat
  | 0, _ => 0
  | k + 1, p => (if f p = true then 1 else 0) + ctB f k (p + 1)
def vlP (f : Nat → Bool) : Nat → Nat
  | 0 => 0
  | p + 1 => (if f p = true then 2 ^ p else 0) + vlP f p
theorem vlB_congr {f g : Nat → Bool} : ∀ (k p : Nat), (∀ q, p ≤ q → q < p + k → f q = g q) → vlB f k p = vlB g k p ∧ ctB f k p = ctB g k p := by
  intro k
  induction k with
  | zero => intro p _; exact ⟨rfl, rfl⟩
  | succ k ih =>
    intro p h
    obtain ⟨h1, h2⟩ := ih (p + 1) (fun q a b => h q (by omega) (by omega))
    unfold vlB ctB
    rw [h p (Nat.le_refl _) (by omega), h1, h2]
    exact ⟨rfl, rfl⟩
/-- without q -/
def rmB (f : Nat → Bool) (q : Nat) : Nat → Bool := fun x => f x && !(decide (x = q))
theorem rmB_ne {f : Nat → Bool} {q x : Nat} (h : x ≠ q) : rmB f q x = f x := by
  unfold rmB; rw [decide_eq_false h]; simp
theorem rmB_eq {f : Nat → Bool} {q : Nat} : rmB f q q = false := by
  unfold rmB; rw [decide_eq_true rfl]; simp
theorem vlB_rm {f : Nat → Bool} {q : Nat} (hq : f q = true) : ∀ (k p : Nat), p ≤ q → q < p + k → vlB f k p = 2 ^ q + vlB (rmB f q) k p ∧ ctB f k p = 1 + ctB (rmB f q) k p := by
  intro k
  induction k with
  | zero => intro p h1 h2; omega
  | succ k ih =>
    intro p h1 h2
    unfold vlB ctB
    by_cases z : p = q
    · subst z
      obtain ⟨c1, c2⟩ := vlB_congr (f := rmB f p) (g := f) k (p + 1) (fun x a b => rmB_ne (by omega))
      rw [rmB_eq, if_pos hq, if_neg (by decide), if_pos hq, if_neg (by decide), c1, c2]
      exact ⟨by omega, by omega⟩
    · obtain ⟨c1, c2⟩ := ih (p + 1) (by omega) (by omega)
      rw [rmB_ne z, c1, c2]
      exact ⟨by omega, by omega⟩
theorem vlB_pre (f : Nat → Bool) : ∀ (k p : Nat), vlP f p + vlB f k p = vlP f (p + k) := by
  intro k
  induction k with
  | zero => intro p; rfl
  | succ k ih =>
    intro p
    have h := ih (p + 1)
    rw [show p + 1 + k = p + (k + 1) by omega] at h
    rw [← h]
    show vlP f p + ((if f p = true then 2 ^ p else 0) + vlB f k (p + 1)) = ((if f p = true then 2 ^ p else 0) + vlP f p) + vlB f k (p + 1)
    omega
theorem vlP_bits (f : Nat → Bool) : ∀ p, vlP f p < 2 ^ p ∧ ∀ q, q < p → (vlP f p).testBit q = f q := by
  intro p
  induction p with
  | zero => exact ⟨Nat.one_pos, fun q h => by omega⟩
  | succ p ih =>
    obtain ⟨h1, h2⟩ := ih
    have e : 2 ^ (p + 1) = 2 ^ p + 2 ^ p := by rw [Nat.pow_succ]; omega
    unfold vlP
    by_cases z : f p = true
    · rw [if_pos z]
      refine ⟨by omega, fun q hq => ?_⟩
      by_cases y : q = p
      · subst y
        rw [Nat.testBit_two_pow_add_eq, Nat.testBit_lt_two_pow h1, z]; rfl
      · rw [Nat.testBit_two_pow_add_gt (by omega), h2 q (by omega)]
    · rw [if_neg z, Nat.zero_add]
      refine ⟨by omega, fun q hq => ?_⟩
      by_cases y : q = p
      · subst y
        rw [Nat.testBit_lt_two_pow h1]
        exact (Bool.eq_false_iff.mpr z).symm
      · exact h2 q (by omega)
theorem tb_tab : ∀ P, P < 9 → ∀ s, s < 2 ^ P → vlB s.testBit P 0 = s ∧ ctB s.testBit P 0 = cnt8 s := by decide +kernel
/-- f shows all that is wanted and can be shown from p on -/
def cvB (dd : Nat → Nat) (f : Nat → Bool) (W : Nat → Prop) (k p : Nat) : Prop := ∀ d, W d → (∃ q, p ≤ q ∧ q < p + k ∧ dd q = d) → ∃ q, p ≤ q ∧ q < p + k ∧ f q = true ∧ dd q = d
def wpB (dd : Nat → Nat) (W : Nat → Bool) (p d : Nat) : Prop := W d = true ∧ ∀ y, y < p → dd y ≠ d
def pkB (dd : Nat → Nat) (W : Nat → Bool) (x : Nat) : Bool := decide (W (dd x) = true ∧ ∀ y, y < x → dd y ≠ dd x)
theorem wpB_s {dd : Nat → Nat} {W : Nat → Bool} {p d : Nat} : wpB dd W (p + 1) d ↔ wpB dd W p d ∧ d ≠ dd p := by
  constructor
  · rintro ⟨h1, h2⟩
    exact ⟨⟨h1, fun y hy => h2 y (by omega)⟩, fun e => h2 p (by omega) e.symm⟩
  · rintro ⟨⟨h1, h2⟩, h3⟩
    refine ⟨h1, fun y hy => ?_⟩
    by_cases z : y = p
    · subst z; exact fun e => h3 e.symm
    · exact h2 y (by omega)
theorem pkB_iff {dd : Nat → Nat} {W : Nat → Bool} {p : Nat} : pkB dd W p = true ↔ wpB dd W p (dd p) := by
  unfold pkB wpB
  exact decide_eq_true_iff
theorem gr_min {dd : Nat → Nat} {W : Nat → Bool} : ∀ (k p : Nat) (f : Nat → Bool), cvB dd f (wpB dd W p) k p → ctB (pkB dd W) k p < ctB f k p ∨ (ctB (pkB dd W) k p = ctB f k p ∧ vlB (pkB dd W) k p ≤ vlB f k p) := by
  intro k
  induction k with
  | zero => intro p f _; exact Or.inr ⟨rfl, Nat.le_refl _⟩
  | succ k ih =>
    intro p f hc
    have e1 : ∀ g : Nat → Bool, vlB g (k + 1) p = (if g p = true then 2 ^ p else 0) + vlB g k (p + 1) := fun g => rfl
    have e2 : ∀ g : Nat → Bool, ctB g (k + 1) p = (if g p = true then 1 else 0) + ctB g k (p + 1) := fun g => rfl
    rw [e1, e1, e2, e2]
    by_cases z : wpB dd W p (dd p)
    · rw [if_pos (pkB_iff.mpr z), if_pos (pkB_iff.mpr z)]
      by_cases y : f p = true
      · rw [if_pos y, if_pos y]
        have := ih (p + 1) f (fun d hd ⟨q, q1, q2, q3⟩ => by
          obtain ⟨r, r1, r2, r3, r4⟩ := hc d (wpB_s.mp hd).1 ⟨q, by omega, by omega, q3⟩
          have : r ≠ p := fun e => (wpB_s.mp hd).2 (by rw [← r4, e])
          exact ⟨r, by omega, by omega, r3, r4⟩)
        generalize 2 ^ p = X
        omega
      · obtain ⟨q, q1, q2, q3, q4⟩ := hc (dd p) z ⟨p, by omega, by omega, rfl⟩
        have hqp : q ≠ p := fun e => y (by rw [← e]; exact q3)
        rw [if_neg y, if_neg y]
        obtain ⟨c1, c2⟩ := vlB_rm q3 k (p + 1) (by omega) (by omega)
        have := ih (p + 1) (rmB f q) (fun d hd ⟨r, r1, r2, r3⟩ => by
          obtain ⟨s, s1, s2, s3, s4⟩ := hc d (wpB_s.mp hd).1 ⟨r, by omega, by omega, r3⟩
          have h1 : s ≠ p := fun e => (wpB_s.mp hd).2 (by rw [← s4, e])
          have h2 : s ≠ q := fun e => (wpB_s.mp hd).2 (by rw [← s4, e, q4])
          exact ⟨s, by omega, by omega, by rw [rmB_ne h2]; exact s3, s4⟩)
        have hp := Nat.pow_le_pow_right (show 0 < 2 by omega) (show p ≤ q by omega)
        rw [c1, c2]
        generalize 2 ^ p = X at *
        generalize 2 ^ q = Y at *
        omega
    · rw [if_neg (fun u => z (pkB_iff.mp u)), if_neg (fun u => z (pkB_iff.mp u))]
      have := ih (p + 1) f (fun d hd ⟨q, q1, q2, q3⟩ => by
        obtain ⟨r, r1, r2, r3, r4⟩ := hc d (wpB_s.mp hd).1 ⟨q, by omega, by omega, q3⟩
        have : r ≠ p := fun e => z (by have := (wpB_s.mp hd).1; rw [← r4, e] at this; exact this)
        exact ⟨r, by omega, by omega, r3, r4⟩)
      by_cases y : f p = true
      · rw [if_pos y, if_pos y]; omega
      · rw [if_neg y, if_neg y]; omega
/-- those picked first show all -/
theorem pk_cv {dd : Nat → Nat} {W : Nat → Bool} {P : Nat} : cvB dd (pkB dd W) (wpB dd W 0) P 0 := by
  intro d hd ⟨q, q1, q2, q3⟩
  -- the least prop with that deed
  have : ∀ m q, q < P → dd q = d → q ≤ m → ∃ r, r < P ∧ dd r = d ∧ ∀ y, y < r → dd y ≠ d := by
    intro m
    induction m with
    | zero => intro q h1 h2 h3; exact ⟨q, h1, h2, fun y hy => by omega⟩
    | succ m ih =>
      intro q h1 h2 h3
      by_cases z : ∀ y, y < q → dd y ≠ d
      · exact ⟨q, h1, h2, z⟩
      · obtain ⟨y, hy⟩ : ∃ y, y < q ∧ dd y = d := by
          apply Classical.byContradiction
          intro hn
          exact z (fun y hy e => hn ⟨y, hy, e⟩)
        exact ih y (by omega) hy.2 (by omega)
  obtain ⟨r, r1, r2, r3⟩ := this q q (by omega) q3 (Nat.le_refl _)
  refine ⟨r, by omega, by omega, pkB_iff.mpr ?_, r2⟩
  rw [r2]
  exact ⟨hd.1, r3⟩
theorem lvM_lt {G : Nat → Bool} {N : Nat} : ∀ (k b : Nat), b < N → k ≤ N → lvM G k b < N := by
  intro k
  induction k with
  | zero => intro b h _; exact h
  | succ k ih =>
    intro b h h2
    refine ih _ ?_ (by omega)
    split <;> omega
theorem cov_eq {dd : Nat → Nat} {W : Nat → Bool} {P : Nat} (hP : P ≤ 8) {G : Nat → Bool} (hG : ∀ s, s < 2 ^ P → (G s = true ↔ cvB dd s.testBit (wpB dd W 0) P 0)) : lvM G (2 ^ P) (2 ^ P - 1) = vlB (pkB dd W) P 0 := by
  have hpos : 0 < 2 ^ P := Nat.pow_pos (by omega)
  have hX := vlB_pre (pkB dd W) P 0
  rw [show vlP (pkB dd W) 0 = 0 from rfl, Nat.zero_add, Nat.zero_add] at hX
  obtain ⟨b1, b2⟩ := vlP_bits (pkB dd W) P
  rw [← hX] at b1 b2
  have hgX : G (vlB (pkB dd W) P 0) = true := by
    rw [hG _ b1]
    intro d hd he
    obtain ⟨q, q1, q2, q3, q4⟩ := pk_cv d hd he
    exact ⟨q, q1, q2, by rw [b2 q (by omega)]; exact q3, q4⟩
  have hgM : G (2 ^ P - 1) = true := by
    rw [hG _ (by omega)]
    intro d hd ⟨q, q1, q2, q3⟩
    exact ⟨q, q1, q2, by rw [Nat.testBit_two_pow_sub_one]; exact decide_eq_true (by omega), q3⟩
  obtain ⟨m1, m2, m3⟩ := lvM_spec (G := G) (M := 2 ^ P - 1) (2 ^ P) (2 ^ P - 1) (Or.inl rfl) (Nat.le_refl _) (fun t h1 h2 => by omega)
  have cX : cnt8 (vlB (pkB dd W) P 0) = ctB (pkB dd W) P 0 := by
    rw [← (tb_tab P (by omega) _ b1).2]
    exact (vlB_congr P 0 (fun q _ hq => b2 q (by omega))).2
  have a1 := m3 _ (by omega) hgX
  have hRl := lvM_lt (G := G) (N := 2 ^ P) (2 ^ P) (2 ^ P - 1) (by omega) (Nat.le_refl _)
  generalize lvM G (2 ^ P) (2 ^ P - 1) = R at *
  have hR : G R = true := by
    rcases m1 with rfl | m1
    · exact hgM
    · exact m1
  have a2 := gr_min P 0 R.testBit ((hG R hRl).mp hR)
  obtain ⟨t1, t2⟩ := tb_tab P (by omega) R hRl
  rw [t1, t2] at a2
  rw [cX] at a1
  omega
