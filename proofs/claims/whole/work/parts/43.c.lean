/-! what the class's code of a condition says -/
def lsA (g : Nat → Int32) (s : Nat) (L : List Int32) : Prop := ∀ k, k < L.length → g (s + k) = L.getD k 0
theorem lsA.app {g : Nat → Int32} {s : Nat} {A B : List Int32} (h : lsA g s (A ++ B)) : lsA g s A ∧ lsA g (s + A.length) B := by
  constructor
  · intro k hk
    rw [h k (by rw [List.length_append]; omega), List.getD_eq_getElem?_getD, List.getElem?_append_left hk, ← List.getD_eq_getElem?_getD]
  · intro k hk
    have := h (A.length + k) (by rw [List.length_append]; omega)
    rw [Nat.add_assoc, this, List.getD_eq_getElem?_getD, List.getElem?_append_right (by omega), Nat.add_sub_cancel_left, ← List.getD_eq_getElem?_getD]
def GX (c : CE) : Prop := ∀ (cf f : Nat → Int32) (lc s m : Nat), c.2.2.1 ≤ 29 → lsA cf s c.1 → s + c.1.length ≤ lc → FB f → m < 2 ^ (31 - c.2.2.1) → ∃ k, k ≤ c.1.length ∧ RnX cf lc f k (s, nI m) (s + c.1.length, nI (2 * m + (if c.2.2.2 f = true then 1 else 0)))
theorem i32_lits : ((0 : Int32) ≠ 1 ∧ (1 : Int32) ≠ 0 ∧ (2 : Int32) ≠ 0 ∧ (2 : Int32) ≠ 1) ∧ ((3 : Int32) ≠ 0 ∧ (3 : Int32) ≠ 1 ∧ (3 : Int32) ≠ 2) ∧ ((4 : Int32) ≠ 0 ∧ (4 : Int32) ≠ 1 ∧ (4 : Int32) ≠ 2 ∧ (4 : Int32) ≠ 3) ∧ ((5 : Int32) ≠ 0 ∧ (5 : Int32) ≠ 1 ∧ (5 : Int32) ≠ 2 ∧ (5 : Int32) ≠ 3 ∧ (5 : Int32) ≠ 4) := by decide
theorem tag_X {j : Nat} (hj : j = 6 ∨ j = 7) : GX (tagC j) := by
  intro cf f lc s m _ hc hl hf hm
  have e0 : cf s = 3 := hc 0 (by show 0 < 2; omega)
  have e1 : cf (s + 1) = nI j := hc 1 (by show 1 < 2; omega)
  have hl : s + 2 ≤ lc := hl
  have o : o1X cf lc (s, nI m).1 := ⟨by show s < lc; omega, Or.inr (Or.inr (Or.inr (Or.inl ⟨e0, by show s + 1 < lc; omega, j, by omega, e1⟩)))⟩
  have r := RnX.one (f := f) (lc := lc) o
  refine ⟨1, by show 1 ≤ 2; omega, ?_⟩
  have es : s1X cf f (s, nI m) = (s + 2, nI (2 * m + (if (tagC j).2.2.2 f = true then 1 else 0))) := by
    unfold s1X
    obtain ⟨_, ⟨l0, l1, l2⟩, _⟩ := i32_lits
    dsimp only
    rw [e0, if_neg l0, if_neg l1, if_neg l2, if_pos rfl, e1, nI_clamp (by omega)]
    have hb : f j = 0 ∨ f j = 1 := by rcases hj with rfl | rfl; exact hf.2.1; exact hf.2.2
    have hd : ((tagC j).2.2.2 f = true) ↔ f j = 1 := by show (decide (f j = 1) = true) ↔ _; exact decide_eq_true_iff
    rcases hb with u | u
    · rw [if_neg (fun v => by rw [hd, u] at v; exact absurd v (by decide)), u, show (0 : Int32) = nI 0 from rfl, bit_push m (by omega)]
    · rw [if_pos (hd.mpr u), u, show (1 : Int32) = nI 1 from rfl, show (nI 1 &&& 31) = ((1 : Int32) &&& 31) from rfl, bit_push m (by omega)]
  rw [es] at r
  exact r
theorem neg_X {a : CE} (ha : GX a) : GX (negC a) := by
  intro cf f lc s m hd hc hl hf hm
  have hl : s + (a.1 ++ [(0 : Int32)]).length ≤ lc := hl
  rw [List.length_append] at hl
  have hl : s + (a.1.length + 1) ≤ lc := hl
  obtain ⟨c1, c2⟩ := lsA.app (A := a.1) (B := [0]) hc
  obtain ⟨k, k1, r1⟩ := ha cf f lc s m hd c1 (by omega) hf hm
  have e0 : cf (s + a.1.length) = 0 := c2 0 (by show 0 < 1; omega)
  have o : o1X cf lc (s + a.1.length, nI (2 * m + (if a.2.2.2 f = true then 1 else 0))).1 := ⟨by show s + a.1.length < lc; omega, Or.inl e0⟩
  have r2 := RnX.one (f := f) (lc := lc) o
  refine ⟨k + 1, ?_, ?_⟩
  · show _ ≤ (a.1 ++ [(0 : Int32)]).length
    rw [List.length_append]; show _ ≤ _ + 1; omega
  · have es : s1X cf f (s + a.1.length, nI (2 * m + (if a.2.2.2 f = true then 1 else 0))) = (s + (negC a).1.length, nI (2 * m + (if (negC a).2.2.2 f = true then 1 else 0))) := by
      unfold s1X
      dsimp only
      rw [e0, if_pos rfl, bit_not (by split <;> omega), show (negC a).1.length = a.1.length + 1 from List.length_append, Nat.add_assoc]
      congr 2
      show _ = 2 * m + (if (!(a.2.2.2 f)) = true then 1 else 0)
      cases a.2.2.2 f <;> rfl
    rw [es] at r2
    exact r1.trans r2
theorem two_X {a b : CE} {op : Int32} (h1 : 1 ≤ b.2.2.1) (ha : GX a) (hb : GX b) (hop : op = 1 ∨ op = 2) (g : (Nat → Int32) → Bool) (hg : ∀ f, g f = if op = 1 then (a.2.2.2 f && b.2.2.2 f) else (a.2.2.2 f || b.2.2.2 f)) : ∀ (cf f : Nat → Int32) (lc s m : Nat), max a.2.2.1 (b.2.2.1 + 1) ≤ 29 → lsA cf s (a.1 ++ b.1 ++ [op]) → s + (a.1 ++ b.1 ++ [op]).length ≤ lc → FB f → m < 2 ^ (31 - max a.2.2.1 (b.2.2.1 + 1)) → ∃ k, k ≤ (a.1 ++ b.1 ++ [op]).length ∧ RnX cf lc f k (s, nI m) (s + (a.1 ++ b.1 ++ [op]).length, nI (2 * m + (if g f = true then 1 else 0))) := by
  intro cf f lc s m hd hc hl hf hm
  rw [List.length_append, List.length_append] at hl
  have hl : s + (a.1.length + b.1.length + 1) ≤ lc := hl
  obtain ⟨c12, c3⟩ := lsA.app hc
  obtain ⟨c1, c2⟩ := lsA.app c12
  rw [List.length_append] at c3
  have hm1 : m < 2 ^ (31 - a.2.2.1) := Nat.lt_of_lt_of_le hm (Nat.pow_le_pow_right (by omega) (by omega))
  have hm2 : m < 2 ^ (30 - b.2.2.1) := Nat.lt_of_lt_of_le hm (Nat.pow_le_pow_right (by omega) (by omega))
  have hp : 2 ^ (31 - b.2.2.1) = 2 * 2 ^ (30 - b.2.2.1) := by rw [show 31 - b.2.2.1 = (30 - b.2.2.1) + 1 by omega, Nat.pow_succ, Nat.mul_comm]
  have hp30 : 2 ^ (30 - b.2.2.1) ≤ 2 ^ 29 := Nat.pow_le_pow_right (by omega) (by omega)
  obtain ⟨k, k1, r1⟩ := ha cf f lc s m (by omega) c1 (by omega) hf hm1
  have hA : (if a.2.2.2 f = true then 1 else 0) < 2 := by split <;> omega
  have hB : (if b.2.2.2 f = true then 1 else 0) < 2 := by split <;> omega
  obtain ⟨k', k1', r2⟩ := hb cf f lc (s + a.1.length) (2 * m + (if a.2.2.2 f = true then 1 else 0)) (by omega) c2 (by omega) hf (by omega)
  have e0 : cf (s + (a.1.length + b.1.length)) = op := c3 0 (by show 0 < 1; omega)
  rw [Nat.add_assoc] at r2
  have o : o1X cf lc (s + (a.1.length + b.1.length), nI (2 * (2 * m + (if a.2.2.2 f = true then 1 else 0)) + (if b.2.2.2 f = true then 1 else 0))).1 := by
    refine ⟨by show s + (a.1.length + b.1.length) < lc; omega, ?_⟩
    rcases hop with u | u
    · exact Or.inr (Or.inl (by rw [← u]; exact e0))
    · exact Or.inr (Or.inr (Or.inl (by rw [← u]; exact e0)))
  have r3 := RnX.one (f := f) (lc := lc) o
  have el : (a.1 ++ b.1 ++ [op]).length = a.1.length + b.1.length + 1 := by rw [List.length_append, List.length_append]; rfl
  refine ⟨k + k' + 1, by omega, ?_⟩
  have hsm : 2 * (2 * m + (if a.2.2.2 f = true then 1 else 0)) + (if b.2.2.2 f = true then 1 else 0) < 2 ^ 31 := by omega
  have es : s1X cf f (s + (a.1.length + b.1.length), nI (2 * (2 * m + (if a.2.2.2 f = true then 1 else 0)) + (if b.2.2.2 f = true then 1 else 0))) = (s + (a.1 ++ b.1 ++ [op]).length, nI (2 * m + (if g f = true then 1 else 0))) := by
    unfold s1X
    obtain ⟨⟨_, l10, l20, l21⟩, _⟩ := i32_lits
    dsimp only
    rw [e0, el, hg f]
    rcases hop with u | u
    · rw [u, if_neg l10, if_pos rfl, if_pos rfl, bit_and hA hB hsm, show s + (a.1.length + b.1.length) + 1 = s + (a.1.length + b.1.length + 1) by omega]
      congr 2
      cases a.2.2.2 f <;> cases b.2.2.2 f <;> rfl
    · rw [u, if_neg l20, if_neg l21, if_pos rfl, if_neg l21, bit_or hA hB hsm, show s + (a.1.length + b.1.length) + 1 = s + (a.1.length + b.1.length + 1) by omega]
      congr 2
      cases a.2.2.2 f <;> cases b.2.2.2 f <;> rfl
  rw [es] at r3
  exact (r1.trans r2).trans r3
theorem con_X {a b : CE} (h1 : 1 ≤ b.2.2.1) (ha : GX a) (hb : GX b) : GX (conC a b) := two_X h1 ha hb (Or.inl rfl) (conC a b).2.2.2 (fun f => by rw [if_pos rfl]; rfl)
theorem dis_X {a b : CE} (h1 : 1 ≤ b.2.2.1) (ha : GX a) (hb : GX b) : GX (disC a b) := two_X h1 ha hb (Or.inr rfl) (disC a b).2.2.2 (fun f => by rw [if_neg (by decide)]; rfl)
/-! comparisons -/
theorem xor_tb : ∀ j, j < 6 → ((nI j ^^^ -1) < (0 : Int32)) ∧ ((nI j ^^^ -1) ^^^ -1) = nI j := by decide
def fsX (r : Bool) (f : Nat → Int32) : List PT → Int32
  | [] => 0
  | a :: L => (if a.1 = true then (if r = true then - f a.2 else f a.2) else 0) + fsX r f L
theorem sg_of {f : Nat → Int32} {j : Nat} (hj : j < 6) (r : Bool) : sgX f (if r = true then nI j ^^^ -1 else nI j) = if r = true then - f j else f j := by
  unfold sgX
  cases r with
  | true =>
    rw [if_pos rfl, if_pos rfl, if_pos (xor_tb j hj).1, (xor_tb j hj).2, nI_clamp (by omega)]
  | false =>
    rw [if_neg (show ¬ false = true by decide), if_neg (show ¬ false = true by decide), if_neg (nI_pos (by omega)), nI_clamp (by omega)]
theorem sm_of {cf f : Nat → Int32} (r : Bool) : ∀ (L : List PT) (i : Nat) (a : Int32), (∀ p ∈ L, okP p) → lsA cf i (fcX r L) → smX cf f (nfL L) i a = a + fsX r f L := by
  intro L
  induction L with
  | nil => intro i a _ _; show a = a + 0; rw [Int32.add_zero]
  | cons p L ih =>
    intro i a hL hc
    have hp := hL p (List.mem_cons_self)
    have hL' : ∀ q ∈ L, okP q := fun q hq => hL q (List.mem_cons_of_mem _ hq)
    unfold nfL fsX
    unfold fcX at hc
    by_cases z : p.1 = true
    · rw [if_pos z] at hc ⊢
      rw [if_pos z]
      have e0 : cf i = (if r = true then nI p.2 ^^^ -1 else nI p.2) := hc 0 (by rw [List.length_cons]; omega)
      rw [Nat.add_comm 1]
      show smX cf f (nfL L) (i + 1) (a + sgX f (cf i)) = _
      rw [ih (i + 1) _ hL' (fun k hk => by have := hc (k + 1) (by rw [List.length_cons]; omega); rw [Nat.add_assoc, Nat.add_comm 1 k, this]; rfl), e0, sg_of (hp.1 z), Int32.add_assoc]
    · rw [if_neg z] at hc ⊢
      rw [if_neg z, Nat.zero_add, ih i a hL' hc, Int32.zero_add]
theorem sm_add {cf f : Nat → Int32} : ∀ (k1 k2 i : Nat) (a : Int32), smX cf f (k1 + k2) i a = smX cf f k2 (i + k1) (smX cf f k1 i a) := by
  intro k1
  induction k1 with
  | zero => intro k2 i a; rw [Nat.zero_add]; rfl
  | succ k1 ih =>
    intro k2 i a
    rw [show k1 + 1 + k2 = (k1 + k2) + 1 by omega]
    show smX cf f (k1 + k2) (i + 1) _ = _
    rw [ih, show i + 1 + k1 = i + (k1 + 1) by omega]
    rfl
theorem i32_4 (a b c d : Int32) : (a + b) + (c + d) = (a + c) + (b + d) := by
  rw [Int32.add_assoc, ← Int32.add_assoc b c d, Int32.add_comm b c, Int32.add_assoc c b d, ← Int32.add_assoc]
theorem sum_l {f : Nat → Int32} (hf : FB f) : ∀ L : List PT, (∀ p ∈ L, okP p) → ctX false L + fsX false f L = nI (suV f L) ∧ suV f L ≤ 100000 * L.length := by
  intro L
  induction L with
  | nil => intro _; exact ⟨rfl, Nat.le_refl _⟩
  | cons p L ih =>
    intro hL
    obtain ⟨e, hl⟩ := ih (fun q hq => hL q (List.mem_cons_of_mem _ hq))
    have hp := hL p (List.mem_cons_self)
    unfold ctX fsX suV ptV
    rw [i32_4, e, List.length_cons]
    by_cases z : p.1 = true
    · obtain ⟨k, k1, k2⟩ := hf.1 p.2 (hp.1 z)
      rw [if_pos z, if_pos z, if_pos z, if_neg (show ¬ false = true by decide), k2, nI_clamp (by omega), Int32.zero_add, nI_add]
      exact ⟨rfl, by omega⟩
    · rw [if_neg z, if_neg z, if_neg z, if_neg (show ¬ false = true by decide), Int32.add_zero, nI_add]
      exact ⟨rfl, by have := hp.2; omega⟩
theorem sum_r {f : Nat → Int32} : ∀ L : List PT, ctX true L + fsX true f L = - (ctX false L + fsX false f L) := by
  intro L
  induction L with
  | nil => show (0 : Int32) + 0 = - (0 + 0); decide
  | cons p L ih =>
    unfold ctX fsX
    rw [i32_4, ih, i32_4]
    generalize ctX false L + fsX false f L = T
    by_cases z : p.1 = true
    · rw [if_pos z, if_pos z, if_pos z, if_pos z, if_pos rfl, if_neg (show ¬ false = true by decide), Int32.zero_add, Int32.zero_add, Int32.neg_add, Int32.sub_eq_add_neg]
    · rw [if_neg z, if_neg z, if_neg z, if_neg z, if_pos rfl, if_neg (show ¬ false = true by decide), Int32.add_zero, Int32.add_zero, Int32.neg_add, Int32.sub_eq_add_neg]
theorem cmp_X {l : Bool} {a b : List PT} (ha : ∀ p ∈ a, okP p) (hb : ∀ p ∈ b, okP p) (na : a.length ≤ 400) (nb : b.length ≤ 400) : GX (cmpC l a b) := by
  intro cf f lc s m _ hc hl hf hm
  have el : (cmpC l a b).1.length = 3 + (nfL a + nfL b) := by
    show ((fcX false a ++ fcX true b).length + 1 + 1 + 1) = _
    rw [List.length_append, fcX_len, fcX_len]; omega
  have e0 : cf s = (if l = true then 4 else 5) := hc 0 (by rw [el]; omega)
  have e1 : cf (s + 1) = ctX false a + ctX true b := hc 1 (by rw [el]; omega)
  have e2 : cf (s + 2) = nI (nfL a + nfL b) := hc 2 (by rw [el]; omega)
  have e3 : lsA cf (s + 3) (fcX false a ++ fcX true b) := fun k hk => by
    have := hc (3 + k) (by rw [el]; rw [List.length_append, fcX_len, fcX_len] at hk; omega)
    rw [Nat.add_assoc, this, Nat.add_comm 3 k]
    rfl
  obtain ⟨e4, e5⟩ := lsA.app e3
  rw [fcX_len] at e5
  rw [el] at hl ⊢
  have nf4 : ∀ L : List PT, nfL L ≤ L.length := by
    intro L
    induction L with
    | nil => exact Nat.le_refl _
    | cons p L ih => unfold nfL; rw [List.length_cons]; split <;> omega
  have na' := nf4 a
  have nb' := nf4 b
  obtain ⟨sa, la⟩ := sum_l hf a ha
  obtain ⟨sb, lb⟩ := sum_l hf b hb
  have hsum : smX cf f (nfL a + nfL b) (s + 3) (cf (s + 1)) = nI (suV f a) - nI (suV f b) := by
    rw [sm_add, sm_of false a _ _ ha e4, sm_of true b _ _ hb e5, e1, Int32.add_assoc (ctX false a) (ctX true b), Int32.add_comm (ctX true b), Int32.add_assoc, Int32.add_assoc (fsX false f a), sum_r b, sb, ← Int32.add_assoc, sa, Int32.sub_eq_add_neg]
  have hi := toInt_sub_small (nI_toInt (show suV f a < 2 ^ 31 by omega)) (nI_toInt (show suV f b < 2 ^ 31 by omega)) (by omega) (by omega)
  have mem : ∀ (r : Bool) (L : List PT), (∀ p ∈ L, okP p) → ∀ j, j < nfL L → ∃ q, q < 8 ∧ ((fcX r L).getD j 0 = nI q ∨ (fcX r L).getD j 0 = (nI q ^^^ -1)) := by
    intro r L
    induction L with
    | nil => intro _ j hj; exact absurd hj (Nat.not_lt_zero _)
    | cons p L ih =>
      intro hL j hj
      have hp := hL p (List.mem_cons_self)
      have hL' : ∀ q ∈ L, okP q := fun q hq => hL q (List.mem_cons_of_mem _ hq)
      unfold fcX
      unfold nfL at hj
      by_cases z : p.1 = true
      · rw [if_pos z] at hj ⊢
        cases j with
        | zero =>
          have := hp.1 z
          refine ⟨p.2, by omega, ?_⟩
          show (if r = true then nI p.2 ^^^ -1 else nI p.2) = _ ∨ (if r = true then nI p.2 ^^^ -1 else nI p.2) = _
          split
          · exact Or.inr rfl
          · exact Or.inl rfl
        | succ j => exact ih hL' j (by omega)
      · rw [if_neg z] at hj ⊢
        exact ih hL' j (by omega)
  have o : o1X cf lc (s, nI m).1 := by
    refine ⟨by show s < lc; omega, Or.inr (Or.inr (Or.inr (Or.inr ⟨?_, nfL a + nfL b, e2, by show s + 3 + (nfL a + nfL b) ≤ lc; omega, fun j hj => ?_⟩)))⟩
    · show cf s = 4 ∨ cf s = 5
      rw [e0]
      split
      · exact Or.inl rfl
      · exact Or.inr rfl
    · show ∃ q, q < 8 ∧ (cf (s + 3 + j) = nI q ∨ cf (s + 3 + j) = (nI q ^^^ -1))
      by_cases z : j < nfL a
      · rw [e4 j (by rw [fcX_len]; exact z)]
        exact mem false a ha j z
      · have := e5 (j - nfL a) (by rw [fcX_len]; omega)
        rw [show s + 3 + nfL a + (j - nfL a) = s + 3 + j by omega] at this
        rw [this]
        exact mem true b hb _ (by omega)
  have r := RnX.one (f := f) (lc := lc) o
  refine ⟨1, by omega, ?_⟩
  have es : s1X cf f (s, nI m) = (s + (3 + (nfL a + nfL b)), nI (2 * m + (if (cmpC l a b).2.2.2 f = true then 1 else 0))) := by
    unfold s1X
    obtain ⟨_, _, ⟨l40, l41, l42, l43⟩, l50, l51, l52, l53, l54⟩ := i32_lits
    dsimp only
    rw [e2, nI_clamp (by omega), hsum, e0, show s + 3 + (nfL a + nfL b) = s + (3 + (nfL a + nfL b)) by omega]
    have h0 : (0 ≤ nI (suV f a) - nI (suV f b)) ↔ suV f b ≤ suV f a := by rw [Int32.le_iff_toInt_le, hi, Int32.toInt_zero]; omega
    have h1 : (nI (suV f a) - nI (suV f b) ≤ 0) ↔ suV f a ≤ suV f b := by rw [Int32.le_iff_toInt_le, hi, Int32.toInt_zero]; omega
    cases l with
    | true =>
      rw [if_pos rfl, if_neg l40, if_neg l41, if_neg l42, if_neg l43, if_pos rfl]
      have hd : ((cmpC true a b).2.2.2 f = true) ↔ suV f a < suV f b := by
        show ((if true = true then decide (suV f a < suV f b) else decide (suV f b < suV f a)) = true) ↔ _
        rw [if_pos rfl]; exact decide_eq_true_iff
      by_cases z : suV f b ≤ suV f a
      · rw [if_pos (h0.mpr z), if_neg (fun u => by have := hd.mp u; omega), show (0 : Int32) = nI 0 from rfl, bit_push m (by omega)]
      · rw [if_neg (fun u => z (h0.mp u)), if_pos (hd.mpr (by omega)), show (nI m <<< ((1 : Int32) &&& 31) ||| 1) = nI (2 * m + 1) from bit_push m (b := 1) (by omega)]
    | false =>
      rw [if_neg (show ¬ false = true by decide), if_neg l50, if_neg l51, if_neg l52, if_neg l53, if_neg l54]
      have hd : ((cmpC false a b).2.2.2 f = true) ↔ suV f b < suV f a := by
        show ((if false = true then decide (suV f a < suV f b) else decide (suV f b < suV f a)) = true) ↔ _
        rw [if_neg (show ¬ false = true by decide)]; exact decide_eq_true_iff
      by_cases z : suV f a ≤ suV f b
      · rw [if_pos (h1.mpr z), if_neg (fun u => by have := hd.mp u; omega), show (0 : Int32) = nI 0 from rfl, bit_push m (by omega)]
      · rw [if_neg (fun u => z (h1.mp u)), if_pos (hd.mpr (by omega)), show (nI m <<< ((1 : Int32) &&& 31) ||| 1) = nI (2 * m + 1) from bit_push m (b := 1) (by omega)]
  rw [es] at r
  exact r
