/-! texts: what the class asks of its tape -/
/-- the number that stands at q, if it is one of these -/
def nuF (x : TX) : Nat → Nat → Nat → Nat
  | 0, _, a => a
  | k + 1, i, a => nuF x k (i + 1) (a * 10 + x.2 i - 48)
def nuV (x : TX) (q : Nat) : Nat := nuF x (deT x q - q) q 0
def nmR (x : TX) (q : Nat) (lo hi : Int32) : Int32 := if dgP x q = true ∧ deT x q - q ≤ 3 ∧ ¬ nI (nuV x q) < lo ∧ ¬ hi < nI (nuV x q) then nI (nuV x q) else -1
theorem nuF_le (x : TX) : ∀ k i a, (∀ j, i ≤ j → j < i + k → x.2 j ≤ 57) → nuF x k i a ≤ (a + 1) * 10 ^ k - 1 := by
  intro k
  induction k with
  | zero => intro i a _; show a ≤ (a + 1) * 1 - 1; omega
  | succ k ih =>
    intro i a h
    have h1 := h i (Nat.le_refl _) (by omega)
    have h2 := ih (i + 1) (a * 10 + x.2 i - 48) (fun j a b => h j (by omega) (by omega))
    show nuF x k (i + 1) (a * 10 + x.2 i - 48) ≤ (a + 1) * 10 ^ (k + 1) - 1
    have h3 : (a * 10 + x.2 i - 48 + 1) * 10 ^ k ≤ (a + 1) * 10 * 10 ^ k := Nat.mul_le_mul_right _ (by omega)
    rw [Nat.pow_succ, Nat.mul_comm (10 ^ k) 10, ← Nat.mul_assoc]
    omega
theorem nuV_le {x : TX} {q : Nat} (hq : q ≤ x.1) (h3 : deT x q - q ≤ 3) : nuV x q ≤ 999 := by
  have hd := deT_b hq
  have h := nuF_le x (deT x q - q) q 0 (fun j h1 h2 => by
    have := of_decide_eq_true (rnB_in (dgP x) (x.1 - q) q j h1 (by unfold deT at h2 hd; omega))
    exact this.2.2)
  have hp : 10 ^ (deT x q - q) ≤ 10 ^ 3 := Nat.pow_le_pow_right (by omega) h3
  unfold nuV
  omega
/-- deeds, letter by letter -/
def dlS (x : TX) : Nat → Nat → Int32 → Int32
  | 0, _, a => a
  | k + 1, i, a => if 103 ≤ x.2 i ∨ hasS a (nI (x.2 i - 97)) = 1 then -1 else dlS x k (i + 1) (a ||| 1 <<< (nI (x.2 i - 97) &&& 31))
def ddR (x : TX) (q : Nat) : Int32 := if ltP x q = true then dlS x (weT x q - q) q 0 else -1
def leR (x : TX) (q : Nat) : Int32 := if ltP x q = true ∧ weT x q - q = 1 ∧ x.2 q < 103 then nI (x.2 q - 97) else -1
section TQ
variable {Θ : GP} {S : PZ} {ω : OW} {n : Nat} {x : TX} {q : Nat}
theorem TC.b (h : TC S x) : ∀ i, i < x.1 → x.2 i ≤ 255 := fun i hi => (h.2.2 i hi).2
theorem x_isEnded (t : TK S x q) : F_X8_isEnded Θ (gb Θ + 1) (laz Θ S ω) n = some (.inl (some (.int (b01 (decide (x.1 ≤ q)))), laz Θ S ω, n)) := by
  unfold F_X8_isEnded J_X8_isEnded_12
  rw [a1_3, t.2.2.2.1]
  unfold tkK
  by_cases z : x.1 ≤ q
  · rw [if_pos z, if_pos (show nI 0 = 0 from rfl), bz_1, decide_eq_true z]; rfl
  · have hk : ¬ nI (if ltP x q = true then 1 else if dgP x q = true then 2 else 3) = 0 := by
      split
      · decide
      · split <;> decide
    rw [if_neg z, if_neg hk, bz_0, decide_eq_false z]; rfl
theorem x_isWord (h : TC S x) (t : TK S x q) {s : Nat} (hs : s < 21) {c : Int64} (hc : c = wdS s) : F_X8_isWord Θ (gb Θ + 1) c (laz Θ S ω) n = some (.inl (some (.int (b01 (isWd x q s))), laz Θ S ω, n)) := by
  unfold F_X8_isWord J_X8_isWord_14
  rw [a1_4, t.2.2.2.2, hc]
  have hi := tkW_iff h.b t.1 hs
  by_cases z : tkW x q = wdS s
  · rw [if_pos ((lg_cmp_eq _ _).mpr z), bz_1, hi.mp z]; rfl
  · rw [if_neg (fun u => z ((lg_cmp_eq _ _).mp u)), bz_0, Bool.eq_false_iff.mpr (fun u => z (hi.mpr u))]; rfl
/-- a sign stands at q -/
def isSg (x : TX) (q c : Nat) : Bool := decide (q < x.1 ∧ x.2 q = c)
theorem sg_k {c : Nat} (hc : c < 48 ∨ (57 < c ∧ c < 97)) (h : isSg x q c = true) : tkK x q = 3 := by
  obtain ⟨h1, h2⟩ := of_decide_eq_true h
  unfold tkK
  rw [if_neg (by omega), if_neg (by rw [show ltP x q = false from decide_eq_false (fun u => by omega)]; decide), if_neg (by rw [show dgP x q = false from decide_eq_false (fun u => by omega)]; decide)]
theorem x_isSign (h : TC S x) (t : TK S x q) {c : Nat} (hc : c < 48 ∨ (57 < c ∧ c < 97)) : F_X8_isSign Θ (gb Θ + 1) (nI c) (laz Θ S ω) n = some (.inl (some (.int (b01 (isSg x q c))), laz Θ S ω, n)) := by
  have h4 := h.2.1
  unfold F_X8_isSign J_X8_isSign_25 J_X8_isSign_26
  rw [a1_3, t.2.2.2.1]
  by_cases z : tkK x q = 3
  · have hq : q < x.1 := by
      apply Classical.byContradiction
      intro u
      unfold tkK at z
      rw [if_pos (by omega)] at z
      cases z
    obtain ⟨hb1, hb2⟩ := h.2.2 q hq
    rw [z, if_pos (show nI 3 = 3 from rfl), a1_5, a1_1, t.2.1, l_2 (by omega), hb1]
    by_cases y : x.2 q = c
    · rw [if_pos (by rw [y]), bz_1, show isSg x q c = true from decide_eq_true ⟨hq, y⟩]; rfl
    · rw [if_neg (fun u => y ((nI_eq (by omega) (by omega)).mp u)), bz_0, show isSg x q c = false from decide_eq_false (fun u => y u.2)]; rfl
  · have hk : ¬ nI (tkK x q) = 3 := by
      intro u
      apply z
      have hle : tkK x q ≤ 3 := by
        unfold tkK
        split
        · omega
        · split
          · omega
          · split <;> omega
      exact (nI_eq (b := 3) (by omega) (by omega)).mp u
    rw [if_neg hk, bz_0, Bool.eq_false_iff.mpr (fun u => z (sg_k hc u))]; rfl
theorem x_number_L (h : TC S x) {e : Nat} (he : zF S 1 2 = nI e) (hle : e ≤ x.1) {lo hi : Int32} : ∀ (k i f a : Nat), i + k = e → k < f → (∀ j, i ≤ j → j < e → 48 ≤ x.2 j) → L_X8_number_31 Θ f (gb Θ + 1) lo hi (nI a) (nI i) (laz Θ S ω) n = some (.inl (some (.int (if ¬ nI (nuF x k i a) < lo ∧ ¬ hi < nI (nuF x k i a) then nI (nuF x k i a) else -1)), laz Θ S ω, n)) := by
  have h4 := h.2.1
  intro k
  induction k with
  | zero =>
    intro i f a h1 h2 h3
    obtain ⟨f, rfl⟩ : ∃ g, f = g + 1 := ⟨f - 1, by omega⟩
    unfold L_X8_number_31 B_X8_number_31 J_X8_number_76 J_X8_number_77
    rw [a1_2, he, if_pos (nI_le (by omega) (by omega)), show nuF x 0 i a = a from rfl]
    by_cases z : nI a < lo
    · rw [if_pos z, if_neg (fun u => u.1 z)]
    · rw [if_neg z]
      by_cases y : hi < nI a
      · rw [if_pos y, if_neg (fun u => u.2 y)]
      · rw [if_neg y, if_pos ⟨z, y⟩]
  | succ k ih =>
    intro i f a h1 h2 h3
    obtain ⟨f, rfl⟩ : ∃ g, f = g + 1 := ⟨f - 1, by omega⟩
    obtain ⟨hb1, hb2⟩ := h.2.2 i (by omega)
    have h48 := h3 i (Nat.le_refl _) (by omega)
    have ev : ((nI a * 10) + nI (x.2 i)) - 48 = nI (a * 10 + x.2 i - 48) := by
      rw [show nI a * 10 = nI (a * 10) from nI_mul a 10, nI_add, show (48 : Int32) = nI 48 from rfl, nI_sub (by omega)]
    unfold L_X8_number_31 B_X8_number_31
    rw [a1_2, he, if_neg (nI_ge (by omega) (by omega)), a1_5, l_2 (by omega), hb1, ev, nI_1]
    exact ih (i + 1) f _ (by omega) (by omega) (fun j h5 h6 => h3 j (by omega) h6)
theorem x_number (h : TC S x) (t : TK S x q) (lo hi : Int32) : F_X8_number Θ (gb Θ + 1) lo hi (laz Θ S ω) n = some (.inl (some (.int (nmR x q lo hi)), laz Θ S ω, n)) := by
  have h4 := h.2.1
  have hd := deT_b t.1
  unfold F_X8_number J_X8_number_21 nmR
  rw [a1_3, t.2.2.2.1]
  by_cases z : dgP x q = true
  · have hz := of_decide_eq_true z
    have hlt : ltP x q = false := decide_eq_false (fun u => by omega)
    have hk : tkK x q = 2 := by unfold tkK; rw [if_neg (by omega), if_neg (by rw [hlt]; decide), if_pos z]
    have hE : tkE x q = deT x q := by unfold tkE; rw [if_neg (by omega), if_neg (by rw [hlt]; decide), if_pos z]
    rw [hk, if_pos (show nI 2 = 2 from rfl), a1_2, t.2.2.1, hE, a1_1, t.2.1, nI_sub hd.1]
    by_cases y : deT x q - q ≤ 3
    · have e := x_number_L (Θ := Θ) (ω := ω) (n := n) h (e := deT x q) (by rw [t.2.2.1, hE]) hd.2 (lo := lo) (hi := hi) (deT x q - q) q 5000 0 (by omega) (by omega) (fun j h1 h2 => (of_decide_eq_true (rnB_in (dgP x) (x.1 - q) q j h1 h2)).2.1)
      have e : L_X8_number_31 Θ 5000 (gb Θ + 1) lo hi 0 (nI q) (laz Θ S ω) n = _ := e
      rw [if_pos (show nI (deT x q - q) ≤ 3 from nI_le (b := 3) y (by omega)), a1_1, t.2.1, e]
      congr 4
      unfold nuV
      by_cases u : ¬ nI (nuF x (deT x q - q) q 0) < lo ∧ ¬ hi < nI (nuF x (deT x q - q) q 0)
      · rw [if_pos u, if_pos ⟨z, y, u.1, u.2⟩]
      · rw [if_neg u, if_neg (fun v => u ⟨v.2.2.1, v.2.2.2⟩)]
    · rw [if_neg (show ¬ nI (deT x q - q) ≤ 3 from nI_ge (a := 3) (by omega) (by omega)), if_neg (fun u => y u.2.1)]
  · have hk : ¬ nI (tkK x q) = 2 := by
      unfold tkK
      split
      · decide
      · split
        · decide
        · decide
    rw [if_neg hk, if_neg (fun u => z u.1)]
theorem x_letter (h : TC S x) (t : TK S x q) : F_X8_letter Θ (gb Θ + 1) (laz Θ S ω) n = some (.inl (some (.int (leR x q)), laz Θ S ω, n)) := by
  have h4 := h.2.1
  have hw := weT_b t.1
  unfold F_X8_letter J_X8_letter_39 J_X8_letter_40 J_X8_letter_61 leR
  rw [a1_3, t.2.2.2.1]
  by_cases z : ltP x q = true
  · have hz := of_decide_eq_true z
    obtain ⟨hb1, hb2⟩ := h.2.2 q hz.1
    have hk : tkK x q = 1 := by unfold tkK; rw [if_neg (by omega), if_pos z]
    have hE : tkE x q = weT x q := by unfold tkE; rw [if_neg (by omega), if_pos z]
    rw [hk, if_pos (show nI 1 = 1 from rfl), a1_2, t.2.2.1, hE, a1_1, t.2.1, nI_sub hw.1]
    by_cases y : weT x q - q = 1
    · rw [y, if_pos (show nI 1 = 1 from rfl), a1_5, a1_1, t.2.1, l_2 (by omega), hb1]
      by_cases v : x.2 q < 103
      · rw [if_neg (show ¬ (103 : Int32) ≤ nI (x.2 q) from nI_ge (b := 103) v (by omega)), if_neg (show ¬ (1 : Int32) = 0 by decide), a1_5, a1_1, t.2.1, l_2 (by omega), hb1, if_pos ⟨z, rfl, v⟩, show (97 : Int32) = nI 97 from rfl, nI_sub (by omega)]
      · rw [if_pos (show (103 : Int32) ≤ nI (x.2 q) from nI_le (a := 103) (by omega) (by omega)), if_pos rfl, if_neg (fun u => v u.2.2)]
    · rw [if_neg (show ¬ nI (weT x q - q) = 1 from fun u => y ((nI_eq (b := 1) (by omega) (by omega)).mp u)), if_pos rfl, if_neg (fun u => y u.2.1)]
  · have hk : ¬ nI (tkK x q) = 1 := by
      unfold tkK
      split
      · decide
      · split <;> decide
    rw [if_neg hk, if_pos rfl, if_neg (fun u => z u.1)]
theorem x_deeds_L' (h : TC S x) {e : Nat} (he : zF S 1 2 = nI e) (hle : e ≤ x.1) : ∀ (k i f : Nat) (a : Int32), i + k = e → k < f → (∀ j, i ≤ j → j < e → 97 ≤ x.2 j) → L_X8_deeds_17 Θ f (gb Θ + 1) a (nI i) (laz Θ S ω) n = some (.inl (some (.int (dlS x k i a)), laz Θ S ω, n)) := by
  have h4 := h.2.1
  intro k
  induction k with
  | zero =>
    intro i f a h1 h2 h3
    obtain ⟨f, rfl⟩ : ∃ g, f = g + 1 := ⟨f - 1, by omega⟩
    unfold L_X8_deeds_17 B_X8_deeds_17
    rw [a1_2, he, if_pos (nI_le (by omega) (by omega))]
    rfl
  | succ k ih =>
    intro i f a h1 h2 h3
    obtain ⟨f, rfl⟩ : ∃ g, f = g + 1 := ⟨f - 1, by omega⟩
    obtain ⟨hb1, hb2⟩ := h.2.2 i (by omega)
    have h97 := h3 i (Nat.le_refl _) (by omega)
    have ev : nI (x.2 i) - 97 = nI (x.2 i - 97) := by rw [show (97 : Int32) = nI 97 from rfl, nI_sub h97]
    rw [show L_X8_deeds_17 Θ (f + 1) (gb Θ + 1) a (nI i) (laz Θ S ω) n = B_X8_deeds_17 Θ (L_X8_deeds_17 Θ f) (gb Θ + 1) a (nI i) (laz Θ S ω) n from rfl, show dlS x (k + 1) i a = if 103 ≤ x.2 i ∨ hasS a (nI (x.2 i - 97)) = 1 then -1 else dlS x k (i + 1) (a ||| 1 <<< (nI (x.2 i - 97) &&& 31)) from rfl]
    unfold B_X8_deeds_17 J_X8_deeds_50
    rw [a1_2, he, if_neg (nI_ge (by omega) (by omega)), a1_5, l_2 (by omega), hb1, ev, nI_1]
    by_cases z : 103 ≤ x.2 i
    · rw [if_pos (show (6 : Int32) ≤ nI (x.2 i - 97) from nI_le (a := 6) (by omega) (by omega)), if_pos (Or.inl z)]
    · rw [if_neg (show ¬ (6 : Int32) ≤ nI (x.2 i - 97) from nI_ge (b := 6) (by omega) (by omega))]
      by_cases y : (a >>> (nI (x.2 i - 97) &&& 31)) &&& 1 = 1
      · rw [if_pos y, if_pos (Or.inr (show hasS a (nI (x.2 i - 97)) = 1 from if_pos y))]
      · rw [if_neg y, if_neg (show ¬ (103 ≤ x.2 i ∨ hasS a (nI (x.2 i - 97)) = 1) from fun u => u.elim z (fun v => by unfold hasS at v; rw [if_neg y] at v; exact absurd v (by decide)))]
        exact ih (i + 1) f _ (by omega) (by omega) (fun j h5 h6 => h3 j (by omega) h6)
theorem x_deeds (h : TC S x) (t : TK S x q) : F_X8_deeds Θ (gb Θ + 1) (laz Θ S ω) n = some (.inl (some (.int (ddR x q)), laz Θ S ω, n)) := by
  have h4 := h.2.1
  have hw := weT_b t.1
  unfold F_X8_deeds ddR
  rw [a1_3, t.2.2.2.1]
  by_cases z : ltP x q = true
  · have hz := of_decide_eq_true z
    have hk : tkK x q = 1 := by unfold tkK; rw [if_neg (by omega), if_pos z]
    have hE : tkE x q = weT x q := by unfold tkE; rw [if_neg (by omega), if_pos z]
    have e := x_deeds_L' (Θ := Θ) (ω := ω) (n := n) h (e := weT x q) (by rw [t.2.2.1, hE]) hw.2 (weT x q - q) q 5000 0 (by omega) (by omega) (fun j h1 h2 => (of_decide_eq_true (rnB_in (ltP x) (x.1 - q) q j h1 h2)).2.1)
    rw [hk, if_pos (show nI 1 = 1 from rfl), a1_1, t.2.1, e, if_pos z]
  · have hk : ¬ nI (tkK x q) = 1 := by
      unfold tkK
      split
      · decide
      · split <;> decide
    rw [if_neg hk, if_neg z]
/-- go on from what stands at q -/
theorem x_adv (h : TC S x) (t : TK S x q) : ∃ S', F_X8_advance Θ (gb Θ + 1) (laz Θ S ω) n = some (.inl (none, laz Θ S' ω, n)) ∧ XTk S S' ∧ TK S' x (skT x (tkE x q)) := x_advance h (tkE_b t.1).2 t.2.2.1
theorem x_takeWord (h : TC S x) (t : TK S x q) {s : Nat} (hs : s < 21) {c : Int64} (hc : c = wdS s) : ∃ S', F_X8_takeWord Θ (gb Θ + 1) c (laz Θ S ω) n = some (.inl (some (.int (b01 (isWd x q s))), laz Θ S' ω, n)) ∧ XTk S S' ∧ TK S' x (if isWd x q s = true then skT x (weT x q) else q) := by
  unfold F_X8_takeWord J_X8_takeWord_14
  rw [d1, x_isWord h t hs hc, kI_v]
  by_cases z : isWd x q s = true
  · have hE : tkE x q = weT x q := by
      have hz := of_decide_eq_true z
      have hE1 := wsE_r s hs
      have hlt : ltP x q = true := by
        apply Classical.byContradiction
        intro u
        rw [weT_n (Bool.eq_false_iff.mpr u)] at hz
        omega
      unfold tkE
      rw [if_neg (by have := (of_decide_eq_true hlt).1; omega), if_pos hlt]
    obtain ⟨S', e, x1, t1⟩ := x_adv (Θ := Θ) (ω := ω) (n := n) h t
    rw [hE] at t1
    refine ⟨S', ?_, x1, by rw [if_pos z]; exact t1⟩
    rw [z, if_neg (show ¬ b01 true = 0 by decide), d1, e, kV_v]
    rfl
  · refine ⟨S, ?_, XTk.rf S, by rw [if_neg z]; exact t⟩
    rw [Bool.eq_false_iff.mpr z, if_pos (show b01 false = 0 from rfl)]
    rfl
theorem x_takeSign (h : TC S x) (t : TK S x q) {c : Nat} (hc : c < 48 ∨ (57 < c ∧ c < 97)) : ∃ S', F_X8_takeSign Θ (gb Θ + 1) (nI c) (laz Θ S ω) n = some (.inl (some (.int (b01 (isSg x q c))), laz Θ S' ω, n)) ∧ XTk S S' ∧ TK S' x (if isSg x q c = true then skT x (q + 1) else q) := by
  unfold F_X8_takeSign J_X8_takeSign_14
  rw [d1, x_isSign h t hc, kI_v]
  by_cases z : isSg x q c = true
  · have hz := of_decide_eq_true z
    have hE : tkE x q = q + 1 := by
      unfold tkE
      rw [if_neg (by omega), if_neg (by rw [show ltP x q = false from decide_eq_false (fun u => by omega)]; decide), if_neg (by rw [show dgP x q = false from decide_eq_false (fun u => by omega)]; decide)]
    obtain ⟨S', e, x1, t1⟩ := x_adv (Θ := Θ) (ω := ω) (n := n) h t
    rw [hE] at t1
    refine ⟨S', ?_, x1, by rw [if_pos z]; exact t1⟩
    rw [z, if_neg (show ¬ b01 true = 0 by decide), d1, e, kV_v]
    rfl
  · refine ⟨S, ?_, XTk.rf S, by rw [if_neg z]; exact t⟩
    rw [Bool.eq_false_iff.mpr z, if_pos (show b01 false = 0 from rfl)]
    rfl
/-- a number is taken -/
theorem nm_ne {lo hi : Int32} (hq : q ≤ x.1) (h : ¬ nmR x q lo hi = -1) : tkE x q = deT x q ∧ dgP x q = true := by
  unfold nmR at h
  by_cases z : dgP x q = true ∧ deT x q - q ≤ 3 ∧ ¬ nI (nuV x q) < lo ∧ ¬ hi < nI (nuV x q)
  · have hz := of_decide_eq_true z.1
    refine ⟨?_, z.1⟩
    unfold tkE
    rw [if_neg (by omega), if_neg (by rw [show ltP x q = false from decide_eq_false (fun u => by omega)]; decide), if_pos z.1]
  · rw [if_neg z] at h; exact absurd rfl h
end TQ
