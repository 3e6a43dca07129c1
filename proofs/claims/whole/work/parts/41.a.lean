/-! texts: runs of bytes, things in a text -/
def rnB (P : Nat → Bool) : Nat → Nat → Nat
  | 0, p => p
  | k + 1, p => if P p = true then rnB P k (p + 1) else p
theorem rnB_ge (P : Nat → Bool) : ∀ k p, p ≤ rnB P k p ∧ rnB P k p ≤ p + k := by
  intro k
  induction k with
  | zero => intro p; exact ⟨Nat.le_refl _, Nat.le_refl _⟩
  | succ k ih =>
    intro p
    unfold rnB
    have := ih (p + 1)
    split <;> omega
theorem rnB_in (P : Nat → Bool) : ∀ k p i, p ≤ i → i < rnB P k p → P i = true := by
  intro k
  induction k with
  | zero => intro p i h1 h2; exact absurd h2 (by show ¬ i < p; omega)
  | succ k ih =>
    intro p i h1 h2
    unfold rnB at h2
    split at h2
    · rename_i z
      by_cases y : i = p
      · subst y; exact z
      · exact ih (p + 1) i (by omega) h2
    · omega
theorem rnB_out {P : Nat → Bool} {len : Nat} (hP : ∀ i, len ≤ i → P i = false) : ∀ k p, len ≤ p + k → P (rnB P k p) = false := by
  intro k
  induction k with
  | zero => intro p h; exact hP p (by omega)
  | succ k ih =>
    intro p h
    unfold rnB
    split
    · exact ih (p + 1) (by omega)
    · rename_i z; exact Bool.eq_false_iff.mpr z
theorem rnB_stop {P : Nat → Bool} {p : Nat} (h : P p = false) (k : Nat) : rnB P k p = p := by
  cases k with
  | zero => rfl
  | succ k => unfold rnB; rw [if_neg (by rw [h]; decide)]
/-- fuel does not matter -/
theorem rnB_fu {P : Nat → Bool} {len : Nat} (hP : ∀ i, len ≤ i → P i = false) : ∀ k j p, len ≤ p + k → len ≤ p + j → rnB P k p = rnB P j p := by
  intro k
  induction k with
  | zero => intro j p h1 h2; rw [rnB_stop (hP p (by omega)), rnB_stop (hP p (by omega))]
  | succ k ih =>
    intro j p h1 h2
    by_cases z : P p = true
    · cases j with
      | zero => exact absurd z (by rw [hP p (by omega)]; decide)
      | succ j =>
        unfold rnB
        rw [if_pos z, if_pos z]
        exact ih j (p + 1) (by omega) (by omega)
    · rw [rnB_stop (Bool.eq_false_iff.mpr z), rnB_stop (Bool.eq_false_iff.mpr z)]
/-- the text: its length, its bytes -/
abbrev TX : Type := Nat × (Nat → Nat)
def blP (x : TX) : Nat → Bool := fun i => decide (i < x.1 ∧ x.2 i = 32)
def ltP (x : TX) : Nat → Bool := fun i => decide (i < x.1 ∧ 97 ≤ x.2 i ∧ x.2 i ≤ 122)
def dgP (x : TX) : Nat → Bool := fun i => decide (i < x.1 ∧ 48 ≤ x.2 i ∧ x.2 i ≤ 57)
theorem blP_o (x : TX) : ∀ i, x.1 ≤ i → blP x i = false := fun i h => decide_eq_false (fun u => by omega)
theorem ltP_o (x : TX) : ∀ i, x.1 ≤ i → ltP x i = false := fun i h => decide_eq_false (fun u => by omega)
theorem dgP_o (x : TX) : ∀ i, x.1 ≤ i → dgP x i = false := fun i h => decide_eq_false (fun u => by omega)
/-- behind blanks; behind letters; behind digits -/
def skT (x : TX) (p : Nat) : Nat := rnB (blP x) (x.1 - p) p
def weT (x : TX) (p : Nat) : Nat := rnB (ltP x) (x.1 - p) p
def deT (x : TX) (p : Nat) : Nat := rnB (dgP x) (x.1 - p) p
theorem skT_b {x : TX} {p : Nat} (h : p ≤ x.1) : p ≤ skT x p ∧ skT x p ≤ x.1 := by
  have := rnB_ge (blP x) (x.1 - p) p
  unfold skT; omega
theorem weT_b {x : TX} {p : Nat} (h : p ≤ x.1) : p ≤ weT x p ∧ weT x p ≤ x.1 := by
  have := rnB_ge (ltP x) (x.1 - p) p
  unfold weT; omega
theorem deT_b {x : TX} {p : Nat} (h : p ≤ x.1) : p ≤ deT x p ∧ deT x p ≤ x.1 := by
  have := rnB_ge (dgP x) (x.1 - p) p
  unfold deT; omega
theorem skT_o (x : TX) (p : Nat) : blP x (skT x p) = false := rnB_out (blP_o x) _ _ (by omega)
theorem skT_sk (x : TX) (p : Nat) : skT x (skT x p) = skT x p := rnB_stop (skT_o x p) _
theorem skT_s {x : TX} {p : Nat} (h : blP x p = true) : skT x p = skT x (p + 1) := by
  have hp : p < x.1 := (of_decide_eq_true h).1
  unfold skT
  obtain ⟨k, hk⟩ : ∃ k, x.1 - p = k + 1 := ⟨x.1 - p - 1, by omega⟩
  rw [hk, show x.1 - (p + 1) = k by omega]
  show (if blP x p = true then rnB (blP x) k (p + 1) else p) = _
  rw [if_pos h]
theorem weT_s {x : TX} {p : Nat} (h : ltP x p = true) : weT x p = weT x (p + 1) := by
  have hp : p < x.1 := (of_decide_eq_true h).1
  unfold weT
  obtain ⟨k, hk⟩ : ∃ k, x.1 - p = k + 1 := ⟨x.1 - p - 1, by omega⟩
  rw [hk, show x.1 - (p + 1) = k by omega]
  show (if ltP x p = true then rnB (ltP x) k (p + 1) else p) = _
  rw [if_pos h]
theorem deT_s {x : TX} {p : Nat} (h : dgP x p = true) : deT x p = deT x (p + 1) := by
  have hp : p < x.1 := (of_decide_eq_true h).1
  unfold deT
  obtain ⟨k, hk⟩ : ∃ k, x.1 - p = k + 1 := ⟨x.1 - p - 1, by omega⟩
  rw [hk, show x.1 - (p + 1) = k by omega]
  show (if dgP x p = true then rnB (dgP x) k (p + 1) else p) = _
  rw [if_pos h]
theorem skT_n {x : TX} {p : Nat} (h : blP x p = false) : skT x p = p := rnB_stop h _
theorem weT_n {x : TX} {p : Nat} (h : ltP x p = false) : weT x p = p := rnB_stop h _
theorem deT_n {x : TX} {p : Nat} (h : dgP x p = false) : deT x p = p := rnB_stop h _
/-- letters one behind another, in a number -/
def wdF (x : TX) : Nat → Nat → Int64 → Int64
  | 0, _, a => a
  | k + 1, i, a => wdF x k (i + 1) ((a <<< (Int32.toInt64 8 &&& 63)) ||| (nI (x.2 i)).toInt64)
/-- what stands at q: its kind, its end, its word -/
def tkK (x : TX) (q : Nat) : Nat := if x.1 ≤ q then 0 else if ltP x q = true then 1 else if dgP x q = true then 2 else 3
def tkE (x : TX) (q : Nat) : Nat := if x.1 ≤ q then q else if ltP x q = true then weT x q else if dgP x q = true then deT x q else q + 1
def tkW (x : TX) (q : Nat) : Int64 := if ltP x q = true then wdF x (weT x q - q) q 0 else 0
theorem tkE_b {x : TX} {q : Nat} (h : q ≤ x.1) : q ≤ tkE x q ∧ tkE x q ≤ x.1 := by
  unfold tkE
  have h1 := weT_b h
  have h2 := deT_b h
  split
  · omega
  · split
    · omega
    · split <;> omega
/-- the class's tape holds the text -/
def TC (S : PZ) (x : TX) : Prop := zF S 1 0 = nI x.1 ∧ x.1 ≤ 400 ∧ ∀ i, i < x.1 → zA S 2 i = nI (x.2 i) ∧ x.2 i ≤ 255
/-- what stands at q is looked at -/
def TK (S : PZ) (x : TX) (q : Nat) : Prop := q ≤ x.1 ∧ zF S 1 1 = nI q ∧ zF S 1 2 = nI (tkE x q) ∧ zF S 1 3 = nI (tkK x q) ∧ zL S 1 = tkW x q
/-- S' is as S but for where the class's tape is -/
def XTk (S S' : PZ) : Prop := (∀ k j, ¬ (k = 1 ∧ 1 ≤ j ∧ j ≤ 3) → zF S' k j = zF S k j) ∧ (∀ k, zA S' k = zA S k) ∧ (∀ k j, zR S' k j = zR S k j) ∧ (∀ k, k ≠ 1 → zL S' k = zL S k)
theorem XTk.rf (S : PZ) : XTk S S := ⟨fun _ _ _ => rfl, fun _ => rfl, fun _ _ => rfl, fun _ _ => rfl⟩
theorem XTk.trans {S S' S'' : PZ} (h : XTk S S') (g : XTk S' S'') : XTk S S'' := ⟨fun k j q => (g.1 k j q).trans (h.1 k j q), fun k => (g.2.1 k).trans (h.2.1 k), fun k j => (g.2.2.1 k j).trans (h.2.2.1 k j), fun k q => (g.2.2.2 k q).trans (h.2.2.2 k q)⟩
theorem XTk.nF {S S' : PZ} (h : XTk S S') {j : Nat} {v : Int32} (q : 1 ≤ j ∧ j ≤ 3) : XTk S (uF S' 1 j v) := ⟨fun k i z => by rw [zF_ne _ _ (by rintro ⟨rfl, rfl⟩; exact z ⟨rfl, q⟩), h.1 k i z], h.2.1, h.2.2.1, h.2.2.2⟩
theorem XTk.nL {S S' : PZ} (h : XTk S S') {v : Int64} : XTk S (uL S' 1 v) := ⟨h.1, h.2.1, h.2.2.1, fun k q => by rw [zL_uL, if_neg q, h.2.2.2 k q]⟩
theorem TC.xtk {S S' : PZ} {x : TX} (h : TC S x) (t : XTk S S') : TC S' x := ⟨by rw [t.1 1 0 (by omega)]; exact h.1, h.2.1, by rw [t.2.1]; exact h.2.2⟩
section TA
variable {Θ : GP} {S S0 : PZ} {ω : OW} {n : Nat} {x : TX}
theorem x_adv8_L (h : TC S x) : ∀ (k p f : Nat), p + k = x.1 → k < f → L_X8_advance_8 Θ f (gb Θ + 1) (laz Θ (uF S 1 1 (nI p)) ω) n = J_X8_advance_46 Θ (gb Θ + 1) (laz Θ (uF S 1 1 (nI (skT x p))) ω) n := by
  intro k
  induction k with
  | zero =>
    intro p f h1 h2
    obtain ⟨f, rfl⟩ : ∃ g, f = g + 1 := ⟨f - 1, by omega⟩
    have := h.2.1
    unfold L_X8_advance_8 B_X8_advance_8
    rw [a1_1, zF_eq, a1_0, zF_ne _ _ (by omega), h.1, if_pos (nI_le (by omega) (by omega)), skT_n (blP_o x p (by omega))]
  | succ k ih =>
    intro p f h1 h2
    obtain ⟨f, rfl⟩ : ∃ g, f = g + 1 := ⟨f - 1, by omega⟩
    have h4 := h.2.1
    obtain ⟨hb1, hb2⟩ := h.2.2 p (by omega)
    rw [show L_X8_advance_8 Θ (f + 1) (gb Θ + 1) (laz Θ (uF S 1 1 (nI p)) ω) n = B_X8_advance_8 Θ (L_X8_advance_8 Θ f) (gb Θ + 1) (laz Θ (uF S 1 1 (nI p)) ω) n from rfl]
    unfold B_X8_advance_8
    rw [a1_1, zF_eq, a1_0, zF_ne _ _ (by omega), h.1, if_neg (nI_ge (by omega) (by omega)), a1_5, a1_1, zF_eq, l_2 (by omega), zA_uF, hb1]
    by_cases z : x.2 p = 32
    · have hz : blP x p = true := decide_eq_true ⟨by omega, z⟩
      rw [if_pos (show nI (x.2 p) = 32 by rw [z]; rfl), a1_1, zF_eq, nI_1, b1_1, uF_uF, ih (p + 1) f (by omega) (by omega), skT_s hz]
    · have hz : blP x p = false := decide_eq_false (fun u => z u.2)
      rw [if_neg (show ¬ nI (x.2 p) = 32 from fun u => z ((nI_eq (b := 32) (by omega) (by omega)).mp u)), skT_n hz]
theorem x_adv111_L (h : TC S x) : ∀ (k p f : Nat) (a : Int64), p + k = x.1 → k < f → L_X8_advance_111 Θ f (gb Θ + 1) (laz Θ (uL (uF S 1 2 (nI p)) 1 a) ω) n = some (.inl (none, laz Θ (uL (uF S 1 2 (nI (weT x p))) 1 (wdF x (weT x p - p) p a)) ω, n)) := by
  intro k
  induction k with
  | zero =>
    intro p f a h1 h2
    obtain ⟨f, rfl⟩ : ∃ g, f = g + 1 := ⟨f - 1, by omega⟩
    have := h.2.1
    unfold L_X8_advance_111 B_X8_advance_111 J_X8_advance_285
    rw [a1_2, zF_uL, zF_eq, a1_0, zF_uL, zF_ne _ _ (by omega), h.1, if_pos (nI_le (by omega) (by omega)), weT_n (ltP_o x p (by omega)), Nat.sub_self]
    rfl
  | succ k ih =>
    intro p f a h1 h2
    obtain ⟨f, rfl⟩ : ∃ g, f = g + 1 := ⟨f - 1, by omega⟩
    have h4 := h.2.1
    obtain ⟨hb1, hb2⟩ := h.2.2 p (by omega)
    have no : ltP x p = false → (some (.inl (none, laz Θ (uL (uF S 1 2 (nI p)) 1 a) ω, n)) : RO) = some (.inl (none, laz Θ (uL (uF S 1 2 (nI (weT x p))) 1 (wdF x (weT x p - p) p a)) ω, n)) := by
      intro hz
      rw [weT_n hz, Nat.sub_self]
      rfl
    rw [show L_X8_advance_111 Θ (f + 1) (gb Θ + 1) (laz Θ (uL (uF S 1 2 (nI p)) 1 a) ω) n = B_X8_advance_111 Θ (L_X8_advance_111 Θ f) (gb Θ + 1) (laz Θ (uL (uF S 1 2 (nI p)) 1 a) ω) n from rfl]
    unfold B_X8_advance_111 J_X8_advance_285
    rw [a1_2, zF_uL, zF_eq, a1_0, zF_uL, zF_ne _ _ (by omega), h.1, if_neg (nI_ge (by omega) (by omega)), a1_5, a1_2, zF_uL, zF_eq, l_2 (by omega), zA_uL, zA_uF, hb1]
    by_cases z : 97 ≤ x.2 p
    · rw [if_neg (show ¬ nI (x.2 p) < 97 from nI_nlt (b := 97) z (by omega)), a1_5, a1_2, zF_uL, zF_eq, l_2 (by omega), zA_uL, zA_uF, hb1]
      by_cases y : x.2 p ≤ 122
      · have hz : ltP x p = true := decide_eq_true ⟨by omega, z, y⟩
        have hw := weT_b (x := x) (p := p + 1) (by omega)
        have ew : wdF x (weT x p - p) p a = wdF x (weT x (p + 1) - (p + 1)) (p + 1) ((a <<< (Int32.toInt64 8 &&& 63)) ||| (nI (x.2 p)).toInt64) := by
          rw [weT_s hz, show weT x (p + 1) - p = (weT x (p + 1) - (p + 1)) + 1 by omega]
          rfl
        have es : uF (uL (uL (uF S 1 2 (nI p)) 1 a) 1 ((a <<< (Int32.toInt64 8 &&& 63)) ||| (nI (x.2 p)).toInt64)) 1 2 (nI (p + 1)) = uL (uF S 1 2 (nI (p + 1))) 1 ((a <<< (Int32.toInt64 8 &&& 63)) ||| (nI (x.2 p)).toInt64) := by
          have e1 : uL (uL (uF S 1 2 (nI p)) 1 a) 1 ((a <<< (Int32.toInt64 8 &&& 63)) ||| (nI (x.2 p)).toInt64) = uL (uF S 1 2 (nI p)) 1 ((a <<< (Int32.toInt64 8 &&& 63)) ||| (nI (x.2 p)).toInt64) := by
            show ((uF S 1 2 (nI p)).1, (uF S 1 2 (nI p)).2.1, (fun i => if i = 1 then _ else if i = 1 then _ else _), _) = (_, _, (fun i => if i = 1 then _ else _), _)
            congr 3
            funext i
            split <;> rfl
          rw [e1]
          show uL (uF (uF S 1 2 (nI p)) 1 2 (nI (p + 1))) 1 _ = _
          rw [uF_uF]
        rw [if_neg (show ¬ (122 : Int32) < nI (x.2 p) from nI_nlt (a := 122) y (by omega)), a1_4, a1_5, a1_2, zF_uL, zF_eq, l_2 (by omega), zA_uL, zA_uF, hb1, zL_uL, if_pos rfl, b1_4, a1_2, zF_uL, zF_uL, zF_eq, nI_1, b1_2, es, ih (p + 1) f _ (by omega) (by omega), ew, weT_s hz]
      · rw [if_pos (show (122 : Int32) < nI (x.2 p) from nI_lt (a := 122) (by omega) (by omega))]
        exact no (decide_eq_false (fun u => y u.2.2))
    · rw [if_pos (show nI (x.2 p) < 97 from nI_lt (b := 97) (by omega) (by omega))]
      exact no (decide_eq_false (fun u => z u.2.1))
theorem x_adv218_L (h : TC S x) : ∀ (k p f : Nat), p + k = x.1 → k < f → L_X8_advance_218 Θ f (gb Θ + 1) (laz Θ (uF S 1 2 (nI p)) ω) n = some (.inl (none, laz Θ (uF S 1 2 (nI (deT x p))) ω, n)) := by
  intro k
  induction k with
  | zero =>
    intro p f h1 h2
    obtain ⟨f, rfl⟩ : ∃ g, f = g + 1 := ⟨f - 1, by omega⟩
    have := h.2.1
    unfold L_X8_advance_218 B_X8_advance_218 J_X8_advance_285
    rw [a1_2, zF_eq, a1_0, zF_ne _ _ (by omega), h.1, if_pos (nI_le (by omega) (by omega)), deT_n (dgP_o x p (by omega))]
  | succ k ih =>
    intro p f h1 h2
    obtain ⟨f, rfl⟩ : ∃ g, f = g + 1 := ⟨f - 1, by omega⟩
    have h4 := h.2.1
    obtain ⟨hb1, hb2⟩ := h.2.2 p (by omega)
    rw [show L_X8_advance_218 Θ (f + 1) (gb Θ + 1) (laz Θ (uF S 1 2 (nI p)) ω) n = B_X8_advance_218 Θ (L_X8_advance_218 Θ f) (gb Θ + 1) (laz Θ (uF S 1 2 (nI p)) ω) n from rfl]
    unfold B_X8_advance_218 J_X8_advance_285
    rw [a1_2, zF_eq, a1_0, zF_ne _ _ (by omega), h.1, if_neg (nI_ge (by omega) (by omega)), a1_5, a1_2, zF_eq, l_2 (by omega), zA_uF, hb1]
    by_cases z : 48 ≤ x.2 p
    · rw [if_neg (show ¬ nI (x.2 p) < 48 from nI_nlt (b := 48) z (by omega)), a1_5, a1_2, zF_eq, l_2 (by omega), zA_uF, hb1]
      by_cases y : x.2 p ≤ 57
      · have hz : dgP x p = true := decide_eq_true ⟨by omega, z, y⟩
        rw [if_neg (show ¬ (57 : Int32) < nI (x.2 p) from nI_nlt (a := 57) y (by omega)), a1_2, zF_eq, nI_1, b1_2, uF_uF, ih (p + 1) f (by omega) (by omega), deT_s hz]
      · rw [if_pos (show (57 : Int32) < nI (x.2 p) from nI_lt (a := 57) (by omega) (by omega)), deT_n (decide_eq_false (fun u => y u.2.2))]
    · rw [if_pos (show nI (x.2 p) < 48 from nI_lt (b := 48) (by omega) (by omega)), deT_n (decide_eq_false (fun u => z u.2.1))]
/-- on to the next thing -/
theorem x_advance (h : TC S x) {p : Nat} (hp : p ≤ x.1) (he : zF S 1 2 = nI p) : ∃ S', F_X8_advance Θ (gb Θ + 1) (laz Θ S ω) n = some (.inl (none, laz Θ S' ω, n)) ∧ XTk S S' ∧ TK S' x (skT x p) := by
  have h4 := h.2.1
  have hq := skT_b hp
  have e8 := x_adv8_L (Θ := Θ) (ω := ω) (n := n) h (x.1 - p) p 5000 (by omega) (by omega)
  have main : ∃ S', J_X8_advance_46 Θ (gb Θ + 1) (laz Θ (uF S 1 1 (nI (skT x p))) ω) n = some (.inl (none, laz Θ S' ω, n)) ∧ XTk S S' ∧ TK S' x (skT x p) := by
    generalize skT x p = q at *
    have t1 : XTk S (uL (uF (uF S 1 1 (nI q)) 1 2 (nI q)) 1 0) := (((XTk.rf S).nF (by omega)).nF (by omega)).nL
    have c1 : TC (uL (uF (uF S 1 1 (nI q)) 1 2 (nI q)) 1 0) x := h.xtk t1
    unfold J_X8_advance_46
    rw [a1_1, zF_eq, b1_2, b1_4, a1_1, zF_uL, zF_ne _ _ (by omega), zF_eq, a1_0, c1.1]
    have f1 : zF (uL (uF (uF S 1 1 (nI q)) 1 2 (nI q)) 1 0) 1 1 = nI q := by rw [zF_uL, zF_ne _ _ (by omega), zF_eq]
    have f2 : zF (uL (uF (uF S 1 1 (nI q)) 1 2 (nI q)) 1 0) 1 2 = nI q := by rw [zF_uL, zF_eq]
    have f4 : zL (uL (uF (uF S 1 1 (nI q)) 1 2 (nI q)) 1 0) 1 = 0 := by rw [zL_uL, if_pos rfl]
    generalize uL (uF (uF S 1 1 (nI q)) 1 2 (nI q)) 1 0 = T at *
    by_cases z : q < x.1
    · obtain ⟨hb1, hb2⟩ := c1.2.2 q z
      -- a sign, or digits
      have rest : ltP x q = false → ∃ S', J_X8_advance_185 Θ (gb Θ + 1) (laz Θ T ω) n = some (.inl (none, laz Θ S' ω, n)) ∧ XTk S S' ∧ TK S' x q := by
        intro hlt
        have sg : dgP x q = false → ∃ S', J_X8_advance_270 Θ (gb Θ + 1) (laz Θ T ω) n = some (.inl (none, laz Θ S' ω, n)) ∧ XTk S S' ∧ TK S' x q := by
          intro hdg
          refine ⟨uF (uF T 1 3 3) 1 2 (nI (q + 1)), ?_, (t1.nF (by omega)).nF (by omega), hq.2, ?_, ?_, ?_, ?_⟩
          · unfold J_X8_advance_270 J_X8_advance_285
            rw [b1_3, a1_2, zF_ne _ _ (by omega), f2, nI_1, b1_2]
          · rw [zF_ne _ _ (by omega), zF_ne _ _ (by omega), f1]
          · rw [zF_eq]; unfold tkE; rw [if_neg (by omega), if_neg (by rw [hlt]; decide), if_neg (by rw [hdg]; decide)]
          · rw [zF_ne _ _ (by omega), zF_eq]; unfold tkK; rw [if_neg (by omega), if_neg (by rw [hlt]; decide), if_neg (by rw [hdg]; decide)]; rfl
          · show zL T 1 = _
            rw [f4]; unfold tkW; rw [if_neg (by rw [hlt]; decide)]
        unfold J_X8_advance_185
        rw [a1_5, a1_1, f1, l_2 (by omega), hb1]
        by_cases y : 48 ≤ x.2 q
        · rw [if_neg (show ¬ nI (x.2 q) < 48 from nI_nlt (b := 48) y (by omega)), a1_5, a1_1, f1, l_2 (by omega), hb1]
          by_cases v : x.2 q ≤ 57
          · have hdg : dgP x q = true := decide_eq_true ⟨z, y, v⟩
            have c2 : TC (uF T 1 3 2) x := c1.xtk ((XTk.rf T).nF (by omega))
            have e2 := x_adv218_L (Θ := Θ) (ω := ω) (n := n) c2 (x.1 - q) q 5000 (by omega) (by omega)
            have es : uF (uF T 1 3 2) 1 2 (nI q) = uF T 1 3 2 := by have := uF_self (uF T 1 3 2) 1 2; rw [zF_ne _ _ (by omega), f2] at this; exact this
            rw [es] at e2
            refine ⟨uF (uF T 1 3 2) 1 2 (nI (deT x q)), ?_, (t1.nF (by omega)).nF (by omega), hq.2, ?_, ?_, ?_, ?_⟩
            · rw [if_neg (show ¬ (57 : Int32) < nI (x.2 q) from nI_nlt (a := 57) v (by omega)), b1_3, e2]
            · rw [zF_ne _ _ (by omega), zF_ne _ _ (by omega), f1]
            · rw [zF_eq]; unfold tkE; rw [if_neg (by omega), if_neg (by rw [hlt]; decide), if_pos hdg]
            · rw [zF_ne _ _ (by omega), zF_eq]; unfold tkK; rw [if_neg (by omega), if_neg (by rw [hlt]; decide), if_pos hdg]; rfl
            · show zL T 1 = _
              rw [f4]; unfold tkW; rw [if_neg (by rw [hlt]; decide)]
          · rw [if_pos (show (57 : Int32) < nI (x.2 q) from nI_lt (a := 57) (by omega) (by omega))]
            exact sg (decide_eq_false (fun u => v u.2.2))
        · rw [if_pos (show nI (x.2 q) < 48 from nI_lt (b := 48) (by omega) (by omega))]
          exact sg (decide_eq_false (fun u => y u.2.1))
      rw [if_pos (nI_lt z (by omega)), a1_5, a1_1, f1, l_2 (by omega), hb1]
      by_cases y : 97 ≤ x.2 q
      · rw [if_neg (show ¬ nI (x.2 q) < 97 from nI_nlt (b := 97) y (by omega)), a1_5, a1_1, f1, l_2 (by omega), hb1]
        by_cases v : x.2 q ≤ 122
        · have hlt : ltP x q = true := decide_eq_true ⟨z, y, v⟩
          have c2 : TC (uF T 1 3 1) x := c1.xtk ((XTk.rf T).nF (by omega))
          have e2 := x_adv111_L (Θ := Θ) (ω := ω) (n := n) c2 (x.1 - q) q 5000 0 (by omega) (by omega)
          have es : uL (uF (uF T 1 3 1) 1 2 (nI q)) 1 0 = uF T 1 3 1 := by
            have e1 := uF_self (uF T 1 3 1) 1 2
            rw [zF_ne _ _ (by omega), f2] at e1
            rw [e1]
            have hL : zL (uF T 1 3 1) 1 = 0 := f4
            apply Prod.ext
            · rfl
            · apply Prod.ext
              · rfl
              · apply Prod.ext
                · funext i
                  show (if i = 1 then (0 : Int64) else zL (uF T 1 3 1) i) = zL (uF T 1 3 1) i
                  by_cases u : i = 1
                  · subst u; rw [if_pos rfl, hL]
                  · rw [if_neg u]
                · rfl
          rw [es] at e2
          refine ⟨uL (uF (uF T 1 3 1) 1 2 (nI (weT x q))) 1 (wdF x (weT x q - q) q 0), ?_, ((t1.nF (by omega)).nF (by omega)).nL, hq.2, ?_, ?_, ?_, ?_⟩
          · rw [if_neg (show ¬ (122 : Int32) < nI (x.2 q) from nI_nlt (a := 122) v (by omega)), b1_3, e2]
          · rw [zF_uL, zF_ne _ _ (by omega), zF_ne _ _ (by omega), f1]
          · rw [zF_uL, zF_eq]; unfold tkE; rw [if_neg (by omega), if_pos hlt]
          · rw [zF_uL, zF_ne _ _ (by omega), zF_eq]; unfold tkK; rw [if_neg (by omega), if_pos hlt]; rfl
          · rw [zL_uL, if_pos rfl]; unfold tkW; rw [if_pos hlt]
        · rw [if_pos (show (122 : Int32) < nI (x.2 q) from nI_lt (a := 122) (by omega) (by omega))]
          exact rest (decide_eq_false (fun u => v u.2.2))
      · rw [if_pos (show nI (x.2 q) < 97 from nI_lt (b := 97) (by omega) (by omega))]
        exact rest (decide_eq_false (fun u => y u.2.1))
    · have hlt := ltP_o x q (by omega)
      refine ⟨uF T 1 3 0, ?_, t1.nF (by omega), hq.2, ?_, ?_, ?_, ?_⟩
      · unfold J_X8_advance_285
        rw [if_neg (nI_nlt (by omega) (by omega)), b1_3]
      · rw [zF_ne _ _ (by omega), f1]
      · rw [zF_ne _ _ (by omega), f2]; unfold tkE; rw [if_pos (by omega)]
      · rw [zF_eq]; unfold tkK; rw [if_pos (by omega)]; rfl
      · show zL T 1 = _
        rw [f4]; unfold tkW; rw [if_neg (by rw [hlt]; decide)]
  obtain ⟨S', e, o⟩ := main
  refine ⟨S', ?_, o⟩
  unfold F_X8_advance
  rw [a1_2, he, b1_1, e8, e]
end TA
