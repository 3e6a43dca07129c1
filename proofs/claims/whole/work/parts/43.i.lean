/-! conditions and their atoms, read by the class -/
theorem som1 (c : CE) : ¬ b01 (some c).isSome = 0 := show ¬ b01 true = 0 by decide
section XI
variable {Θ : GP} {ω : OW} {n : Nat} {x : TX}
/-- what an atom's reader does -/
def RAx (Θ : GP) (ω : OW) (n : Nat) (x : TX) (at' : Nat → Nat × Option CE) (l1 : Int32) (rcA : Nat → Int32 → OW → Nat → RO) : Prop := ∀ (S : PZ) (q s : Nat), TC S x → TK S x q → zF S 197 2 = nI s → s + (x.1 - q) ≤ 400 → XCo Θ S ω n x s (at' q) (rcA (gb Θ + 197) l1 (laz Θ S ω) n)
theorem at_end {at' : Nat → Nat × Option CE} {D q : Nat} (hg : GO x q D (at' q)) (hq : x.1 ≤ q) (hq' : q ≤ x.1) : at' q = (q, none) := by
  obtain ⟨g1, g2, g3⟩ := hg
  rcases hm : at' q with ⟨r, _ | c⟩
  · rw [hm] at g1 g2
    have g1 : q ≤ r := g1
    have g2 : r ≤ x.1 := g2
    rw [show r = q by omega]
  · rw [hm] at g1 g2 g3
    have := (g3 c rfl).2.2.1
    have g2 : r ≤ x.1 := g2
    have this : q < r := this
    omega
theorem wd_end {q s : Nat} (hs : s < 21) (hq : x.1 ≤ q) : isWd x q s = false := by
  cases h : isWd x q s with
  | false => rfl
  | true => have := (wd_we hs h).2; omega
theorem x_and {at' : Nat → Nat × Option CE} {D : Nat} {l1 l2 l3 : Int32} {rcA : Nat → Int32 → OW → Nat → RO} {k4 : Nat → Int32 → Int32 → Int32 → OW → Nat → RO} (hA : RAx Θ ω n x at' l1 rcA) (hG : ∀ q, q ≤ x.1 → GO x q D (at' q)) {S0 : PZ} {s0 : Nat} : ∀ (k q j f : Nat) (c : CE) (S : PZ), x.1 < q + k → j + (x.1 - q) ≤ 400 → 401 < f + j → TC S x → TK S x q → XQl S0 S → XWl S0 S s0 c.1 → s0 + c.1.length + (x.1 - q) ≤ 400 →
    ((anL x at' k c q).2 = none ∧ ∃ S', L_X3_readCondition_24 Θ rcA k4 f (gb Θ + 197) l1 l2 l3 (nI j) (laz Θ S ω) n = some (.inl (some (.int 0), laz Θ S' ω, n)) ∧ XQl S0 S' ∧ TK S' x (anL x at' k c q).1) ∨
    ∃ c' S', (anL x at' k c q).2 = some c' ∧ L_X3_readCondition_24 Θ rcA k4 f (gb Θ + 197) l1 l2 l3 (nI j) (laz Θ S ω) n = J_X3_readCondition_69 Θ rcA k4 (gb Θ + 197) l1 l2 l3 (laz Θ S' ω) n ∧ XQl S0 S' ∧ TK S' x (anL x at' k c q).1 ∧ XWl S0 S' s0 c'.1 := by
  intro k
  induction k with
  | zero => intro q j f c S h0 _ _ _ t; have := t.1; omega
  | succ k ih =>
    intro q j f c S h0 h1 h2 h t hq0 hw hsz
    obtain ⟨f, rfl⟩ : ∃ g, f = g + 1 := ⟨f - 1, by omega⟩
    have hq := t.1
    show (_ ∧ ∃ S', B_X3_readCondition_24 Θ rcA k4 (L_X3_readCondition_24 Θ rcA k4 f) (gb Θ + 197) l1 l2 l3 (nI j) (laz Θ S ω) n = _ ∧ _) ∨ ∃ c' S', _ ∧ B_X3_readCondition_24 Θ rcA k4 (L_X3_readCondition_24 Θ rcA k4 f) (gb Θ + 197) l1 l2 l3 (nI j) (laz Θ S ω) n = _ ∧ _
    unfold B_X3_readCondition_24 J_X3_readCondition_61 anL
    by_cases z4 : 400 ≤ j
    · rw [if_pos (show (400 : Int32) ≤ nI j from nI_le (a := 400) z4 (by omega)), wd_end (by omega) (by omega), if_neg (show ¬ false = true by decide)]
      exact Or.inr ⟨c, S, rfl, rfl, hq0, t, hw⟩
    · obtain ⟨S1, e1, x1, t1⟩ := x_takeWord (Θ := Θ) (ω := ω) (n := n) h t (s := 15) (by decide) (c := 6385252) (by decide)
      rw [if_neg (show ¬ (400 : Int32) ≤ nI j from nI_ge (b := 400) (by omega) (by omega)), a197_0, d1, e1, kI_v]
      cases hz : isWd x q 15 with
      | false =>
        rw [hz, if_neg (show ¬ false = true by decide)] at t1
        rw [if_pos (show b01 false = 0 from rfl), if_neg (show ¬ false = true by decide)]
        exact Or.inr ⟨c, S1, rfl, rfl, hq0.trans x1.q, t1, hw.tk x1⟩
      | true =>
        rw [hz, if_pos rfl] at t1
        rw [if_neg (show ¬ b01 true = 0 by decide), if_pos rfl, d197]
        have hn := wd_nx (by omega) hz hq
        have hn1 : q + 3 ≤ skT x (weT x q) := hn.1
        have hw1 := hw.tk x1
        have hg := hG _ hn.2
        obtain ⟨S2, e2, q2, t2, w2⟩ := hA S1 (skT x (weT x q)) (s0 + c.1.length) (h.xtk x1) t1 hw1.1 (by omega)
        rcases hm : at' (skT x (weT x q)) with ⟨r, _ | b⟩
        · rw [hm] at e2 t2
          rw [e2, kI_v, if_pos (show b01 (none : Option CE).isSome = 0 from rfl)]
          exact Or.inl ⟨rfl, S2, rfl, (hq0.trans x1.q).trans q2, t2⟩
        · rw [hm] at e2 t2 w2 hg
          have w2 := w2 b rfl
          obtain ⟨g1, g2, g3⟩ := hg
          obtain ⟨g4, g5, g6, _⟩ := g3 b rfl
          have g4 : skT x (weT x q) + b.1.length ≤ r := g4
          have g2 : r ≤ x.1 := g2
          have g6 : skT x (weT x q) < r := g6
          have w12 := hw1.trans w2
          obtain ⟨a3, b3⟩ := x_write (Θ := Θ) (ω := ω) (n := n) (v := 1) w12.1 (by rw [List.length_append]; omega)
          have q3 : XQl S2 (uF (uA S2 201 (upd (zA S2 201) (s0 + (c.1 ++ b.1).length) 1)) 197 2 (nI (s0 + (c.1 ++ b.1).length + 1))) := (XQl.rf S2).nA.nF
          have t3 : TK (uF (uA S2 201 (upd (zA S2 201) (s0 + (c.1 ++ b.1).length) 1)) 197 2 (nI (s0 + (c.1 ++ b.1).length + 1))) x r := TK.nF (TK.nA t2)
          generalize uF (uA S2 201 (upd (zA S2 201) (s0 + (c.1 ++ b.1).length) 1)) 197 2 (nI (s0 + (c.1 ++ b.1).length + 1)) = S3 at *
          have w3 : XWl S0 S3 s0 (conC c b).1 := w12.trans b3
          rw [e2, kI_v, if_neg (som1 b), d197, a3, kI_v, if_neg (show ¬ (1 : Int32) = 0 by decide), nI_1]
          exact ih r (j + 1) f (conC c b) S3 (by omega) (by omega) (by omega) (((h.xtk x1).xq q2).xq q3) t3 (((hq0.trans x1.q).trans q2).trans q3) w3 (by rw [(con_ln c b).1]; omega)
theorem x_all {at' : Nat → Nat × Option CE} {D : Nat} {l1 l2 l3 : Int32} {rcA : Nat → Int32 → OW → Nat → RO} {k4 : Nat → Int32 → Int32 → Int32 → OW → Nat → RO} (hA : RAx Θ ω n x at' l1 rcA) (hG : ∀ q, q ≤ x.1 → GO x q D (at' q)) {S : PZ} {q s : Nat} (h : TC S x) (t : TK S x q) (hs : zF S 197 2 = nI s) (hs4 : s + (x.1 - q) ≤ 400) (hx : x.1 ≤ 400) :
    ((anP x at' q).2 = none ∧ ∃ S', cO (laz Θ S ω) (gb Θ + 197) 3 (kI (rcA (gb Θ + 197) l1 (laz Θ S ω) n) (fun x16 ω n => if x16 = 0 then (some (.inl (some (.int 0), ω, n))) else (L_X3_readCondition_24 Θ rcA k4 5000 (gb Θ + 197) l1 l2 l3 0 ω n))) = some (.inl (some (.int 0), laz Θ S' ω, n)) ∧ XQl S S' ∧ TK S' x (anP x at' q).1) ∨
    ∃ c' S', (anP x at' q).2 = some c' ∧ cO (laz Θ S ω) (gb Θ + 197) 3 (kI (rcA (gb Θ + 197) l1 (laz Θ S ω) n) (fun x16 ω n => if x16 = 0 then (some (.inl (some (.int 0), ω, n))) else (L_X3_readCondition_24 Θ rcA k4 5000 (gb Θ + 197) l1 l2 l3 0 ω n))) = J_X3_readCondition_69 Θ rcA k4 (gb Θ + 197) l1 l2 l3 (laz Θ S' ω) n ∧ XQl S S' ∧ TK S' x (anP x at' q).1 ∧ XWl S S' s c'.1 := by
  have hg := hG q t.1
  obtain ⟨S2, e2, q2, t2, w2⟩ := hA S q s h t hs hs4
  unfold anP
  rcases hm : at' q with ⟨r, _ | c⟩
  · rw [hm] at e2 t2
    rw [d197, e2, kI_v, if_pos (show b01 (none : Option CE).isSome = 0 from rfl)]
    exact Or.inl ⟨rfl, S2, rfl, q2, t2⟩
  · rw [hm] at e2 t2 w2 hg
    have w2 := w2 c rfl
    obtain ⟨g1, g2, g3⟩ := hg
    obtain ⟨g4, g5, g6, _⟩ := g3 c rfl
    have g4 : q + c.1.length ≤ r := g4
    have g2 : r ≤ x.1 := g2
    rw [d197, e2, kI_v, if_neg (som1 c)]
    exact x_and (l2 := l2) (l3 := l3) (k4 := k4) hA hG 401 r 0 5000 c S2 (by omega) (by omega) (by omega) (h.xq q2) t2 q2 w2 (by omega)
theorem x_orT {at' : Nat → Nat × Option CE} {D : Nat} {l1 : Int32} {rcA : Nat → Int32 → OW → Nat → RO} (hA : RAx Θ ω n x at' l1 rcA) (hG : ∀ q, q ≤ x.1 → GO x q D (at' q)) (hx : x.1 ≤ 400) {S0 : PZ} {s0 : Nat} : ∀ (k q i f : Nat) (c : CE) (S : PZ), x.1 < q + k → i + (x.1 - q) ≤ 400 → 401 < f + i → TC S x → TK S x q → XQl S0 S → XWl S0 S s0 c.1 → s0 + c.1.length + (x.1 - q) ≤ 400 → XCo Θ S0 ω n x s0 (cdL x at' k c q) (J_X3_readCondition_83 Θ rcA (L_X3_readCondition_4 Θ rcA f) (gb Θ + 197) l1 (nI i) (laz Θ S ω) n) := by
  intro k
  induction k with
  | zero => intro q i f c S h0 _ _ _ t; have := t.1; omega
  | succ k ih =>
    intro q i f c S h0 h1 h2 h t hq0 hw hsz
    have hq := t.1
    obtain ⟨S1, e1, x1, t1⟩ := x_takeWord (Θ := Θ) (ω := ω) (n := n) h t (s := 16) (by decide) (c := 28530) (by decide)
    unfold J_X3_readCondition_83 cdL
    rw [a197_0, d1, e1, kI_v]
    cases hz : isWd x q 16 with
    | false =>
      rw [hz, if_neg (show ¬ false = true by decide)] at t1
      rw [if_pos (show b01 false = 0 from rfl), if_neg (show ¬ false = true by decide)]
      exact XCo.t rfl (hq0.trans x1.q) t1 (hw.tk x1) rfl
    | true =>
      obtain ⟨f, rfl⟩ : ∃ g, f = g + 1 := ⟨f - 1, by omega⟩
      rw [hz, if_pos rfl] at t1
      have hn := wd_nx (by omega) hz hq
      have hn1 : q + 2 ≤ skT x (weT x q) := hn.1
      have hw1 := hw.tk x1
      have hg := anPG hG hn.2
      rw [if_neg (show ¬ b01 true = 0 by decide), if_pos rfl, nI_1]
      unfold L_X3_readCondition_4 B_X3_readCondition_4
      rw [if_neg (show ¬ (400 : Int32) ≤ nI (i + 1) from nI_ge (b := 400) (by omega) (by omega))]
      have ha := x_all (Θ := Θ) (ω := ω) (n := n) (l2 := 1) (l3 := nI (i + 1)) (k4 := L_X3_readCondition_4 Θ rcA f) hA hG (h.xtk x1) t1 hw1.1 (by omega) hx
      rcases hm : anP x at' (skT x (weT x q)) with ⟨r, _ | b⟩
      · rw [hm] at ha
        rcases ha with ⟨_, S2, a2, a3, a4⟩ | ⟨_, _, a1, _⟩
        · exact XCo.f a2 ((hq0.trans x1.q).trans a3) a4 rfl
        · cases a1
      · rw [hm] at ha hg
        rcases ha with ⟨a1, _⟩ | ⟨b', S2, a1, a2, a3, a4, a5⟩
        · cases a1
        cases a1
        obtain ⟨g1, g2, g3⟩ := hg
        obtain ⟨g4, g5, g6, _⟩ := g3 b rfl
        have g4 : skT x (weT x q) + b.1.length ≤ r := g4
        have g2 : r ≤ x.1 := g2
        have g6 : skT x (weT x q) < r := g6
        have w12 := hw1.trans a5
        obtain ⟨a6, b6⟩ := x_write (Θ := Θ) (ω := ω) (n := n) (v := 2) w12.1 (by rw [List.length_append]; omega)
        have q3 : XQl S2 (uF (uA S2 201 (upd (zA S2 201) (s0 + (c.1 ++ b.1).length) 2)) 197 2 (nI (s0 + (c.1 ++ b.1).length + 1))) := (XQl.rf S2).nA.nF
        have t3 : TK (uF (uA S2 201 (upd (zA S2 201) (s0 + (c.1 ++ b.1).length) 2)) 197 2 (nI (s0 + (c.1 ++ b.1).length + 1))) x r := TK.nF (TK.nA a4)
        generalize uF (uA S2 201 (upd (zA S2 201) (s0 + (c.1 ++ b.1).length) 2)) 197 2 (nI (s0 + (c.1 ++ b.1).length + 1)) = S3 at *
        have w3 : XWl S0 S3 s0 (disC c b).1 := w12.trans b6
        rw [a2]
        unfold J_X3_readCondition_69
        rw [if_neg (show ¬ (1 : Int32) = 0 by decide), d197, a6, kI_v, if_neg (show ¬ (1 : Int32) = 0 by decide)]
        exact ih r (i + 1) f (disC c b) S3 (by omega) (by omega) (by omega) (((h.xtk x1).xq a3).xq q3) t3 (((hq0.trans x1.q).trans a3).trans q3) w3 (by rw [(con_ln c b).2.2.1]; omega)
theorem x_cond {at' : Nat → Nat × Option CE} {D : Nat} {l1 : Int32} {rcA : Nat → Int32 → OW → Nat → RO} (hA : RAx Θ ω n x at' l1 rcA) (hG : ∀ q, q ≤ x.1 → GO x q D (at' q)) (hx : x.1 ≤ 400) {S : PZ} {q s : Nat} (h : TC S x) (t : TK S x q) (hs : zF S 197 2 = nI s) (hs4 : s + (x.1 - q) ≤ 400) : XCo Θ S ω n x s (cdP x at' q) (F_X3_readCondition Θ rcA (gb Θ + 197) l1 (laz Θ S ω) n) := by
  have hg := anPG hG t.1
  show XCo Θ S ω n x s (cdP x at' q) (B_X3_readCondition_4 Θ rcA (L_X3_readCondition_4 Θ rcA 4999) (gb Θ + 197) l1 0 0 (laz Θ S ω) n)
  unfold B_X3_readCondition_4 cdP
  rw [if_neg (show ¬ (400 : Int32) ≤ 0 by decide)]
  have ha := x_all (Θ := Θ) (ω := ω) (n := n) (l2 := 0) (l3 := 0) (k4 := L_X3_readCondition_4 Θ rcA 4999) hA hG h t hs hs4 hx
  rcases hm : anP x at' q with ⟨r, _ | b⟩
  · rw [hm] at ha
    rcases ha with ⟨_, S2, a2, a3, a4⟩ | ⟨_, _, a1, _⟩
    · exact XCo.f a2 a3 a4 rfl
    · cases a1
  · rw [hm] at ha hg
    rcases ha with ⟨a1, _⟩ | ⟨b', S2, a1, a2, a3, a4, a5⟩
    · cases a1
    cases a1
    obtain ⟨g1, g2, g3⟩ := hg
    obtain ⟨g4, g5, g6, _⟩ := g3 b rfl
    have g4 : q + b.1.length ≤ r := g4
    have g2 : r ≤ x.1 := g2
    rw [a2]
    unfold J_X3_readCondition_69
    rw [if_pos rfl]
    exact x_orT hA hG hx 401 r 0 4999 b S2 (by omega) (by omega) (by omega) (h.xq a3) a4 a3 a5 (by omega)
end XI
