/-! what the reading of a condition gives -/
def okC (c : CE) : Prop := 1 ≤ c.2.2.1 ∧ 1 ≤ c.2.1.length ∧ GX c ∧ GM c
def GO (x : TX) (q D : Nat) (o : Nat × Option CE) : Prop := q ≤ o.1 ∧ o.1 ≤ x.1 ∧ ∀ c, o.2 = some c → q + c.1.length ≤ o.1 ∧ q + c.2.1.length ≤ o.1 ∧ q < o.1 ∧ c.2.2.1 ≤ D ∧ okC c
section GP'
variable {x : TX}
theorem GO.n {q D r : Nat} (h1 : q ≤ r) (h2 : r ≤ x.1) : GO x q D (r, none) := ⟨h1, h2, fun c h => by cases h⟩
theorem sg_q {q c : Nat} (h : isSg x q c = true) : q < x.1 := (of_decide_eq_true h).1
theorem smG (hx : x.1 ≤ 400) : ∀ (k q : Nat), q ≤ x.1 → q ≤ (smP x k q).1 ∧ (smP x k q).1 ≤ x.1 ∧ ∀ L, (smP x k q).2 = some L → L ≠ [] ∧ (∀ p ∈ L, okP p) ∧ q + (2 * L.length - 1) + nfL L ≤ (smP x k q).1 ∧ L.length ≤ 400 := by
  intro k
  induction k with
  | zero => intro q hq; exact ⟨Nat.le_refl _, hq, fun L h => by cases h⟩
  | succ k ih =>
    intro q hq
    unfold smP
    rcases hp : ptR x q with _ | a
    · exact ⟨Nat.le_refl _, hq, fun L h => by cases h⟩
    · obtain ⟨g1, g2, g3⟩ := pt_g hq hp
      have ht := tkE_b hq
      have hs := skT_b ht.2
      show q ≤ (if isSg x (skT x (tkE x q)) 43 = true then bnd (smP x k (skT x (skT x (tkE x q) + 1))) (fun r L => (r, some (a :: L))) else (skT x (tkE x q), some [a])).1 ∧ (if isSg x (skT x (tkE x q)) 43 = true then bnd (smP x k (skT x (skT x (tkE x q) + 1))) (fun r L => (r, some (a :: L))) else (skT x (tkE x q), some [a])).1 ≤ x.1 ∧ ∀ L, (if isSg x (skT x (tkE x q)) 43 = true then bnd (smP x k (skT x (skT x (tkE x q) + 1))) (fun r L => (r, some (a :: L))) else (skT x (tkE x q), some [a])).2 = some L → L ≠ [] ∧ (∀ p ∈ L, okP p) ∧ q + (2 * L.length - 1) + nfL L ≤ (if isSg x (skT x (tkE x q)) 43 = true then bnd (smP x k (skT x (skT x (tkE x q) + 1))) (fun r L => (r, some (a :: L))) else (skT x (tkE x q), some [a])).1 ∧ L.length ≤ 400
      by_cases z : isSg x (skT x (tkE x q)) 43 = true
      · rw [if_pos z]
        have hz := sg_q z
        have hs2 := skT_b (x := x) (p := skT x (tkE x q) + 1) (by omega)
        have hi := ih (skT x (skT x (tkE x q) + 1)) hs2.2
        rcases hm : smP x k (skT x (skT x (tkE x q) + 1)) with ⟨r, _ | L'⟩
        · rw [hm] at hi
          obtain ⟨i1, i2, _⟩ := hi
          exact ⟨Nat.le_trans (by omega) i1, i2, fun L h => by cases h⟩
        · rw [hm] at hi
          obtain ⟨i1, i2, i3⟩ := hi
          obtain ⟨j1, j2, j3, j4⟩ := i3 L' rfl
          have i1 : skT x (skT x (tkE x q) + 1) ≤ r := i1
          have i2 : r ≤ x.1 := i2
          have j3 : skT x (skT x (tkE x q) + 1) + (2 * L'.length - 1) + nfL L' ≤ r := j3
          have hlen : 1 ≤ L'.length := by
            cases L' with
            | nil => exact absurd rfl j1
            | cons _ _ => rw [List.length_cons]; omega
          refine ⟨show q ≤ r by omega, i2, fun L h => ?_⟩
          cases h
          refine ⟨List.cons_ne_nil _ _, fun p hp' => ?_, ?_, ?_⟩
          · rcases List.mem_cons.mp hp' with rfl | u
            · exact g1
            · exact j2 p u
          · show q + (2 * (a :: L').length - 1) + ((if a.1 = true then 1 else 0) + nfL L') ≤ r
            rw [List.length_cons]
            omega
          · rw [List.length_cons]; omega
      · rw [if_neg z]
        refine ⟨show q ≤ skT x (tkE x q) by omega, hs.2, fun L h => ?_⟩
        cases h
        refine ⟨List.cons_ne_nil _ _, fun p hp' => ?_, ?_, by show 1 ≤ 400; omega⟩
        · rcases List.mem_cons.mp hp' with rfl | u
          · exact g1
          · cases u
        · show q + 1 + ((if a.1 = true then 1 else 0) + 0) ≤ skT x (tkE x q)
          omega
theorem suM_len {L : List PT} (h : L ≠ []) : (suM L).length = 2 * L.length - 1 := by
  cases L with
  | nil => exact absurd rfl h
  | cons p L =>
    show (rsM L).length + 1 = _
    rw [rsM_len, List.length_cons]; omega
theorem cmp_g (hx : x.1 ≤ 400) {q r' : Nat} {l : Bool} {L : List PT} {c0 : Nat} (hq : q ≤ x.1) (hL : (smP x 401 q).2 = some L) (hs : isSg x (smP x 401 q).1 c0 = true) {R : List PT} (hR : smP x 401 (skT x ((smP x 401 q).1 + 1)) = (r', some R)) : GO x q 1 (r', some (cmpC l L R)) := by
  obtain ⟨a1, a2, a3⟩ := smG hx 401 q hq
  obtain ⟨b1, b2, b3, b4⟩ := a3 L hL
  have hz := sg_q hs
  have hs2 := skT_b (x := x) (p := (smP x 401 q).1 + 1) (by omega)
  obtain ⟨c1, c2, c3⟩ := smG hx 401 (skT x ((smP x 401 q).1 + 1)) hs2.2
  rw [hR] at c1 c2 c3
  obtain ⟨d1, d2, d3, d4⟩ := c3 R rfl
  have c1 : skT x ((smP x 401 q).1 + 1) ≤ r' := c1
  have d3 : skT x ((smP x 401 q).1 + 1) + (2 * R.length - 1) + nfL R ≤ r' := d3
  have hL1 : 1 ≤ L.length := by
    cases L with
    | nil => exact absurd rfl b1
    | cons _ _ => rw [List.length_cons]; omega
  have hR1 : 1 ≤ R.length := by
    cases R with
    | nil => exact absurd rfl d1
    | cons _ _ => rw [List.length_cons]; omega
  have eM : (cmpC l L R).2.1.length = (suM L).length + (suM R).length + 1 := by
    show (suM L ++ suM R ++ [(if l = true then (10 : Int32) else 11, (0 : Int32))]).length = _
    rw [List.length_append, List.length_append]; rfl
  have eX : (cmpC l L R).1.length = 3 + (nfL L + nfL R) := by
    show ((fcX false L ++ fcX true R).length + 1 + 1 + 1) = _
    rw [List.length_append, fcX_len, fcX_len]; omega
  rw [suM_len b1, suM_len d1] at eM
  refine ⟨show q ≤ r' by omega, c2, fun c h => ?_⟩
  cases h
  refine ⟨?_, ?_, show q < r' by omega, Nat.le_refl 1, Nat.le_refl 1, by rw [eM]; omega, cmp_X b2 d2 b4 d4, cmp_M b2 d2 b1 d1 b4 d4⟩
  · show q + (cmpC l L R).1.length ≤ r'
    rw [eX]; omega
  · show q + (cmpC l L R).2.1.length ≤ r'
    rw [eM]; omega
theorem cmG (hx : x.1 ≤ 400) {q : Nat} (hq : q ≤ x.1) : GO x q 1 (cmP x q) := by
  obtain ⟨a1, a2, a3⟩ := smG hx 401 q hq
  unfold cmP
  rcases hm : smP x 401 q with ⟨r, _ | L⟩
  · rw [hm] at a1 a2
    exact GO.n a1 a2
  · have e1 : (smP x 401 q).1 = r := by rw [hm]
    have e2 : (smP x 401 q).2 = some L := by rw [hm]
    rw [e1] at a1 a2
    show GO x q 1 (if isSg x r 60 = true then bnd (smP x 401 (skT x (r + 1))) (fun r' R => (r', some (cmpC true L R))) else if isSg x r 62 = true then bnd (smP x 401 (skT x (r + 1))) (fun r' R => (r', some (cmpC false L R))) else (r, none))
    have fin : ∀ (l : Bool) (c0 : Nat), isSg x r c0 = true → GO x q 1 (bnd (smP x 401 (skT x (r + 1))) (fun r' R => (r', some (cmpC l L R)))) := by
      intro l c0 hs
      have hz := sg_q hs
      have hs2 := skT_b (x := x) (p := r + 1) (by omega)
      obtain ⟨c1, c2, c3⟩ := smG hx 401 (skT x (r + 1)) hs2.2
      rcases hm2 : smP x 401 (skT x (r + 1)) with ⟨r', _ | R⟩
      · rw [hm2] at c1 c2
        exact GO.n (Nat.le_trans (by omega) c1) c2
      · exact cmp_g (c0 := c0) hx hq e2 (by rw [e1]; exact hs) (by rw [e1]; exact hm2)
    by_cases z : isSg x r 60 = true
    · rw [if_pos z]; exact fin true 60 z
    · rw [if_neg z]
      by_cases y : isSg x r 62 = true
      · rw [if_pos y]; exact fin false 62 y
      · rw [if_neg y]; exact GO.n a1 a2
theorem GO.mono {q D D' : Nat} {o : Nat × Option CE} (h : GO x q D o) (hd : D ≤ D') : GO x q D' o := ⟨h.1, h.2.1, fun c e => by
  obtain ⟨a, b, c', d, e'⟩ := h.2.2 c e
  exact ⟨a, b, c', by omega, e'⟩⟩
theorem con_ok {a b : CE} (ha : okC a) (hb : okC b) : okC (conC a b) := ⟨by show 1 ≤ max _ _; have := ha.1; omega, by show 1 ≤ (a.2.1 ++ b.2.1 ++ [((13 : Int32), (0 : Int32))]).length; rw [List.length_append]; show 1 ≤ _ + 1; omega, con_X hb.1 ha.2.2.1 hb.2.2.1, con_M ha.2.2.2 hb.2.2.2 ha.2.1 hb.2.1⟩
theorem dis_ok {a b : CE} (ha : okC a) (hb : okC b) : okC (disC a b) := ⟨by show 1 ≤ max _ _; have := ha.1; omega, by show 1 ≤ (a.2.1 ++ b.2.1 ++ [((14 : Int32), (0 : Int32))]).length; rw [List.length_append]; show 1 ≤ _ + 1; omega, dis_X hb.1 ha.2.2.1 hb.2.2.1, dis_M ha.2.2.2 hb.2.2.2 ha.2.1 hb.2.1⟩
theorem neg_ok {a : CE} (ha : okC a) : okC (negC a) := ⟨ha.1, by show 1 ≤ (a.2.1 ++ [((12 : Int32), (0 : Int32))]).length; rw [List.length_append]; show 1 ≤ _ + 1; omega, neg_X ha.2.2.1, neg_M ha.2.2.2 ha.2.1⟩
theorem tag_ok {j : Nat} (hj : j = 6 ∨ j = 7) : okC (tagC j) := ⟨Nat.le_refl 1, Nat.le_refl 1, tag_X hj, tag_M hj⟩
theorem con_ln (a b : CE) : (conC a b).1.length = a.1.length + b.1.length + 1 ∧ (conC a b).2.1.length = a.2.1.length + b.2.1.length + 1 ∧ (disC a b).1.length = a.1.length + b.1.length + 1 ∧ (disC a b).2.1.length = a.2.1.length + b.2.1.length + 1 := by
  refine ⟨?_, ?_, ?_, ?_⟩
  · show (a.1 ++ b.1 ++ [(1 : Int32)]).length = _
    rw [List.length_append, List.length_append]; rfl
  · show (a.2.1 ++ b.2.1 ++ [((13 : Int32), (0 : Int32))]).length = _
    rw [List.length_append, List.length_append]; rfl
  · show (a.1 ++ b.1 ++ [(2 : Int32)]).length = _
    rw [List.length_append, List.length_append]; rfl
  · show (a.2.1 ++ b.2.1 ++ [((14 : Int32), (0 : Int32))]).length = _
    rw [List.length_append, List.length_append]; rfl
theorem neg_ln (a : CE) : (negC a).1.length = a.1.length + 1 ∧ (negC a).2.1.length = a.2.1.length + 1 := ⟨List.length_append, List.length_append⟩
theorem wd_nx {q s : Nat} (hs : s < 21) (h : isWd x q s = true) (hq : q ≤ x.1) : q + wsE s ≤ skT x (weT x q) ∧ skT x (weT x q) ≤ x.1 := by
  have h1 := wd_we hs h
  have h2 := weT_b hq
  have h3 := skT_b h2.2
  omega
theorem anG {at' : Nat → Nat × Option CE} {D q0 : Nat} (hat : ∀ q, q ≤ x.1 → GO x q D (at' q)) : ∀ (k : Nat) (c : CE) (q : Nat), q ≤ x.1 → q0 < q → q0 + c.1.length ≤ q → q0 + c.2.1.length ≤ q → c.2.2.1 ≤ D + 1 → okC c → GO x q0 (D + 1) (anL x at' k c q) := by
  intro k
  induction k with
  | zero =>
    intro c q hq h1 h2 h3 h4 h5
    exact ⟨by show q0 ≤ q; omega, hq, fun c' e => by cases e; exact ⟨h2, h3, h1, h4, h5⟩⟩
  | succ k ih =>
    intro c q hq h1 h2 h3 h4 h5
    unfold anL
    by_cases z : isWd x q 15 = true
    · rw [if_pos z]
      have hn := wd_nx (by omega) z hq
      have hn1 : q + 3 ≤ skT x (weT x q) := hn.1
      have hg := hat _ hn.2
      rcases hm : at' (skT x (weT x q)) with ⟨r, _ | b⟩
      · rw [hm] at hg
        exact GO.n (Nat.le_trans (by omega) hg.1) hg.2.1
      · rw [hm] at hg
        obtain ⟨g1, g2, g3⟩ := hg
        obtain ⟨a1, a2, a3, a4, a5⟩ := g3 b rfl
        have a1 : skT x (weT x q) + b.1.length ≤ r := a1
        have a2 : skT x (weT x q) + b.2.1.length ≤ r := a2
        have g1 : skT x (weT x q) ≤ r := g1
        have cl := con_ln c b
        exact ih (conC c b) r g2 (by omega) (by omega) (by omega) (by show max _ _ ≤ _; omega) (con_ok h5 a5)
    · rw [if_neg z]
      exact ⟨by show q0 ≤ q; omega, hq, fun c' e => by cases e; exact ⟨h2, h3, h1, h4, h5⟩⟩
theorem anPG {at' : Nat → Nat × Option CE} {D q : Nat} (hat : ∀ q, q ≤ x.1 → GO x q D (at' q)) (hq : q ≤ x.1) : GO x q (D + 1) (anP x at' q) := by
  unfold anP
  have hg := hat q hq
  rcases hm : at' q with ⟨r, _ | c⟩
  · rw [hm] at hg
    exact GO.n hg.1 hg.2.1
  · rw [hm] at hg
    obtain ⟨g1, g2, g3⟩ := hg
    obtain ⟨a1, a2, a3, a4, a5⟩ := g3 c rfl
    exact anG hat 401 c r g2 a3 a1 a2 (by omega) a5
theorem cdG {at' : Nat → Nat × Option CE} {D q0 : Nat} (hat : ∀ q, q ≤ x.1 → GO x q D (at' q)) : ∀ (k : Nat) (c : CE) (q : Nat), q ≤ x.1 → q0 < q → q0 + c.1.length ≤ q → q0 + c.2.1.length ≤ q → c.2.2.1 ≤ D + 2 → okC c → GO x q0 (D + 2) (cdL x at' k c q) := by
  intro k
  induction k with
  | zero =>
    intro c q hq h1 h2 h3 h4 h5
    exact ⟨by show q0 ≤ q; omega, hq, fun c' e => by cases e; exact ⟨h2, h3, h1, h4, h5⟩⟩
  | succ k ih =>
    intro c q hq h1 h2 h3 h4 h5
    unfold cdL
    by_cases z : isWd x q 16 = true
    · rw [if_pos z]
      have hn := wd_nx (by omega) z hq
      have hn1 : q + 2 ≤ skT x (weT x q) := hn.1
      have hg := anPG hat hn.2
      rcases hm : anP x at' (skT x (weT x q)) with ⟨r, _ | b⟩
      · rw [hm] at hg
        exact GO.n (Nat.le_trans (by omega) hg.1) hg.2.1
      · rw [hm] at hg
        obtain ⟨g1, g2, g3⟩ := hg
        obtain ⟨a1, a2, a3, a4, a5⟩ := g3 b rfl
        have a1 : skT x (weT x q) + b.1.length ≤ r := a1
        have a2 : skT x (weT x q) + b.2.1.length ≤ r := a2
        have g1 : skT x (weT x q) ≤ r := g1
        have cl := con_ln c b
        exact ih (disC c b) r g2 (by omega) (by omega) (by omega) (by show max _ _ ≤ _; omega) (dis_ok h5 a5)
    · rw [if_neg z]
      exact ⟨by show q0 ≤ q; omega, hq, fun c' e => by cases e; exact ⟨h2, h3, h1, h4, h5⟩⟩
theorem cdPG {at' : Nat → Nat × Option CE} {D q : Nat} (hat : ∀ q, q ≤ x.1 → GO x q D (at' q)) (hq : q ≤ x.1) : GO x q (D + 2) (cdP x at' q) := by
  unfold cdP
  have hg := anPG hat hq
  rcases hm : anP x at' q with ⟨r, _ | c⟩
  · rw [hm] at hg
    exact GO.n hg.1 hg.2.1
  · rw [hm] at hg
    obtain ⟨g1, g2, g3⟩ := hg
    obtain ⟨a1, a2, a3, a4, a5⟩ := g3 c rfl
    exact cdG hat 401 c r g2 a3 a1 a2 (by omega) a5
theorem atG (hx : x.1 ≤ 400) : ∀ (d q : Nat), q ≤ x.1 → GO x q (2 * d) (atP x d q) := by
  intro d
  induction d with
  | zero => intro q hq; exact GO.n (Nat.le_refl _) hq
  | succ d ih =>
    intro q hq
    unfold atP
    by_cases z : isWd x q 14 = true
    · rw [if_pos z]
      by_cases y : d = 0
      · rw [if_pos y]; exact GO.n (Nat.le_refl _) hq
      · rw [if_neg y]
        have hn := wd_nx (by omega) z hq
        have hn1 : q + 3 ≤ skT x (weT x q) := hn.1
        have hg := ih _ hn.2
        rcases hm : atP x d (skT x (weT x q)) with ⟨r, _ | c⟩
        · rw [hm] at hg
          exact GO.n (Nat.le_trans (by omega) hg.1) hg.2.1
        · rw [hm] at hg
          obtain ⟨g1, g2, g3⟩ := hg
          obtain ⟨a1, a2, a3, a4, a5⟩ := g3 c rfl
          have a1 : skT x (weT x q) + c.1.length ≤ r := a1
          have a2 : skT x (weT x q) + c.2.1.length ≤ r := a2
          have g1 : skT x (weT x q) ≤ r := g1
          have nl := neg_ln c
          refine ⟨show q ≤ r by omega, g2, fun c' e => ?_⟩
          cases e
          exact ⟨show q + (negC c).1.length ≤ r by omega, show q + (negC c).2.1.length ≤ r by omega, show q < r by omega, by show c.2.2.1 ≤ _; omega, neg_ok a5⟩
    · rw [if_neg z]
      by_cases y : isSg x q 40 = true
      · rw [if_pos y]
        have hz := sg_q y
        by_cases u : d = 0
        · rw [if_pos u]; exact GO.n (Nat.le_refl _) hq
        · rw [if_neg u]
          have hs := skT_b (x := x) (p := q + 1) (by omega)
          have hg := cdPG ih hs.2
          rcases hm : cdP x (atP x d) (skT x (q + 1)) with ⟨r, _ | c⟩
          · rw [hm] at hg
            exact GO.n (Nat.le_trans (by omega) hg.1) hg.2.1
          · rw [hm] at hg
            obtain ⟨g1, g2, g3⟩ := hg
            obtain ⟨a1, a2, a3, a4, a5⟩ := g3 c rfl
            have a1 : skT x (q + 1) + c.1.length ≤ r := a1
            have a2 : skT x (q + 1) + c.2.1.length ≤ r := a2
            have g1 : skT x (q + 1) ≤ r := g1
            show GO x q (2 * (d + 1)) (if isSg x r 41 = true then (skT x (r + 1), some c) else (r, none))
            by_cases v : isSg x r 41 = true
            · rw [if_pos v]
              have hv := sg_q v
              have hs2 := skT_b (x := x) (p := r + 1) (by omega)
              refine ⟨show q ≤ skT x (r + 1) by omega, hs2.2, fun c' e => ?_⟩
              cases e
              exact ⟨show q + c.1.length ≤ skT x (r + 1) by omega, show q + c.2.1.length ≤ skT x (r + 1) by omega, show q < skT x (r + 1) by omega, by omega, a5⟩
            · rw [if_neg v]; exact GO.n (by omega) g2
      · rw [if_neg y]
        have tg : ∀ s j, (s < 21 ∧ 2 ≤ wsE s) → (j = 6 ∨ j = 7) → isWd x q s = true → GO x q (2 * (d + 1)) (skT x (weT x q), some (tagC j)) := by
          intro s j hs hj hw
          have hn := wd_nx hs.1 hw hq
          refine ⟨show q ≤ skT x (weT x q) by omega, hn.2, fun c' e => ?_⟩
          cases e
          exact ⟨show q + 2 ≤ skT x (weT x q) by omega, show q + 1 ≤ skT x (weT x q) by omega, show q < skT x (weT x q) by omega, by show 1 ≤ _; omega, tag_ok hj⟩
        by_cases u : isWd x q 5 = true
        · rw [if_pos u]; exact tg 5 6 (by decide) (by omega) u
        · rw [if_neg u]
          by_cases v : isWd x q 13 = true
          · rw [if_pos v]; exact tg 13 7 (by decide) (by omega) v
          · rw [if_neg v]; exact (cmG hx hq).mono (by omega)
end GP'
