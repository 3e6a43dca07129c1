/-! a text of the law: what it says -/
/-- one part of a sum: a fact, a number -/
abbrev PT : Type := Bool × Nat
/-- a condition: its code on both sides, how deep it goes, what it says -/
abbrev CE : Type := List Int32 × List (Int32 × Int32) × Nat × ((Nat → Int32) → Bool)
def nfL : List PT → Nat
  | [] => 0
  | a :: L => (if a.1 = true then 1 else 0) + nfL L
def fcX (r : Bool) : List PT → List Int32
  | [] => []
  | a :: L => if a.1 = true then (if r = true then nI a.2 ^^^ -1 else nI a.2) :: fcX r L else fcX r L
def ctX (r : Bool) : List PT → Int32
  | [] => 0
  | a :: L => (if a.1 = true then 0 else if r = true then - nI a.2 else nI a.2) + ctX r L
def pcM (a : PT) : Int32 × Int32 := if a.1 = true then (nI a.2, 0) else (8, nI a.2)
def rsM : List PT → List (Int32 × Int32)
  | [] => []
  | a :: L => pcM a :: (9, 0) :: rsM L
def suM : List PT → List (Int32 × Int32)
  | [] => []
  | a :: L => pcM a :: rsM L
def ptV (f : Nat → Int32) (a : PT) : Nat := if a.1 = true then (f a.2).toNatClampNeg else a.2
def suV (f : Nat → Int32) : List PT → Nat
  | [] => 0
  | a :: L => ptV f a + suV f L
def tagC (j : Nat) : CE := ([3, nI j], [(nI j, 0)], 1, fun f => decide (f j = 1))
def cmpC (l : Bool) (a b : List PT) : CE := ((if l = true then 4 else 5) :: (ctX false a + ctX true b) :: nI (nfL a + nfL b) :: (fcX false a ++ fcX true b), suM a ++ suM b ++ [(if l = true then 10 else 11, 0)], 1, fun f => if l = true then decide (suV f a < suV f b) else decide (suV f b < suV f a))
def negC (a : CE) : CE := (a.1 ++ [0], a.2.1 ++ [(12, 0)], a.2.2.1, fun f => !(a.2.2.2 f))
def conC (a b : CE) : CE := (a.1 ++ b.1 ++ [1], a.2.1 ++ b.2.1 ++ [(13, 0)], max a.2.2.1 (b.2.2.1 + 1), fun f => a.2.2.2 f && b.2.2.2 f)
def disC (a b : CE) : CE := (a.1 ++ b.1 ++ [2], a.2.1 ++ b.2.1 ++ [(14, 0)], max a.2.2.1 (b.2.2.1 + 1), fun f => a.2.2.2 f || b.2.2.2 f)
def bnd {α β : Type} (o : Nat × Option α) (f : Nat → α → Nat × Option β) : Nat × Option β := match o with
  | (r, none) => (r, none)
  | (r, some a) => f r a
def fcR (x : TX) (q : Nat) : Option Nat := if isWd x q 6 = true then some 0 else if isWd x q 11 = true then some 1 else if isWd x q 0 = true then some 2 else if isWd x q 2 = true then some 3 else if isWd x q 12 = true then some 4 else if isWd x q 3 = true then some 5 else none
def ptR (x : TX) (q : Nat) : Option PT := if nmR x q 0 999 = -1 then (match fcR x q with | none => none | some j => some (true, j)) else some (false, (nmR x q 0 999).toNatClampNeg)
def smP (x : TX) : Nat → Nat → Nat × Option (List PT)
  | 0, q => (q, none)
  | k + 1, q => bnd (q, ptR x q) (fun _ a => if isSg x (skT x (tkE x q)) 43 = true then bnd (smP x k (skT x (skT x (tkE x q) + 1))) (fun r L => (r, some (a :: L))) else (skT x (tkE x q), some [a]))
def cmP (x : TX) (q : Nat) : Nat × Option CE := bnd (smP x 401 q) (fun r L => if isSg x r 60 = true then bnd (smP x 401 (skT x (r + 1))) (fun r' R => (r', some (cmpC true L R))) else if isSg x r 62 = true then bnd (smP x 401 (skT x (r + 1))) (fun r' R => (r', some (cmpC false L R))) else (r, none))
def anL (x : TX) (at' : Nat → Nat × Option CE) : Nat → CE → Nat → Nat × Option CE
  | 0, c, q => (q, some c)
  | k + 1, c, q => if isWd x q 15 = true then bnd (at' (skT x (weT x q))) (fun r b => anL x at' k (conC c b) r) else (q, some c)
def anP (x : TX) (at' : Nat → Nat × Option CE) (q : Nat) : Nat × Option CE := bnd (at' q) (fun r c => anL x at' 401 c r)
def cdL (x : TX) (at' : Nat → Nat × Option CE) : Nat → CE → Nat → Nat × Option CE
  | 0, c, q => (q, some c)
  | k + 1, c, q => if isWd x q 16 = true then bnd (anP x at' (skT x (weT x q))) (fun r b => cdL x at' k (disC c b) r) else (q, some c)
def cdP (x : TX) (at' : Nat → Nat × Option CE) (q : Nat) : Nat × Option CE := bnd (anP x at' q) (fun r c => cdL x at' 401 c r)
def atP (x : TX) : Nat → Nat → Nat × Option CE
  | 0, q => (q, none)
  | d + 1, q => if isWd x q 14 = true then (if d = 0 then (q, none) else bnd (atP x d (skT x (weT x q))) (fun r c => (r, some (negC c)))) else if isSg x q 40 = true then (if d = 0 then (q, none) else bnd (cdP x (atP x d) (skT x (q + 1))) (fun r c => if isSg x r 41 = true then (skT x (r + 1), some c) else (r, none))) else if isWd x q 5 = true then (skT x (weT x q), some (tagC 6)) else if isWd x q 13 = true then (skT x (weT x q), some (tagC 7)) else cmP x q
def okP (a : PT) : Prop := (a.1 = true → a.2 < 6) ∧ a.2 ≤ 999
theorem fcX_len (r : Bool) : ∀ L : List PT, (fcX r L).length = nfL L := by
  intro L
  induction L with
  | nil => rfl
  | cons a L ih =>
    unfold fcX nfL
    by_cases z : a.1 = true
    · rw [if_pos z, if_pos z, List.length_cons, ih, Nat.add_comm]
    · rw [if_neg z, if_neg z, ih, Nat.zero_add]
theorem rsM_len : ∀ L : List PT, (rsM L).length = 2 * L.length := by
  intro L
  induction L with
  | nil => rfl
  | cons a L ih =>
    unfold rsM
    rw [List.length_cons, List.length_cons, ih, List.length_cons]; omega
section PP
variable {x : TX}
theorem wd_we {q s : Nat} (hs : s < 21) (h : isWd x q s = true) : weT x q = q + wsE s ∧ q < x.1 := by
  have hz := of_decide_eq_true h
  have hE := wsE_r s hs
  have hlt : ltP x q = true := by
    apply Classical.byContradiction
    intro u
    rw [weT_n (Bool.eq_false_iff.mpr u)] at hz
    omega
  exact ⟨by omega, (of_decide_eq_true hlt).1⟩
theorem wd_tkE' {q s : Nat} (hs : s < 21) (h : isWd x q s = true) : tkE x q = q + wsE s ∧ q < x.1 := by
  have h1 := wd_we hs h
  rw [wd_tkE hs h]
  exact h1
theorem fc_g {q j : Nat} (h : fcR x q = some j) : j < 6 ∧ q + 2 ≤ tkE x q ∧ q < x.1 := by
  unfold fcR at h
  by_cases h6 : isWd x q 6 = true
  · rw [if_pos h6] at h
    cases h
    have := wd_tkE' (by omega) h6
    exact ⟨by omega, by rw [this.1]; show q + 2 ≤ q + 4; omega, this.2⟩
  rw [if_neg h6] at h
  by_cases h11 : isWd x q 11 = true
  · rw [if_pos h11] at h
    cases h
    have := wd_tkE' (by omega) h11
    exact ⟨by omega, by rw [this.1]; show q + 2 ≤ q + 4; omega, this.2⟩
  rw [if_neg h11] at h
  by_cases h0 : isWd x q 0 = true
  · rw [if_pos h0] at h
    cases h
    have := wd_tkE' (by omega) h0
    exact ⟨by omega, by rw [this.1]; show q + 2 ≤ q + 4; omega, this.2⟩
  rw [if_neg h0] at h
  by_cases h2 : isWd x q 2 = true
  · rw [if_pos h2] at h
    cases h
    have := wd_tkE' (by omega) h2
    exact ⟨by omega, by rw [this.1]; show q + 2 ≤ q + 4; omega, this.2⟩
  rw [if_neg h2] at h
  by_cases h12 : isWd x q 12 = true
  · rw [if_pos h12] at h
    cases h
    have := wd_tkE' (by omega) h12
    exact ⟨by omega, by rw [this.1]; show q + 2 ≤ q + 5; omega, this.2⟩
  rw [if_neg h12] at h
  by_cases h3 : isWd x q 3 = true
  · rw [if_pos h3] at h
    cases h
    have := wd_tkE' (by omega) h3
    exact ⟨by omega, by rw [this.1]; show q + 2 ≤ q + 5; omega, this.2⟩
  rw [if_neg h3] at h
  cases h
theorem pt_g {q : Nat} {a : PT} (hq : q ≤ x.1) (h : ptR x q = some a) : okP a ∧ q + 1 + (if a.1 = true then 1 else 0) ≤ tkE x q ∧ q < x.1 := by
  unfold ptR at h
  by_cases z : nmR x q 0 999 = -1
  · rw [if_pos z] at h
    cases hf : fcR x q with
    | none => rw [hf] at h; cases h
    | some j =>
      rw [hf] at h
      cases h
      have g := fc_g hf
      exact ⟨⟨fun _ => g.1, show j ≤ 999 by omega⟩, by rw [if_pos rfl]; omega, g.2.2⟩
  · rw [if_neg z] at h
    cases h
    obtain ⟨v, v1, v2, _⟩ := nm_rg hq z
    have g := nm_ne hq z
    have hz := of_decide_eq_true g.2
    refine ⟨⟨fun u => absurd u (show ¬ false = true by decide), ?_⟩, ?_, hz.1⟩
    · show (nmR x q 0 999).toNatClampNeg ≤ 999
      rw [v2, nI_clamp (by omega)]; exact v1
    · rw [if_neg (show ¬ false = true by decide), g.1]
      have hd : deT x q = deT x (q + 1) := deT_s g.2
      have := (deT_b (x := x) (p := q + 1) (by omega)).1
      omega
end PP
