/-! the court now and the world change; acts are remembered -/
def knF (k j : Nat) : Bool := (k == 0 && (j == 3 || j == 14)) || (k == 1 && j == 0) || (26 ≤ k && k < 196) || (k == 218 && (j == 6 || j == 7 || j == 9 || j == 14))
def knA (k : Nat) : Bool := k == 2 || (26 ≤ k && k < 196) || k == 220 || k == 223 || k == 224
abbrev Kn : PZ → PZ → Prop := KK knF knA
theorem s1M_congr {w w' f : Nat → Int32} (h : ∀ k, 305 ≤ k → w' k = w k) (q : QM) : s1M w' f q = s1M w f q := by
  unfold s1M
  rw [h (2 * q.1 + 354) (by omega), h (2 * q.1 + 355) (by omega)]
theorem rnM_congr {w w' f : Nat → Int32} (h : ∀ k, 305 ≤ k → w' k = w k) : ∀ (k : Nat) (q : QM), rnM w' f k q = rnM w f k q := by
  intro k
  induction k with
  | zero => intro q; rfl
  | succ k ih =>
    intro q
    unfold rnM
    rw [s1M_congr h, ih]
theorem EvM.congr {w w' : Nat → Int32} (h : ∀ k, 305 ≤ k → w' k = w k) {i e : Nat} {hh : (Nat → Int32) → Bool} (q : EvM w i e hh) : EvM w' i e hh := by
  obtain ⟨h1, h2, h3⟩ := q
  refine ⟨h1, h2, fun f hf v => ?_⟩
  obtain ⟨v', t, ⟨a1, a2⟩, a3⟩ := h3 f hf v
  refine ⟨v', t, ⟨by rw [rnM_congr h]; exact a1, fun j hj => ?_⟩, a3⟩
  have b := a2 j hj
  unfold o1M at b ⊢
  rw [rnM_congr h, h _ (by omega)]
  exact b
theorem LawM.congr {w w' : Nat → Int32} (h : ∀ k, 305 ≤ k ∨ k = 3 → w' k = w k) {lw : LW} (q : LawM w lw) : LawM w' lw := by
  obtain ⟨h1, h2, h3, h4, h5⟩ := q
  refine ⟨h1, by rw [h 3 (Or.inr rfl)]; exact h2, by rw [h 3 (Or.inr rfl)]; exact h3, by rw [h 3 (Or.inr rfl), h 305 (Or.inl (by omega))]; exact h4, fun l hl => ?_⟩
  obtain ⟨a1, a2, a3, a4, i, e, a5, a6, a7⟩ := h5 l hl
  refine ⟨by rw [h _ (Or.inl (by omega))]; exact a1, by rw [h _ (Or.inl (by omega))]; exact a2, a3, a4, i, e, by rw [h _ (Or.inl (by omega))]; exact a5, by rw [h _ (Or.inl (by omega))]; exact a6, a7.congr (fun k hk => h k (Or.inl hk))⟩
theorem LawR.congr {Θ : GP} {ω : OW} {la : Nat} {w w' : Nat → Int32} (h : ∀ k, 305 ≤ k ∨ k = 3 → w' k = w k) {lw : LW} (q : LawR Θ ω la w lw) : LawR Θ ω la w' lw := by
  refine ⟨?_, q.2.congr h⟩
  rw [h 3 (Or.inr rfl)]
  exact q.1
theorem Core.now {Θ : GP} {S S' : PZ} {ω : OW} (h : Core Θ S ω) (q : Kn S S') (hw : ∀ k, 305 ≤ k ∨ k = 3 → zA S' 219 k = zA S 219 k) (w1 : WB (zA S' 219)) (w2 : CR S' 14 (zA S' 219)) : Core Θ S' ω := by
  obtain ⟨⟨_, _, lw, a3⟩, ⟨len, b1, b2, b3⟩, c1, d1, ⟨e1, e2, e3⟩, A, fr, f1, f2, f3, f4, f5, f6⟩ := h
  have x2 : zA S' 220 = zA S 220 := q.2.1 220 rfl
  have x3 : zA S' 223 = zA S 223 := q.2.1 223 rfl
  have hp : ∀ i, pastW S' i = pastW S i := fun i => by
    funext k
    unfold pastW
    rw [x3]
    split
    · rfl
    · rw [hw k (Or.inl (by omega))]
  have cr : ∀ {c : Nat} {w : Nat → Int32}, 26 ≤ c → c + 12 ≤ 196 → CR S c w → CR S' c w := fun h1 h2 z => z.congr (fun k j a b => q.1 k j (by simp [knF]; omega)) (fun k a b => q.2.1 k (by simp [knA]; omega))
  refine ⟨⟨w1, w2, lw, by rw [q.2.2 14 17 (by decide) (by decide)]; exact a3.congr hw⟩, ⟨len, b1, by rw [q.1 1 0 rfl]; exact b2, by rw [q.1 218 9 rfl]; exact b3⟩, by rw [q.2.1 224 rfl, q.2.1 2 rfl]; exact c1, by rw [q.1 0 14 rfl, q.1 218 14 rfl]; exact d1, ⟨by rw [q.1 0 3 rfl, q.1 218 6 rfl]; exact e1, by rw [q.1 218 6 rfl]; exact e2, ?_⟩, A, fr, f1, f2, by rw [q.1 50 0 rfl]; exact f3, by rw [q.1 50 1 rfl]; exact f4, by rw [q.1 218 7 rfl]; exact f5, ?_⟩
  · rw [q.1 218 6 rfl, x2, q.2.2 38 17 (by decide) (by decide)]
    intro h
    obtain ⟨g1, g2, g3⟩ := e3 h
    exact ⟨g1, cr (by decide) (by decide) g2, g3⟩
  · intro i hi
    obtain ⟨g1, g2, g3, g4⟩ := f6 i hi
    have hm : (fr + 12 - A + i) % 12 < 12 := Nat.mod_lt _ (by decide)
    rw [hp i, hw 3 (Or.inr rfl), q.2.2 _ 17 (by omega) (by omega), q.2.2 14 17 (by decide) (by decide)]
    exact ⟨g1, cr (by omega) (by omega) g2, g3, g4⟩
theorem CR.bec {S S' : PZ} {c d : Nat} {w : Nat → Int32} (h : CR S d w) (hw : WB w) (b : Bec S S' c d) : CR S' c w := by
  obtain ⟨b1, b2, _, b4, b5, b6, b7, _⟩ := b
  obtain ⟨h1, h2, h3, h4, h5, fr, h6, h7, h8⟩ := h
  have hP : cP w ≤ 8 := by
    obtain ⟨k, k1, k2⟩ := hw.1
    unfold cP; rw [k2, nI_clamp (by omega)]; exact k1
  have hO : cO' w ≤ 6 := by
    obtain ⟨k, k1, k2⟩ := hw.2.1
    unfold cO'; rw [k2, nI_clamp (by omega)]; exact k1
  refine ⟨?_, ?_, ?_, ?_, ?_⟩
  · rw [b1 0 (by decide), b1 1 (by decide), b1 2 (by decide), b1 3 (by decide), b1 4 (by decide), b1 5 (by decide), b1 6 (by decide)]
    exact h1
  · intro p hp
    rw [b4 1 p (by decide) (by decide) (by omega), b4 2 p (by decide) (by decide) (by omega), b4 3 p (by decide) (by decide) (by omega), b4 4 p (by decide) (by decide) (by omega)]
    exact h2 p hp
  · intro s hs
    rw [b5 s hs]
    exact h3 s hs
  · intro p hp
    rw [b6 6 p (by decide) (by decide) (by omega), b6 7 p (by decide) (by decide) (by omega), b6 8 p (by decide) (by decide) (by omega), b6 9 p (by decide) (by decide) (by omega)]
    exact h4 p hp
  · refine ⟨by rw [b2 0 (by decide)]; exact h5, fr, h6, by rw [b2 1 (by decide)]; exact h7, fun ago ha j hj => ?_⟩
    have hm : (fr + 59 - ago) % 60 < 60 := Nat.mod_lt _ (by decide)
    rw [b7 _ (by omega)]
    exact h8 ago ha j hj
theorem uA_uA (S : PZ) (k : Nat) (f g : Nat → Int32) : uA (uA S k f) k g = uA S k g := by
  unfold uA
  congr 2
  funext a
  split
  · rfl
  · rename_i h; exact if_neg h
theorem uF_self (S : PZ) (k j : Nat) : uF S k j (zF S k j) = S := by
  unfold uF zF
  refine Prod.ext ?_ rfl
  funext a b
  show (if a = k ∧ b = j then S.1 k j else S.1 a b) = S.1 a b
  split
  · rename_i h; rw [h.1, h.2]
  · rfl
theorem uA_self (S : PZ) (k : Nat) : uA S k (zA S k) = S := by
  unfold uA zA
  refine Prod.ext rfl (Prod.ext ?_ rfl)
  funext a
  show (if a = k then S.2.1 k else S.2.1 a) = S.2.1 a
  split
  · rename_i h; rw [h]
  · rfl
/-- the reference's acts with one more -/
def accN (acts w : Nat → Int32) (A : Nat) : Nat → Int32 := fun k => if A = 12 then (if k < 3355 then acts (k + 305) else if k < 3660 then w (k - 3355) else acts k) else (if 305 * A ≤ k ∧ k < 305 * A + 305 then w (k - 305 * A) else acts k)
def nxA (A : Nat) : Nat := if A = 12 then 12 else A + 1
def rmM (S : PZ) (A : Nat) : PZ := uA (uF S 218 7 (nI (nxA A))) 223 (accN (zA S 223) (zA S 219) A)
section RM
variable {Θ : GP} {S : PZ} {ω : OW} {n : Nat}
theorem m_rem_55 {B : Nat} (hB : zF S 218 7 = nI B) (h1 : 1 ≤ B) (h12 : B ≤ 12) : ∀ (k p f : Nat) (g : Nat → Int32), p + k = 305 → k < f → L_X11_remembers_55 Θ f (gb Θ + 218) (nI p) (laz Θ (uA S 223 g) ω) n = some (.inl (none, laz Θ (uA S 223 (fun j => if 305 * (B - 1) + p ≤ j ∧ j < 305 * B then zA S 219 (j - 305 * (B - 1)) else g j)) ω, n)) := by
  intro k
  induction k with
  | zero =>
    intro p f g h2 h3
    obtain ⟨f, rfl⟩ : ∃ g, f = g + 1 := ⟨f - 1, by omega⟩
    unfold L_X11_remembers_55 B_X11_remembers_55
    rw [if_pos (show (305 : Int32) ≤ nI p from nI_le (a := 305) (by omega) (by omega))]
    have e : (fun j => if 305 * (B - 1) + p ≤ j ∧ j < 305 * B then zA S 219 (j - 305 * (B - 1)) else g j) = g := by
      funext j
      rw [if_neg (by omega)]
    rw [e]
  | succ k ih =>
    intro p f g h2 h3
    obtain ⟨f, rfl⟩ : ∃ g, f = g + 1 := ⟨f - 1, by omega⟩
    unfold L_X11_remembers_55 B_X11_remembers_55
    have e1 : (305 * (nI B - 1)) + nI p = nI (305 * (B - 1) + p) := by
      show (nI 305 * (nI B - nI 1)) + nI p = _
      rw [nI_sub h1, nI_mul, nI_add]
    rw [if_neg (show ¬ (305 : Int32) ≤ nI p from nI_ge (b := 305) (by omega) (by omega)), a218_5, a218_7, zF_uA, hB, a218_1, l_219 (by omega), zA_uA, if_neg (by decide), e1, s_223 (by omega), uA_uA, nI_1, ih (p + 1) f _ (by omega) (by omega), zA_uA, if_pos rfl]
    congr 6
    funext j
    unfold upd
    by_cases hj : j = 305 * (B - 1) + p
    · subst hj
      rw [if_neg (by omega), if_pos rfl, if_pos (by omega)]
      congr 1; omega
    · by_cases hq : 305 * (B - 1) + p ≤ j ∧ j < 305 * B
      · rw [if_pos (by omega), if_pos hq]
      · rw [if_neg (by omega), if_neg hj, if_neg hq]
theorem m_rem_11 : ∀ (k p f : Nat) (g : Nat → Int32), p + k = 3355 → k < f → L_X11_remembers_11 Θ f (gb Θ + 218) (nI p) (laz Θ (uA S 223 g) ω) n = J_X11_remembers_53 Θ (gb Θ + 218) (laz Θ (uA S 223 (fun j => if p ≤ j ∧ j < 3355 then g (j + 305) else g j)) ω) n := by
  intro k
  induction k with
  | zero =>
    intro p f g h2 h3
    obtain ⟨f, rfl⟩ : ∃ g, f = g + 1 := ⟨f - 1, by omega⟩
    unfold L_X11_remembers_11 B_X11_remembers_11
    rw [if_pos (show (3355 : Int32) ≤ nI p from nI_le (a := 3355) (by omega) (by omega))]
    have e : (fun j => if p ≤ j ∧ j < 3355 then g (j + 305) else g j) = g := by
      funext j
      rw [if_neg (by omega)]
    rw [e]
  | succ k ih =>
    intro p f g h2 h3
    obtain ⟨f, rfl⟩ : ∃ g, f = g + 1 := ⟨f - 1, by omega⟩
    unfold L_X11_remembers_11 B_X11_remembers_11
    have e1 : nI p + 305 = nI (p + 305) := nI_add p 305
    rw [if_neg (show ¬ (3355 : Int32) ≤ nI p from nI_ge (b := 3355) (by omega) (by omega)), a218_5, a218_5, e1, l_223 (by omega), s_223 (by omega), uA_uA, nI_1, ih (p + 1) f _ (by omega) (by omega), zA_uA, if_pos rfl]
    congr 3
    funext j
    unfold upd
    by_cases hj : j = p
    · subst hj
      rw [if_neg (by omega), if_pos rfl, if_pos (by omega)]
    · by_cases hq : p ≤ j ∧ j < 3355
      · rw [if_pos (by omega), if_pos hq, if_neg (by omega)]
      · rw [if_neg (by omega), if_neg hj, if_neg hq]
theorem m_remembers {A : Nat} (hA : zF S 218 7 = nI A) (h12 : A ≤ 12) : F_X11_remembers Θ (gb Θ + 218) (laz Θ S ω) n = some (.inl (none, laz Θ (rmM S A) ω, n)) := by
  unfold F_X11_remembers
  rw [a218_7, hA]
  by_cases h : A = 12
  · subst h
    rw [if_pos (by decide)]
    have e := m_rem_11 (Θ := Θ) (S := S) (ω := ω) (n := n) 3355 0 5000 (zA S 223) (by omega) (by omega)
    rw [uA_self] at e
    refine e.trans ?_
    unfold J_X11_remembers_53
    have e2 := m_rem_55 (Θ := Θ) (S := S) (ω := ω) (n := n) hA (by omega) (by omega) 305 0 5000 (fun j => if 0 ≤ j ∧ j < 3355 then zA S 223 (j + 305) else zA S 223 j) (by omega) (by omega)
    refine e2.trans ?_
    unfold rmM
    have e3 : uF S 218 7 (nI (nxA 12)) = S := by
      have := uF_self S 218 7
      rw [hA] at this
      exact this
    rw [e3]
    congr 6
    funext j
    unfold accN
    rw [if_pos rfl]
    by_cases a : j < 3355
    · rw [if_neg (by omega), if_pos (by omega), if_pos a]
    · by_cases b : j < 3660
      · rw [if_pos (by omega), if_neg a, if_pos b]
      · rw [if_neg (by omega), if_neg (by omega), if_neg a, if_neg b]
  · rw [if_neg (show ¬ nI A = 12 from fun z => h ((nI_eq (b := 12) (by omega) (by omega)).mp z)), a218_7, hA, nI_1, b218_7]
    unfold J_X11_remembers_53
    have e2 := m_rem_55 (Θ := Θ) (S := uF S 218 7 (nI (A + 1))) (ω := ω) (n := n) (B := A + 1) rfl (by omega) (by omega) 305 0 5000 (zA S 223) (by omega) (by omega)
    have e4 : uA (uF S 218 7 (nI (A + 1))) 223 (zA S 223) = uF S 218 7 (nI (A + 1)) := uA_self (uF S 218 7 (nI (A + 1))) 223
    rw [e4] at e2
    refine e2.trans ?_
    unfold rmM nxA
    rw [if_neg h]
    congr 6
    funext j
    unfold accN
    rw [if_neg h]
    by_cases a : 305 * A ≤ j ∧ j < 305 * A + 305
    · rw [if_pos (by omega), if_pos a]; rfl
    · rw [if_neg (by omega), if_neg a]
end RM
