/-! a ride: what it is -/
def nxS (sd : Int32) : Int32 := (1103515245 * sd) + 12345
def joS (sd : Int32) : Int32 := ((nxS sd >>> ((16 : Int32) &&& 31)) &&& 32767) - ((nxS sd >>> ((16 : Int32) &&& 31)) &&& 32767) / 3 * 3
def cmx (x : Int32) : Int32 := if 0 < x then x else 0
/-- who rides over what: world, law, track, eased, nerve, knows, deeds, by draws, to the end -/
abbrev RPar : Type := (Nat → Int32) × LW × (Nat → Int32) × (Nat → Bool) × Int32 × Int32 × Int32 × Bool × Bool
/-- where the scream is, tense, seed -/
abbrev RSt : Type := Int32 × Int32 × Int32
def rpr (c : RPar) (s : Nat) : Nat := (c.2.2.1 s).toNatClampNeg
/-- the facts at slot s for one so tense -/
def rfc (c : RPar) (s : Nat) (t : Int32) : Nat → Int32 := fcS c.1 (rpr c s) t c.2.2.2.2.1 c.2.2.2.2.2.1 c.2.2.2.2.2.2.1
def rfr (c : RPar) (s : Nat) (t : Int32) : Int32 := if c.2.2.2.1 (rpr c s) = true then 0 else frS c.2.1 (rfc c s t)
def rsd (c : RPar) (s : Nat) (sd : Int32) : Int32 := if c.2.2.1 s = -1 then sd else if c.2.2.2.2.2.2.2.1 = true then nxS sd else sd
def rte (c : RPar) (s : Nat) (t sd : Int32) : Int32 := if c.2.2.1 s = -1 then cmx (t - c.1 5) else t + (rfr c s t + (if c.2.2.2.2.2.2.2.1 = true then joS sd else 1))
def rst1 (c : RPar) (s : Nat) (q : RSt) : RSt := if q.1 = -1 then (if ¬ rte c s q.2.1 q.2.2 ≤ c.2.2.2.2.1 ∧ c.2.2.2.2.2.2.2.2 = false then nI s else -1, rte c s q.2.1 q.2.2, rsd c s q.2.2) else q
def rst (c : RPar) (q : RSt) : Nat → RSt
  | 0 => q
  | k + 1 => rst1 c k (rst c q k)
/-- tense behind a slot; what one was frighted by there -/
def bhS (c : RPar) (q : RSt) (s : Nat) : Int32 := if (rst c q s).1 = -1 then (rst c q (s + 1)).2.1 else -1
def fgS (c : RPar) (q : RSt) (s : Nat) : Int32 := if (rst c q s).1 = -1 ∧ c.2.2.1 s ≠ -1 then rfr c s (rst c q s).2.1 else 0
/-- the parts fit -/
def ROK (c : RPar) : Prop := WB c.1 ∧ LawM c.1 c.2.1 ∧ (∀ s, s < 10 → c.2.2.1 s = -1 ∨ ∃ p, p < cP c.1 ∧ c.2.2.1 s = nI p ∧ c.1 (4 * p + 12) = nI s) ∧ Rg c.2.2.2.2.1 60
theorem LawM.ln {w : Nat → Int32} {lw : LW} (h : LawM w lw) : ∀ l, l < lw.1 → (lw.2.1 l = 0 ∨ lw.2.1 l = 1 ∨ lw.2.1 l = 2) ∧ Rg (lw.2.2.1 l) 30 := fun l hl => ⟨(h.2.2.2.2 l hl).2.2.1, (h.2.2.2.2 l hl).2.2.2.1⟩
theorem fvM_ext {f g : Nat → Int32} (h : ∀ j, j < 8 → f j = g j) (s x : Int32) : fvM f s x = fvM g s x := by
  unfold fvM
  rw [h 0 (by decide), h 1 (by decide), h 2 (by decide), h 3 (by decide), h 4 (by decide), h 5 (by decide), h 6 (by decide), h 7 (by decide)]
theorem rnM_ext {w f g : Nat → Int32} (h : ∀ j, j < 8 → f j = g j) : ∀ (k : Nat) (q : QM), rnM w f k q = rnM w g k q := by
  intro k
  induction k with
  | zero => intro q; rfl
  | succ k ih =>
    intro q
    unfold rnM
    have e : s1M w f q = s1M w g q := by
      unfold s1M
      rw [fvM_ext h]
    rw [e, ih]
theorem FB.ext {f g : Nat → Int32} (h : ∀ j, j < 8 → f j = g j) (hf : FB f) : FB g := ⟨fun j hj => by rw [← h j (by omega)]; exact hf.1 j hj, by rw [← h 6 (by decide)]; exact hf.2.1, by rw [← h 7 (by decide)]; exact hf.2.2⟩
theorem LawM.ext {w : Nat → Int32} {lw : LW} (hM : LawM w lw) {f g : Nat → Int32} (h : ∀ j, j < 8 → f j = g j) (hf : FB f) {l : Nat} (hl : l < lw.1) : lw.2.2.2 l f = lw.2.2.2 l g := by
  obtain ⟨a1, a2, a3, a4, i, e, a5, a6, a7, a8, a9⟩ := hM.2.2.2.2 l hl
  obtain ⟨v1, t1, ⟨r1, _⟩, q1⟩ := a9 f hf (fun _ => 0)
  obtain ⟨v2, t2, ⟨r2, _⟩, q2⟩ := a9 g (hf.ext h) (fun _ => 0)
  rw [rnM_ext h] at r1
  rw [r1] at r2
  cases r2
  have := q1.symm.trans q2
  cases x : lw.2.2.2 l f <;> cases y : lw.2.2.2 l g
  · rfl
  · rw [x, y] at this; exact this.mpr rfl
  · rw [x, y] at this; exact (this.mp rfl).symm
  · rfl
theorem sumK_ext {w : Nat → Int32} {lw : LW} (hM : LawM w lw) {f g : Nat → Int32} (h : ∀ j, j < 8 → f j = g j) (hf : FB f) (kd : Int32) : ∀ (k l : Nat), l + k ≤ lw.1 → sumK lw kd f k l = sumK lw kd g k l := by
  intro k
  induction k with
  | zero => intro l _; rfl
  | succ k ih =>
    intro l hl
    unfold sumK
    rw [hM.ext h hf (by omega), ih (l + 1) (by omega)]
theorem frS_ext {w : Nat → Int32} {lw : LW} (hM : LawM w lw) {f g : Nat → Int32} (h : ∀ j, j < 8 → f j = g j) (hf : FB f) : frS lw f = frS lw g := by
  unfold frS
  rw [sumK_ext hM h hf 0 _ _ (by omega), sumK_ext hM h hf 1 _ _ (by omega), h 2 (by decide), h 3 (by decide)]
theorem weS_ext {w : Nat → Int32} {lw : LW} (hM : LawM w lw) {f g : Nat → Int32} (h : ∀ j, j < 8 → f j = g j) (hf : FB f) : weS lw f = weS lw g := by
  unfold weS
  rw [sumK_ext hM h hf 2 _ _ (by omega)]
theorem Rg.le {x : Int32} {a b : Nat} (h : Rg x a) (hab : a ≤ b) : Rg x b := by
  obtain ⟨k, h1, h2⟩ := h
  exact ⟨k, by omega, h2⟩
theorem sumK_rg {lw : LW} (h : ∀ l, l < lw.1 → Rg (lw.2.2.1 l) 30) (kd : Int32) (f : Nat → Int32) : ∀ (k l : Nat), l + k ≤ lw.1 → k ≤ 12 → Rg (sumK lw kd f k l) (30 * k) := by
  intro k
  induction k with
  | zero => intro l _ _; exact ⟨0, by omega, rfl⟩
  | succ k ih =>
    intro l h1 h2
    obtain ⟨a, ha, ea⟩ := ih (l + 1) (by omega) (by omega)
    unfold sumK
    split
    · obtain ⟨b, hb, eb⟩ := h l (by omega)
      exact ⟨b + a, by omega, by rw [ea, eb, nI_add]⟩
    · exact ⟨a, by omega, by rw [ea, Int32.zero_add]⟩
theorem toInt_add_small {x y : Int32} {a b : Int} (hx : x.toInt = a) (hy : y.toInt = b) (h1 : -1000000000 ≤ a + b) (h2 : a + b ≤ 1000000000) : (x + y).toInt = a + b := by
  rw [Int32.toInt_add, hx, hy]
  exact Int.bmod_eq_of_le (by omega) (by omega)
theorem toInt_sub_small {x y : Int32} {a b : Int} (hx : x.toInt = a) (hy : y.toInt = b) (h1 : -1000000000 ≤ a - b) (h2 : a - b ≤ 1000000000) : (x - y).toInt = a - b := by
  rw [Int32.toInt_sub, hx, hy]
  exact Int.bmod_eq_of_le (by omega) (by omega)
theorem cmx_rg {x : Int32} {a : Int} {M : Nat} (hx : x.toInt = a) (hM : a ≤ M) (h2 : M < 1000000000) : Rg (cmx x) M := by
  unfold cmx
  by_cases h : 0 < x
  · rw [if_pos h]
    rw [Int32.lt_iff_toInt_lt, Int32.toInt_zero, hx] at h
    obtain ⟨j, hj, rfl⟩ := nI_of (x := x) (by rw [Int32.lt_iff_toInt_lt, Int32.toInt_zero, hx]; omega)
    rw [nI_toInt hj] at hx
    exact ⟨j, by omega, rfl⟩
  · rw [if_neg h]; exact ⟨0, by omega, rfl⟩
theorem frS_rg {lw : LW} (h12 : lw.1 ≤ 12) (h : ∀ l, l < lw.1 → Rg (lw.2.2.1 l) 30) {f : Nat → Int32} (h2 : Rg (f 2) 20) (h3 : Rg (f 3) 99) : Rg (frS lw f) 380 := by
  obtain ⟨a, ha, ea⟩ := h2
  obtain ⟨b, hb, eb⟩ := h3
  obtain ⟨s0, hs0, e0⟩ := sumK_rg h 0 f lw.1 0 (by omega) h12
  obtain ⟨s1, hs1, e1⟩ := sumK_rg h 1 f lw.1 0 (by omega) h12
  have ed : f 3 / 10 = nI (b / 10) := by rw [eb]; exact nI_div (b := 10) (by omega) (by decide)
  have x1 : (f 2 - f 3 / 10).toInt = (a : Int) - ((b / 10 : Nat) : Int) := toInt_sub_small (by rw [ea]; exact nI_toInt (by omega)) (by rw [ed]; exact nI_toInt (by omega)) (by omega) (by omega)
  have x2 := toInt_add_small x1 (show (sumK lw 0 f lw.1 0).toInt = (s0 : Int) by rw [e0]; exact nI_toInt (by omega)) (by omega) (by omega)
  have x3 := toInt_sub_small x2 (show (sumK lw 1 f lw.1 0).toInt = (s1 : Int) by rw [e1]; exact nI_toInt (by omega)) (by omega) (by omega)
  exact cmx_rg x3 (by omega) (by omega)
theorem hasS_b (x k : Int32) : hasS x k = 0 ∨ hasS x k = 1 := hasS_01 x k
theorem rfc_fb {c : RPar} (h : ROK c) {s : Nat} (hs : s < 10) (hn : c.2.2.1 s ≠ -1) {t : Int32} (ht : Rg t 100000) : FB (rfc c s t) := by
  obtain ⟨hW, hM, ht', hnv⟩ := h
  have h12 := hM.1
  have hl := LawM.ln hM
  have h8 := hW.P8
  rcases ht' s hs with z | ⟨p, hp, e1, e2⟩
  · exact absurd z hn
  · have er : rpr c s = p := by unfold rpr; rw [e1]; exact nI_clamp (by omega)
    obtain ⟨w1, w2, w3, w4⟩ := hW.2.2.2.2.2.2.2.1 p (by omega)
    unfold rfc
    rw [er]
    refine ⟨fun j hj => ?_, hasS_b _ _, hasS_b _ _⟩
    have q : j = 0 ∨ j = 1 ∨ j = 2 ∨ j = 3 ∨ j = 4 ∨ j = 5 := by omega
    rcases q with rfl | rfl | rfl | rfl | rfl | rfl
    · exact ⟨p, by omega, rfl⟩
    · exact ⟨s, by omega, e2⟩
    · exact w2.le (by omega)
    · exact w3.le (by omega)
    · exact ht
    · exact hnv.le (by omega)
theorem rfr_rg {c : RPar} (h : ROK c) {s : Nat} (hs : s < 10) (hn : c.2.2.1 s ≠ -1) (t : Int32) : Rg (rfr c s t) 380 := by
  obtain ⟨hW, hM, ht', hnv⟩ := h
  have h12 := hM.1
  have hl := LawM.ln hM
  have h8 := hW.P8
  unfold rfr
  split
  · exact ⟨0, by omega, rfl⟩
  · rcases ht' s hs with z | ⟨p, hp, e1, e2⟩
    · exact absurd z hn
    · have er : rpr c s = p := by unfold rpr; rw [e1]; exact nI_clamp (by omega)
      obtain ⟨w1, w2, w3, w4⟩ := hW.2.2.2.2.2.2.2.1 p (by omega)
      unfold rfc
      rw [er]
      exact frS_rg h12 (fun l hl' => (hl l hl').2) w2 w3
theorem joS_rg (sd : Int32) : Rg (joS sd) 2 := by
  unfold joS
  obtain ⟨k, hk, e⟩ : ∃ k, k < 65536 ∧ (nxS sd >>> ((16 : Int32) &&& 31)) &&& 32767 = nI k := by
    obtain ⟨k, hk, e⟩ := nx_mask ((nxS sd >>> ((16 : Int32) &&& 31)) &&& 32767)
    refine ⟨k, hk, ?_⟩
    rw [← e, Int32.and_assoc]
    rfl
  rw [e]
  have := nI_rem (a := k) (k := 3) (by omega) (by decide)
  exact ⟨k % 3, by omega, this⟩
theorem rte_rg {c : RPar} (h : ROK c) {s : Nat} (hs : s < 10) {t sd : Int32} {M : Nat} (ht : Rg t M) (hM : M ≤ 10000) : Rg (rte c s t sd) (M + 382) := by
  unfold rte
  obtain ⟨k, hk, e⟩ := ht
  by_cases z : c.2.2.1 s = -1
  · rw [if_pos z]
    obtain ⟨b, hb, eb⟩ := h.1.2.2.2.2.1
    have x1 : (t - c.1 5).toInt = (k : Int) - (b : Int) := toInt_sub_small (show t.toInt = (k : Int) by rw [e]; exact nI_toInt (by omega)) (show (c.1 5).toInt = (b : Int) by rw [eb]; exact nI_toInt (by omega)) (by omega) (by omega)
    exact (cmx_rg (M := M) x1 (by omega) (by omega)).le (by omega)
  · rw [if_neg z]
    obtain ⟨a, ha, ea⟩ := rfr_rg h hs z t
    have hj : Rg (if c.2.2.2.2.2.2.2.1 = true then joS sd else 1) 2 := by
      split
      · exact joS_rg sd
      · exact ⟨1, by omega, rfl⟩
    obtain ⟨j, hj, ej⟩ := hj
    exact ⟨k + (a + j), by omega, by rw [ea, ej, e, nI_add, nI_add]⟩
theorem rst_rg {c : RPar} (h : ROK c) {q : RSt} (h0 : q.2.1 = 0) : ∀ k, k ≤ 10 → Rg (rst c q k).2.1 (382 * k) := by
  intro k
  induction k with
  | zero => intro _; exact ⟨0, by omega, h0⟩
  | succ k ih =>
    intro hk
    have h1 := ih (by omega)
    unfold rst rst1
    split
    · exact (rte_rg h (by omega) h1 (by omega)).le (by omega)
    · exact h1.le (by omega)
theorem rst_fb {c : RPar} (h : ROK c) {q : RSt} (h0 : q.2.1 = 0) {s : Nat} (hs : s < 10) (hn : c.2.2.1 s ≠ -1) : FB (rfc c s (rst c q s).2.1) := rfc_fb h hs hn ((rst_rg h h0 s (by omega)).le (by omega))
/-- behind a scream nothing goes on -/
theorem rst_stop (c : RPar) (q : RSt) {k : Nat} (h : (rst c q k).1 ≠ -1) : ∀ j, rst c q (k + j) = rst c q k := by
  intro j
  induction j with
  | zero => rfl
  | succ j ih =>
    show rst1 c (k + j) (rst c q (k + j)) = _
    rw [ih]
    unfold rst1
    rw [if_neg h]
