/-! what a law says, out of its code on both sides -/
abbrev LW : Type := Nat × (Nat → Int32) × (Nat → Int32) × (Nat → (Nat → Int32) → Bool)
/-- facts as they can be -/
def FB (f : Nat → Int32) : Prop := (∀ j, j < 6 → Rg (f j) 100000) ∧ (f 6 = 0 ∨ f 6 = 1) ∧ (f 7 = 0 ∨ f 7 = 1)
def sgX (f : Nat → Int32) (v : Int32) : Int32 := if v < 0 then - f (v ^^^ -1).toNatClampNeg else f v.toNatClampNeg
/-- the sum of k parts of a comparison from i on -/
def smX (cf f : Nat → Int32) : Nat → Nat → Int32 → Int32
  | 0, _, a => a
  | k + 1, i, a => smX cf f k (i + 1) (a + sgX f (cf i))
/-- one step of the class's code: place, stack -/
def s1X (cf f : Nat → Int32) (q : Nat × Int32) : Nat × Int32 :=
  if cf q.1 = 0 then (q.1 + 1, q.2 ^^^ 1)
  else if cf q.1 = 1 then (q.1 + 1, (q.2 >>> ((1 : Int32) &&& 31)) &&& (q.2 ||| (-2)))
  else if cf q.1 = 2 then (q.1 + 1, (q.2 >>> ((1 : Int32) &&& 31)) ||| (q.2 &&& 1))
  else if cf q.1 = 3 then (q.1 + 2, (q.2 <<< ((1 : Int32) &&& 31)) ||| f (cf (q.1 + 1)).toNatClampNeg)
  else (q.1 + 3 + (cf (q.1 + 2)).toNatClampNeg, (q.2 <<< ((1 : Int32) &&& 31)) ||| (if cf q.1 = 4 then (if 0 ≤ smX cf f (cf (q.1 + 2)).toNatClampNeg (q.1 + 3) (cf (q.1 + 1)) then 0 else 1) else (if smX cf f (cf (q.1 + 2)).toNatClampNeg (q.1 + 3) (cf (q.1 + 1)) ≤ 0 then 0 else 1)))
/-- that step stays inside the code's lc places -/
def o1X (cf : Nat → Int32) (lc i : Nat) : Prop := i < lc ∧ (cf i = 0 ∨ cf i = 1 ∨ cf i = 2 ∨ (cf i = 3 ∧ i + 1 < lc ∧ ∃ k, k < 8 ∧ cf (i + 1) = nI k) ∨
  ((cf i = 4 ∨ cf i = 5) ∧ ∃ k, cf (i + 2) = nI k ∧ i + 3 + k ≤ lc ∧ ∀ j, j < k → ∃ q, q < 8 ∧ (cf (i + 3 + j) = nI q ∨ cf (i + 3 + j) = (nI q ^^^ -1))))
def rnX (cf f : Nat → Int32) : Nat → Nat × Int32 → Nat × Int32
  | 0, q => q
  | k + 1, q => rnX cf f k (s1X cf f q)
/-- k steps lead from i with this stack to e, all inside -/
def RnX (cf : Nat → Int32) (lc : Nat) (f : Nat → Int32) (k : Nat) (q : Nat × Int32) (q' : Nat × Int32) : Prop := rnX cf f k q = q' ∧ ∀ j, j < k → o1X cf lc (rnX cf f j q).1
/-- the code from i to e has the value hh -/
def EvX (cf : Nat → Int32) (lc i e : Nat) (hh : (Nat → Int32) → Bool) : Prop := ∀ f, FB f → ∃ k st, k ≤ 4000 ∧ RnX cf lc f k (i, 1) (e, st) ∧ (st &&& 1 = 1 ↔ hh f = true)
/-- one step of the reference's code: place, values, how many -/
def fvM (f : Nat → Int32) (step x : Int32) : Int32 := if step = 0 then f 0 else if step = 1 then f 1 else if step = 2 then f 2 else if step = 3 then f 3 else if step = 4 then f 4 else if step = 5 then f 5 else if step = 6 then f 6 else if step = 7 then f 7 else x
def opM (s a b : Int32) : Int32 := if s = 9 then a + b else if s = 10 then (if b ≤ a then 0 else 1) else if s = 11 then (if a ≤ b then 0 else 1) else if s = 13 then (if a + b = 2 then 1 else 0) else (if a + b ≤ 0 then 0 else 1)
abbrev QM : Type := Nat × (Nat → Int32) × Nat
def s1M (w f : Nat → Int32) (q : QM) : QM :=
  if w (2 * q.1 + 354) ≤ 8 then (q.1 + 1, upd q.2.1 q.2.2 (fvM f (w (2 * q.1 + 354)) (w (2 * q.1 + 355))), q.2.2 + 1)
  else if w (2 * q.1 + 354) = 12 then (q.1 + 1, upd q.2.1 (q.2.2 - 1) (1 - q.2.1 (q.2.2 - 1)), q.2.2)
  else (q.1 + 1, upd q.2.1 (q.2.2 - 2) (opM (w (2 * q.1 + 354)) (q.2.1 (q.2.2 - 2)) (q.2.1 (q.2.2 - 1))), q.2.2 - 1)
def o1M (w : Nat → Int32) (q : QM) : Prop := q.1 < 400 ∧ q.2.2 ≤ q.1 ∧ ((∃ k, k ≤ 8 ∧ w (2 * q.1 + 354) = nI k) ∨ (w (2 * q.1 + 354) = 12 ∧ 1 ≤ q.2.2) ∨ ((∃ k, 9 ≤ k ∧ k ≤ 14 ∧ k ≠ 12 ∧ w (2 * q.1 + 354) = nI k) ∧ 2 ≤ q.2.2))
def rnM (w f : Nat → Int32) : Nat → QM → QM
  | 0, q => q
  | k + 1, q => rnM w f k (s1M w f q)
def RnM (w f : Nat → Int32) (k : Nat) (q q' : QM) : Prop := rnM w f k q = q' ∧ ∀ j, j < k → o1M w (rnM w f j q)
def EvM (w : Nat → Int32) (i e : Nat) (hh : (Nat → Int32) → Bool) : Prop := i ≤ e ∧ e ≤ 400 ∧ ∀ f, FB f → ∀ v, ∃ v' t, RnM w f (e - i) (i, v, 0) (e, v', t) ∧ ((t = 0 ∨ v' 0 = 1) ↔ hh f = true)
def notOurs (Θ : GP) (a : Nat) : Prop := ¬ (gb Θ ≤ a ∧ kdz (a - gb Θ) < 99)
def LawX (Θ : GP) (ω : OW) (la : Nat) (told : Int32) (lw : LW) : Prop := ∃ (ak aa as ac lk ll ls lc : Nat) (sf cf : Nat → Int32),
  (ω la = some (.inr (2, [.int (nI lw.1), .int told, .ref ak, .ref aa, .ref as, .ref ac])) ∧ ω ak = some (.inl (gI Θ, lk, .inl lw.2.1)) ∧ ω aa = some (.inl (gI Θ, ll, .inl lw.2.2.1)) ∧ ω as = some (.inl (gI Θ, ls, .inl sf)) ∧ ω ac = some (.inl (gI Θ, lc, .inl cf))) ∧
  (notOurs Θ la ∧ notOurs Θ ak ∧ notOurs Θ aa ∧ notOurs Θ as ∧ notOurs Θ ac) ∧ (lw.1 ≤ lk ∧ lw.1 ≤ ll ∧ lw.1 < ls ∧ lc ≤ 408 ∧ lk < 1000 ∧ ll < 1000 ∧ ls < 1000) ∧
  ∀ l, l < lw.1 → ∃ i e, sf l = nI i ∧ sf (l + 1) = nI e ∧ i ≤ e ∧ e ≤ lc ∧ EvX cf lc i e (lw.2.2.2 l)
def LawM (w : Nat → Int32) (lw : LW) : Prop := lw.1 ≤ 12 ∧ (w 3 = 0 ∨ w 3 = 1) ∧ (w 3 = 0 → lw.1 = 0) ∧ (w 3 = 1 → w 305 = nI lw.1) ∧
  ∀ l, l < lw.1 → w (4 * l + 306) = lw.2.1 l ∧ w (4 * l + 307) = lw.2.2.1 l ∧ (lw.2.1 l = 0 ∨ lw.2.1 l = 1 ∨ lw.2.1 l = 2) ∧ Rg (lw.2.2.1 l) 30 ∧ ∃ i e, w (4 * l + 308) = nI i ∧ w (4 * l + 309) = nI e ∧ EvM w i e (lw.2.2.2 l)
def LawR (Θ : GP) (ω : OW) (la : Nat) (w : Nat → Int32) (lw : LW) : Prop := LawX Θ ω la (w 3) lw ∧ LawM w lw
/-- the sum of the numbers of all lines of a kind that hold, from line l on, k lines -/
def sumK (lw : LW) (kind : Int32) (f : Nat → Int32) : Nat → Nat → Int32
  | 0, _ => 0
  | k + 1, l => (if lw.2.1 l = kind ∧ lw.2.2.2 l f = true then lw.2.2.1 l else 0) + sumK lw kind f k (l + 1)
def frS (lw : LW) (f : Nat → Int32) : Int32 := if 0 < ((f 2 - f 3 / 10) + sumK lw 0 f lw.1 0) - sumK lw 1 f lw.1 0 then ((f 2 - f 3 / 10) + sumK lw 0 f lw.1 0) - sumK lw 1 f lw.1 0 else 0
def weS (lw : LW) (f : Nat → Int32) : Int32 := 1 + sumK lw 2 f lw.1 0
/-! courts -/
def cP (w : Nat → Int32) : Nat := (w 0).toNatClampNeg
def cO' (w : Nat → Int32) : Nat := (w 1).toNatClampNeg
/-- a court that can be -/
def WB (w : Nat → Int32) : Prop := Rg (w 0) 8 ∧ Rg (w 1) 6 ∧ Rg (w 2) 12 ∧ Rg (w 4) 9999 ∧ Rg (w 5) 9 ∧ Rg (w 6) 20 ∧ Rg (w 7) 60 ∧
  (∀ p, p < 8 → Rg (w (4 * p + 9)) 5 ∧ Rg (w (4 * p + 10)) 20 ∧ Rg (w (4 * p + 11)) 99 ∧ (w (4 * p + 12) = -1 ∨ Rg (w (4 * p + 12)) 9)) ∧
  (∀ a, a < 6 → Rg (w (4 * a + 41)) 63 ∧ Rg (w (4 * a + 42)) 60 ∧ Rg (w (4 * a + 43)) 255 ∧ Rg (w (4 * a + 44)) 3) ∧
  (∀ p q, p < q → q < cP w → w (4 * p + 12) = w (4 * q + 12) → w (4 * p + 12) = -1)
/-- the class's court at c is w -/
def CR (S : PZ) (c : Nat) (w : Nat → Int32) : Prop :=
  (zF S c 0 = w 0 ∧ zF S c 1 = w 1 ∧ zF S c 2 = w 2 ∧ zF S c 3 = w 5 ∧ zF S c 4 = w 6 ∧ zF S c 5 = w 4 ∧ zF S c 6 = w 8) ∧
  (∀ p, p < cP w → zA S (c + 1) p = w (4 * p + 9) ∧ zA S (c + 2) p = w (4 * p + 10) ∧ zA S (c + 3) p = w (4 * p + 11) ∧ zA S (c + 4) p = w (4 * p + 12)) ∧
  (∀ s, s < 10 → zA S (c + 5) s = pin w (nI s)) ∧
  (∀ a, a < cO' w → zA S (c + 6) a = w (4 * a + 41) ∧ zA S (c + 7) a = w (4 * a + 42) ∧ zA S (c + 8) a = w (4 * a + 43) ∧ zA S (c + 9) a = w (4 * a + 44)) ∧
  (zF S (c + 10) 0 = w 7 ∧ ∃ fr, fr < 60 ∧ zF S (c + 10) 1 = nI fr ∧ ∀ ago, ago < (w 7).toNatClampNeg → ∀ j, j < 4 → zA S (c + 11) (4 * ((fr + 59 - ago) % 60) + j) = w (4 * ago + 65 + j))
/-- the i-th court that is remembered by the reference -/
def pastW (S : PZ) (i : Nat) : Nat → Int32 := fun k => if k < 305 then zA S 223 (305 * i + k) else zA S 219 k
def byR (x y : Int32) : Prop := ∃ k, k ≤ 255 ∧ x = nI k ∧ y = (if k < 128 then nI k else nI k - 256)
/-- class and reference are at one -/
def Core (Θ : GP) (S : PZ) (ω : OW) : Prop :=
  (WB (zA S 219) ∧ CR S 14 (zA S 219) ∧ ∃ lw, LawR Θ ω (zR S 14 17) (zA S 219) lw) ∧
  (∃ len, len ≤ 400 ∧ zF S 1 0 = nI len ∧ zF S 218 9 = nI len) ∧ (∀ i, i < 400 → byR (zA S 2 i) (zA S 224 i)) ∧
  zF S 0 14 = zF S 218 14 ∧
  (zF S 0 3 = zF S 218 6 ∧ (zF S 218 6 = 0 ∨ zF S 218 6 = 1) ∧ (zF S 218 6 = 1 → WB (zA S 220) ∧ CR S 38 (zA S 220) ∧ ∃ lw, LawR Θ ω (zR S 38 17) (zA S 220) lw)) ∧
  (∃ A fr, A ≤ 12 ∧ fr < 12 ∧ zF S 50 0 = nI A ∧ zF S 50 1 = nI fr ∧ zF S 218 7 = nI A ∧ ∀ i, i < A → WB (pastW S i) ∧ CR S (52 + 12 * ((fr + 12 - A + i) % 12)) (pastW S i) ∧ zR S (52 + 12 * ((fr + 12 - A + i) % 12)) 17 = zR S 14 17 ∧ pastW S i 3 = zA S 219 3)
/-- what lies about between calls -/
def Idle (Θ : GP) (S : PZ) : Prop := ((zR S 214 4 = gb Θ + 216 ∧ zR S 214 5 = gb Θ + 217) ∨ (zR S 214 4 = gb Θ + 217 ∧ zR S 214 5 = gb Θ + 216)) ∧ (∀ t, t ≤ 60 → zA S 216 t = 0 ∧ zA S 217 t = 0 ∧ zA S 200 0 = 0) ∧ zF S 218 23 = 0 ∧ zF S 218 24 = 0
def Inv (Θ : GP) (v : OW) : Prop := ∃ S ω, v = laz Θ S ω ∧ Core Θ S ω ∧ Idle Θ S
/-- what does not lie about: cells, fields -/
def kpF (k j : Nat) : Bool := (k == 0 && (j == 3 || j == 14)) || (k == 1 && j == 0) || (14 ≤ k && k < 196) || (k == 218 && (j == 6 || j == 7 || j == 9 || j == 14))
def kpA (k : Nat) : Bool := k == 2 || (14 ≤ k && k < 196) || k == 219 || k == 220 || k == 223 || k == 224
/-- the same, without the tape and the fault -/
def ktF (k j : Nat) : Bool := (k == 0 && j == 3) || (14 ≤ k && k < 196) || (k == 218 && (j == 6 || j == 7))
def ktA (k : Nat) : Bool := (14 ≤ k && k < 196) || k == 219 || k == 220 || k == 223
/-- S' is as S at the numbers of pf, the rows of pa, the courts' laws -/
def KK (pf : Nat → Nat → Bool) (pa : Nat → Bool) (S S' : PZ) : Prop := (∀ k j, pf k j = true → zF S' k j = zF S k j) ∧ (∀ k, pa k = true → zA S' k = zA S k) ∧ (∀ k j, 14 ≤ k → k < 196 → zR S' k j = zR S k j)
section KQ
variable {pf : Nat → Nat → Bool} {pa : Nat → Bool} {S S' S'' : PZ}
theorem KK.rf (S : PZ) : KK pf pa S S := ⟨fun _ _ _ => rfl, fun _ _ => rfl, fun _ _ _ _ => rfl⟩
theorem KK.trans (h : KK pf pa S S') (h' : KK pf pa S' S'') : KK pf pa S S'' := ⟨fun k j q => (h'.1 k j q).trans (h.1 k j q), fun k q => (h'.2.1 k q).trans (h.2.1 k q), fun k j q r => (h'.2.2 k j q r).trans (h.2.2 k j q r)⟩
theorem KK.nF (h : KK pf pa S S') {k j : Nat} {v : Int32} (q : pf k j = false) : KK pf pa S (uF S' k j v) := by
  refine ⟨fun a b r => ?_, h.2.1, h.2.2⟩
  rw [zF_uF, if_neg, h.1 a b r]
  rintro ⟨rfl, rfl⟩
  rw [q] at r; cases r
theorem KK.nA (h : KK pf pa S S') {k : Nat} {f : Nat → Int32} (q : pa k = false) : KK pf pa S (uA S' k f) := by
  refine ⟨h.1, fun a r => ?_, h.2.2⟩
  rw [zA_uA, if_neg, h.2.1 a r]
  rintro rfl
  rw [q] at r; cases r
theorem KK.nL (h : KK pf pa S S') {k : Nat} {v : Int64} : KK pf pa S (uL S' k v) := h
theorem KK.nR (h : KK pf pa S S') {k j v : Nat} (q : k < 14 ∨ 196 ≤ k) : KK pf pa S (uR S' k j v) := by
  refine ⟨h.1, h.2.1, fun a b r r' => ?_⟩
  rw [zR_uR, if_neg, h.2.2 a b r r']
  rintro ⟨rfl, rfl⟩
  omega
end KQ
abbrev Kp : PZ → PZ → Prop := KK kpF kpA
abbrev Kt : PZ → PZ → Prop := KK ktF ktA
theorem Kp.t {S S' : PZ} (h : Kp S S') : Kt S S' := by
  refine ⟨fun k j q => h.1 k j ?_, fun k q => h.2.1 k ?_, h.2.2⟩
  · simp [ktF] at q; simp [kpF]; omega
  · simp [ktA] at q; simp [kpA]; omega
theorem CR.congr {S S' : PZ} {c : Nat} {w : Nat → Int32} (h1 : ∀ k j, c ≤ k → k < c + 12 → zF S' k j = zF S k j) (h2 : ∀ k, c ≤ k → k < c + 12 → zA S' k = zA S k) (h : CR S c w) : CR S' c w := by
  unfold CR at h ⊢
  rw [h1 c 0 (by omega) (by omega), h1 c 1 (by omega) (by omega), h1 c 2 (by omega) (by omega), h1 c 3 (by omega) (by omega), h1 c 4 (by omega) (by omega), h1 c 5 (by omega) (by omega), h1 c 6 (by omega) (by omega), h1 (c + 10) 0 (by omega) (by omega), h1 (c + 10) 1 (by omega) (by omega), h2 (c + 1) (by omega) (by omega), h2 (c + 2) (by omega) (by omega), h2 (c + 3) (by omega) (by omega), h2 (c + 4) (by omega) (by omega), h2 (c + 5) (by omega) (by omega), h2 (c + 6) (by omega) (by omega), h2 (c + 7) (by omega) (by omega), h2 (c + 8) (by omega) (by omega), h2 (c + 9) (by omega) (by omega), h2 (c + 11) (by omega) (by omega)]
  exact h
theorem ktF_c {k j : Nat} (h1 : 14 ≤ k) (h2 : k < 196) : ktF k j = true := by
  simp [ktF, h1, h2]
theorem ktA_c {k : Nat} (h1 : 14 ≤ k) (h2 : k < 196) : ktA k = true := by
  simp [ktA, h1, h2]
theorem Kt.cr {S S' : PZ} (h : Kt S S') {c : Nat} {w : Nat → Int32} (h1 : 14 ≤ c) (h2 : c + 12 ≤ 196) (q : CR S c w) : CR S' c w := q.congr (fun k j a b => h.1 k j (ktF_c (by omega) (by omega))) (fun k a b => h.2.1 k (ktA_c (by omega) (by omega)))
theorem Core.kt {Θ : GP} {S S' : PZ} {ω : OW} (h : Core Θ S ω) (q : Kt S S') (b1 : ∃ len, len ≤ 400 ∧ zF S' 1 0 = nI len ∧ zF S' 218 9 = nI len) (c1 : ∀ i, i < 400 → byR (zA S' 2 i) (zA S' 224 i)) (d1 : zF S' 0 14 = zF S' 218 14) : Core Θ S' ω := by
  obtain ⟨⟨a1, a2, lw, a3⟩, -, -, -, ⟨e1, e2, e3⟩, A, fr, f1, f2, f3, f4, f5, f6⟩ := h
  have w1 : zA S' 219 = zA S 219 := q.2.1 219 rfl
  have w2 : zA S' 220 = zA S 220 := q.2.1 220 rfl
  have w3 : zA S' 223 = zA S 223 := q.2.1 223 rfl
  have hp : ∀ i, pastW S' i = pastW S i := fun i => by unfold pastW; rw [w1, w3]
  refine ⟨⟨by rw [w1]; exact a1, by rw [w1]; exact q.cr (by decide) (by decide) a2, lw, by rw [w1, q.2.2 14 17 (by decide) (by decide)]; exact a3⟩, b1, c1, d1, ⟨by rw [q.1 0 3 rfl, q.1 218 6 rfl]; exact e1, by rw [q.1 218 6 rfl]; exact e2, ?_⟩, A, fr, f1, f2, by rw [q.1 50 0 rfl]; exact f3, by rw [q.1 50 1 rfl]; exact f4, by rw [q.1 218 7 rfl]; exact f5, ?_⟩
  · rw [q.1 218 6 rfl, w2, q.2.2 38 17 (by decide) (by decide)]
    intro h
    obtain ⟨g1, g2, g3⟩ := e3 h
    exact ⟨g1, q.cr (by decide) (by decide) g2, g3⟩
  · intro i hi
    obtain ⟨g1, g2, g3, g4⟩ := f6 i hi
    have hm : (fr + 12 - A + i) % 12 < 12 := Nat.mod_lt _ (by decide)
    rw [hp i, w1, q.2.2 _ 17 (by omega) (by omega), q.2.2 14 17 (by decide) (by decide)]
    exact ⟨g1, q.cr (by omega) (by omega) g2, g3, g4⟩
theorem Core.kp {Θ : GP} {S S' : PZ} {ω : OW} (h : Core Θ S ω) (q : Kp S S') : Core Θ S' ω := by
  refine h.kt q.t ?_ ?_ ?_
  · obtain ⟨len, b1, b2, b3⟩ := h.2.1
    exact ⟨len, b1, by rw [q.1 1 0 rfl]; exact b2, by rw [q.1 218 9 rfl]; exact b3⟩
  · rw [q.2.1 224 rfl, q.2.1 2 rfl]; exact h.2.2.1
  · rw [q.1 0 14 rfl, q.1 218 14 rfl]; exact h.2.2.2.1
