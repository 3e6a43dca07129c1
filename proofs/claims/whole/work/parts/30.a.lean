/-! The cells of class and reference as one picture: numbers by cell and field, rows by cell, longs, references that change. -/
abbrev PZ : Type := (Nat → Nat → Int32) × (Nat → Nat → Int32) × (Nat → Int64) × (Nat → Nat → Nat)
def zF (S : PZ) (k j : Nat) : Int32 := S.1 k j
def zA (S : PZ) (k : Nat) : Nat → Int32 := S.2.1 k
def zL (S : PZ) (k : Nat) : Int64 := S.2.2.1 k
def zR (S : PZ) (k j : Nat) : Nat := S.2.2.2 k j
def uF (S : PZ) (k j : Nat) (v : Int32) : PZ := (fun a b => if a = k ∧ b = j then v else S.1 a b, S.2)
def uA (S : PZ) (k : Nat) (f : Nat → Int32) : PZ := (S.1, fun a => if a = k then f else S.2.1 a, S.2.2)
def uL (S : PZ) (k : Nat) (v : Int64) : PZ := (S.1, S.2.1, fun a => if a = k then v else S.2.2.1 a, S.2.2.2)
def uR (S : PZ) (k j v : Nat) : PZ := (S.1, S.2.1, S.2.2.1, fun a b => if a = k ∧ b = j then v else S.2.2.2 a b)
theorem zF_uF (S : PZ) (k j : Nat) (v : Int32) (a b : Nat) : zF (uF S k j v) a b = if a = k ∧ b = j then v else zF S a b := rfl
theorem zF_uA (S : PZ) (k : Nat) (f : Nat → Int32) (a b : Nat) : zF (uA S k f) a b = zF S a b := rfl
theorem zF_uL (S : PZ) (k : Nat) (v : Int64) (a b : Nat) : zF (uL S k v) a b = zF S a b := rfl
theorem zF_uR (S : PZ) (k j v : Nat) (a b : Nat) : zF (uR S k j v) a b = zF S a b := rfl
theorem zA_uF (S : PZ) (k j : Nat) (v : Int32) (a : Nat) : zA (uF S k j v) a = zA S a := rfl
theorem zA_uA (S : PZ) (k : Nat) (f : Nat → Int32) (a : Nat) : zA (uA S k f) a = if a = k then f else zA S a := rfl
theorem zA_uL (S : PZ) (k : Nat) (v : Int64) (a : Nat) : zA (uL S k v) a = zA S a := rfl
theorem zA_uR (S : PZ) (k j v : Nat) (a : Nat) : zA (uR S k j v) a = zA S a := rfl
theorem zL_uF (S : PZ) (k j : Nat) (v : Int32) (a : Nat) : zL (uF S k j v) a = zL S a := rfl
theorem zL_uA (S : PZ) (k : Nat) (f : Nat → Int32) (a : Nat) : zL (uA S k f) a = zL S a := rfl
theorem zL_uL (S : PZ) (k : Nat) (v : Int64) (a : Nat) : zL (uL S k v) a = if a = k then v else zL S a := rfl
theorem zL_uR (S : PZ) (k j v : Nat) (a : Nat) : zL (uR S k j v) a = zL S a := rfl
theorem zR_uF (S : PZ) (k j : Nat) (v : Int32) (a b : Nat) : zR (uF S k j v) a b = zR S a b := rfl
theorem zR_uA (S : PZ) (k : Nat) (f : Nat → Int32) (a b : Nat) : zR (uA S k f) a b = zR S a b := rfl
theorem zR_uL (S : PZ) (k : Nat) (v : Int64) (a b : Nat) : zR (uL S k v) a b = zR S a b := rfl
theorem zR_uR (S : PZ) (k j v : Nat) (a b : Nat) : zR (uR S k j v) a b = if a = k ∧ b = j then v else zR S a b := rfl
def kdT : List Nat := [10, 8, 20, 7, 22, 20, 20, 20, 20, 99, 99, 99, 99, 99, 0, 20, 20, 20, 20, 20, 20, 20, 20, 20, 4, 20, 0, 20, 20, 20, 20, 20, 20, 20, 20, 20, 4, 20, 0, 20, 20, 20, 20, 20, 20, 20, 20, 20, 4, 20, 5, 24, 0, 20, 20, 20, 20, 20, 20, 20, 20, 20, 4, 20, 0, 20, 20, 20, 20, 20, 20, 20, 20, 20, 4, 20, 0, 20, 20, 20, 20, 20, 20, 20, 20, 20, 4, 20, 0, 20, 20, 20, 20, 20, 20, 20, 20, 20, 4, 20, 0, 20, 20, 20, 20, 20, 20, 20, 20, 20, 4, 20, 0, 20, 20, 20, 20, 20, 20, 20, 20, 20, 4, 20, 0, 20, 20, 20, 20, 20, 20, 20, 20, 20, 4, 20, 0, 20, 20, 20, 20, 20, 20, 20, 20, 20, 4, 20, 0, 20, 20, 20, 20, 20, 20, 20, 20, 20, 4, 20, 0, 20, 20, 20, 20, 20, 20, 20, 20, 20, 4, 20, 0, 20, 20, 20, 20, 20, 20, 20, 20, 20, 4, 20, 0, 20, 20, 20, 20, 20, 20, 20, 20, 20, 4, 20, 1, 3, 20, 20, 20, 20, 6, 20, 20, 20, 20, 20, 6, 20, 20, 20, 20, 20, 9, 20, 20, 20, 11, 20, 20, 20, 20, 20, 21, 20, 20, 20, 20, 20, 20, 20, 20, 20, 23]
def lnT : List Nat := [0, 0, 400, 0, 64, 640, 381, 10, 9, 0, 0, 0, 0, 0, 0, 8, 8, 8, 8, 10, 6, 6, 6, 6, 0, 240, 0, 8, 8, 8, 8, 10, 6, 6, 6, 6, 0, 240, 0, 8, 8, 8, 8, 10, 6, 6, 6, 6, 0, 240, 0, 12, 0, 8, 8, 8, 8, 10, 6, 6, 6, 6, 0, 240, 0, 8, 8, 8, 8, 10, 6, 6, 6, 6, 0, 240, 0, 8, 8, 8, 8, 10, 6, 6, 6, 6, 0, 240, 0, 8, 8, 8, 8, 10, 6, 6, 6, 6, 0, 240, 0, 8, 8, 8, 8, 10, 6, 6, 6, 6, 0, 240, 0, 8, 8, 8, 8, 10, 6, 6, 6, 6, 0, 240, 0, 8, 8, 8, 8, 10, 6, 6, 6, 6, 0, 240, 0, 8, 8, 8, 8, 10, 6, 6, 6, 6, 0, 240, 0, 8, 8, 8, 8, 10, 6, 6, 6, 6, 0, 240, 0, 8, 8, 8, 8, 10, 6, 6, 6, 6, 0, 240, 0, 8, 8, 8, 8, 10, 6, 6, 6, 6, 0, 240, 0, 8, 8, 8, 8, 10, 6, 6, 6, 6, 0, 240, 0, 0, 12, 12, 13, 408, 0, 10, 8, 10, 10, 8, 0, 10, 8, 10, 10, 8, 0, 10, 61, 61, 0, 2003, 1154, 1154, 305, 3660, 400, 5, 400, 10, 10, 8, 61, 61, 10, 640, 1]
def kdz (k : Nat) : Nat := kdT.getD k 99
def alz (k : Nat) : Nat := lnT.getD k 0
def fz0 (Θ : GP) (S : PZ) (k : Nat) : List Value := [.int (zF S k 0), .int (zF S k 1), .int (zF S k 2), .int (zF S k 3), .int (zF S k 4), .int (zF S k 5), .int (zF S k 6), .ref (gb Θ + (k + 1)), .ref (gb Θ + (k + 2)), .ref (gb Θ + (k + 3)), .ref (gb Θ + (k + 4)), .ref (gb Θ + (k + 5)), .ref (gb Θ + (k + 6)), .ref (gb Θ + (k + 7)), .ref (gb Θ + (k + 8)), .ref (gb Θ + (k + 9)), .ref (gb Θ + (k + 10)), .ref (zR S k 17)]
def fz1 (Θ : GP) (S : PZ) (k : Nat) : List Value := [.ref (gb Θ + 1), .ref (gb Θ + 26)]
def fz3 (Θ : GP) (S : PZ) (k : Nat) : List Value := [.ref (gb Θ + 1), .int (zF S k 1), .int (zF S k 2), .ref (gb Θ + (k + 1)), .ref (gb Θ + (k + 2)), .ref (gb Θ + (k + 3)), .ref (gb Θ + (k + 4))]
def fz4 (Θ : GP) (S : PZ) (k : Nat) : List Value := [.int (zF S k 0), .int (zF S k 1), .ref (gb Θ + (k + 1))]
def fz5 (Θ : GP) (S : PZ) (k : Nat) : List Value := [.int (zF S k 0), .int (zF S k 1), .ref (gb Θ + 51)]
def fz6 (Θ : GP) (S : PZ) (k : Nat) : List Value := [.ref (gb Θ + 14), .ref (gb Θ + (k + 1)), .ref (gb Θ + (k + 2)), .int (zF S k 3), .int (zF S k 4), .int (zF S k 5), .int (zF S k 6), .int (zF S k 7), .int (zF S k 8), .int (zF S k 9), .ref (gb Θ + (k + 3)), .ref (gb Θ + (k + 4)), .int (zF S k 12), .int (zF S k 13), .ref (gb Θ + (k + 5))]
def fz7 (Θ : GP) (S : PZ) (k : Nat) : List Value := [.ref (gb Θ + 4), .ref (gb Θ + 5), .ref (gb Θ + 6)]
def fz8 (Θ : GP) (S : PZ) (k : Nat) : List Value := [.int (zF S k 0), .int (zF S k 1), .int (zF S k 2), .int (zF S k 3), .long (zL S k), .ref (gb Θ + 2)]
def fz9 (Θ : GP) (S : PZ) (k : Nat) : List Value := [.int (zF S k 0), .ref (gb Θ + (k + 1)), .int (zF S k 2), .int (zF S k 3), .ref (zR S k 4), .ref (zR S k 5), .ref (gb Θ + 14), .ref (gb Θ + 202)]
def fz10 (Θ : GP) (S : PZ) (k : Nat) : List Value := [.ref (gb Θ + 14), .ref (gb Θ + 26), .ref (gb Θ + 38), .int (zF S k 3), .ref (gb Θ + 50), .ref (gb Θ + 1), .ref (gb Θ + 196), .ref (gb Θ + 197), .ref (gb Θ + 202), .ref (gb Θ + 208), .ref (gb Θ + 214), .ref (gb Θ + 3), .ref (gb Θ + 7), .ref (gb Θ + 8), .int (zF S k 14)]
def fz11 (Θ : GP) (S : PZ) (k : Nat) : List Value := [.int (zF S k 0), .ref (gb Θ + 219), .ref (gb Θ + 220), .ref (gb Θ + 221), .ref (gb Θ + 222), .ref (gb Θ + 223), .int (zF S k 6), .int (zF S k 7), .ref (gb Θ + 224), .int (zF S k 9), .int (zF S k 10), .int (zF S k 11), .int (zF S k 12), .int (zF S k 13), .int (zF S k 14), .ref (gb Θ + 225), .int (zF S k 16), .ref (gb Θ + 226), .int (zF S k 18), .int (zF S k 19), .int (zF S k 20), .int (zF S k 21), .int (zF S k 22), .int (zF S k 23), .int (zF S k 24), .ref (gb Θ + 227), .ref (gb Θ + 228), .ref (gb Θ + 229), .int (zF S k 28), .int (zF S k 29), .int (zF S k 30), .int (zF S k 31), .int (zF S k 32), .ref (gb Θ + 230), .ref (gb Θ + 231), .ref (gb Θ + 232), .int (zF S k 36), .ref (gb Θ + 233)]
def fz2 (_ : GP) (_ : PZ) (_ : Nat) : List Value := []
def fzs (Θ : GP) (S : PZ) (k c : Nat) : List Value := match c with
  | 0 => fz0 Θ S k
  | 1 => fz1 Θ S k
  | 2 => fz2 Θ S k
  | 3 => fz3 Θ S k
  | 4 => fz4 Θ S k
  | 5 => fz5 Θ S k
  | 6 => fz6 Θ S k
  | 7 => fz7 Θ S k
  | 8 => fz8 Θ S k
  | 9 => fz9 Θ S k
  | 10 => fz10 Θ S k
  | 11 => fz11 Θ S k
  | _ => []
def cez (Θ : GP) (S : PZ) (k : Nat) : va_E := match kdz k with
  | 20 => .inl (gI Θ, alz k, .inl (zA S k))
  | 21 => .inl (gB Θ, alz k, .inl (zA S k))
  | 22 => .inl (gZ Θ, alz k, .inl (zA S k))
  | 23 => .inl (gJ Θ, 1, .inr (.inl (vp_updL (fun _ => 0) 0 (zL S k))))
  | 24 => .inl (gC Θ, 12, .inr (.inr (.inr (.inr (fun i => if i < 12 then some (gb Θ + (52 + 12 * i)) else none)))))
  | c => .inr (c, fzs Θ S k c)
def laz (Θ : GP) (S : PZ) (ω : OW) : OW := fun a => if gb Θ ≤ a ∧ kdz (a - gb Θ) < 99 then some (cez Θ S (a - gb Θ)) else ω a
theorem laz_at (Θ : GP) (S : PZ) (ω : OW) {k : Nat} (hk : kdz k < 99) : laz Θ S ω (gb Θ + k) = some (cez Θ S k) := by
  unfold laz
  rw [Nat.add_sub_cancel_left, if_pos ⟨Nat.le_add_right _ _, hk⟩]
theorem laz_out (Θ : GP) (S : PZ) (ω : OW) {a : Nat} (h : ¬ (gb Θ ≤ a ∧ kdz (a - gb Θ) < 99)) : laz Θ S ω a = ω a := if_neg h
theorem laz_upd (Θ : GP) (S S' : PZ) (ω : OW) {k : Nat} {x : va_E} (hk : kdz k < 99) (h1 : cez Θ S' k = x) (h2 : ∀ j, j ≠ k → cez Θ S' j = cez Θ S j) : g_upd (laz Θ S ω) (gb Θ + k) x = laz Θ S' ω := by
  funext a
  unfold g_upd laz
  by_cases ha : a = gb Θ + k
  · subst ha
    rw [if_pos rfl, Nat.add_sub_cancel_left, if_pos ⟨Nat.le_add_right _ _, hk⟩, h1]
  · rw [if_neg ha]
    by_cases hr : gb Θ ≤ a ∧ kdz (a - gb Θ) < 99
    · rw [if_pos hr, if_pos hr, h2 _ (by omega)]
    · rw [if_neg hr, if_neg hr]
theorem laz_rest (Θ : GP) (S : PZ) (ω : OW) {a : Nat} {x : va_E} (h : ¬ (gb Θ ≤ a ∧ kdz (a - gb Θ) < 99)) : g_upd (laz Θ S ω) a x = laz Θ S (g_upd ω a x) := by
  funext q
  unfold g_upd laz
  by_cases hq : q = a
  · subst hq; rw [if_pos rfl, if_neg h]; exact (if_pos rfl).symm
  · rw [if_neg hq]; split
    · rfl
    · exact (if_neg hq).symm
theorem cez_ob (Θ : GP) (S : PZ) {k c : Nat} (hk : kdz k = c) (hc : c < 12) : cez Θ S k = .inr (c, fzs Θ S k c) := by
  unfold cez
  have q : c = 0 ∨ c = 1 ∨ c = 2 ∨ c = 3 ∨ c = 4 ∨ c = 5 ∨ c = 6 ∨ c = 7 ∨ c = 8 ∨ c = 9 ∨ c = 10 ∨ c = 11 := by omega
  rcases q with rfl | rfl | rfl | rfl | rfl | rfl | rfl | rfl | rfl | rfl | rfl | rfl <;> (rw [hk]; rfl)
theorem cez_ar (Θ : GP) (S : PZ) {k : Nat} (hk : kdz k = 20) : cez Θ S k = .inl (gI Θ, alz k, .inl (zA S k)) := by
  unfold cez; rw [hk]; rfl
theorem cez_by (Θ : GP) (S : PZ) {k : Nat} (hk : kdz k = 21) : cez Θ S k = .inl (gB Θ, alz k, .inl (zA S k)) := by
  unfold cez; rw [hk]; rfl
theorem cez_bo (Θ : GP) (S : PZ) {k : Nat} (hk : kdz k = 22) : cez Θ S k = .inl (gZ Θ, alz k, .inl (zA S k)) := by
  unfold cez; rw [hk]; rfl
/-- a cell of an object does not hang on rows; another cell does not hang on this one's numbers -/
theorem cez_congr (Θ : GP) (S S' : PZ) (j : Nat) (h1 : ∀ i, zF S' j i = zF S j i) (h2 : zA S' j = zA S j) (h3 : zL S' j = zL S j) (h4 : ∀ i, zR S' j i = zR S j i) : cez Θ S' j = cez Θ S j := by
  have hf : ∀ c, fzs Θ S' j c = fzs Θ S j c := by
    intro c
    unfold fzs
    split <;> simp only [fz0, fz1, fz2, fz3, fz4, fz5, fz6, fz7, fz8, fz9, fz10, fz11, h1, h3, h4]
  unfold cez
  rw [h2, h3]
  split <;> first | rfl | rw [hf]
theorem cez_uF (Θ : GP) (S : PZ) (k i : Nat) (v : Int32) : ∀ j, j ≠ k → cez Θ (uF S k i v) j = cez Θ S j := fun j hj => cez_congr Θ S _ j (fun q => by rw [zF_uF, if_neg (fun h => hj h.1)]) rfl rfl (fun _ => rfl)
theorem cez_uA (Θ : GP) (S : PZ) (k : Nat) (f : Nat → Int32) : ∀ j, j ≠ k → cez Θ (uA S k f) j = cez Θ S j := fun j hj => cez_congr Θ S _ j (fun _ => rfl) (by rw [zA_uA, if_neg hj]) rfl (fun _ => rfl)
theorem cez_uL (Θ : GP) (S : PZ) (k : Nat) (v : Int64) : ∀ j, j ≠ k → cez Θ (uL S k v) j = cez Θ S j := fun j hj => cez_congr Θ S _ j (fun _ => rfl) rfl (by rw [zL_uL, if_neg hj]) (fun _ => rfl)
theorem cez_uR (Θ : GP) (S : PZ) (k i v : Nat) : ∀ j, j ≠ k → cez Θ (uR S k i v) j = cez Θ S j := fun j hj => cez_congr Θ S _ j (fun _ => rfl) rfl rfl (fun q => by rw [zR_uR, if_neg (fun h => hj h.1)])
theorem laz_uA (Θ : GP) (S : PZ) (ω : OW) {k : Nat} (hk : kdz k = 20) (f : Nat → Int32) : g_upd (laz Θ S ω) (gb Θ + k) (.inl (gI Θ, alz k, .inl f)) = laz Θ (uA S k f) ω :=
  laz_upd Θ S _ ω (by rw [hk]; decide) (by rw [cez_ar Θ _ hk, zA_uA, if_pos rfl]) (cez_uA Θ S k f)
theorem laz_uAb (Θ : GP) (S : PZ) (ω : OW) {k : Nat} (hk : kdz k = 21) (f : Nat → Int32) : g_upd (laz Θ S ω) (gb Θ + k) (.inl (gB Θ, alz k, .inl f)) = laz Θ (uA S k f) ω :=
  laz_upd Θ S _ ω (by rw [hk]; decide) (by rw [cez_by Θ _ hk, zA_uA, if_pos rfl]) (cez_uA Θ S k f)
theorem laz_uAz (Θ : GP) (S : PZ) (ω : OW) {k : Nat} (hk : kdz k = 22) (f : Nat → Int32) : g_upd (laz Θ S ω) (gb Θ + k) (.inl (gZ Θ, alz k, .inl f)) = laz Θ (uA S k f) ω :=
  laz_upd Θ S _ ω (by rw [hk]; decide) (by rw [cez_bo Θ _ hk, zA_uA, if_pos rfl]) (cez_uA Θ S k f)
section LZ
variable {Θ : GP} {S : PZ} {ω : OW}
/-- rows -/
theorem z_lI {k i : Nat} {kk : Int32 → RO} (hk : kdz k = 20) (hi : i < alz k) (hb : alz k < 2 ^ 31) : lI (laz Θ S ω) (gI Θ) (gb Θ + k) (nI i) kk = kk (zA S k i) := by
  unfold lI
  rw [laz_at Θ S ω (by rw [hk]; decide), cez_ar Θ S hk]
  show (if gI Θ = gI Θ ∧ ¬ (nI i < 0 ∨ alz k ≤ (nI i).toNatClampNeg) then _ else _) = _
  rw [if_pos ⟨rfl, nI_in hi hb⟩, nI_clamp (by omega)]
theorem z_lB {k i : Nat} {kk : Int32 → RO} (hk : kdz k = 21) (hi : i < alz k) (hb : alz k < 2 ^ 31) : lI (laz Θ S ω) (gB Θ) (gb Θ + k) (nI i) kk = kk (zA S k i) := by
  unfold lI
  rw [laz_at Θ S ω (by rw [hk]; decide), cez_by Θ S hk]
  show (if gB Θ = gB Θ ∧ ¬ (nI i < 0 ∨ alz k ≤ (nI i).toNatClampNeg) then _ else _) = _
  rw [if_pos ⟨rfl, nI_in hi hb⟩, nI_clamp (by omega)]
theorem z_lZ {k i : Nat} {kk : Int32 → RO} (hk : kdz k = 22) (hi : i < alz k) (hb : alz k < 2 ^ 31) : lI (laz Θ S ω) (gZ Θ) (gb Θ + k) (nI i) kk = kk (zA S k i) := by
  unfold lI
  rw [laz_at Θ S ω (by rw [hk]; decide), cez_bo Θ S hk]
  show (if gZ Θ = gZ Θ ∧ ¬ (nI i < 0 ∨ alz k ≤ (nI i).toNatClampNeg) then _ else _) = _
  rw [if_pos ⟨rfl, nI_in hi hb⟩, nI_clamp (by omega)]
theorem z_sI {k i : Nat} {x : Int32} {kk : OW → RO} (hk : kdz k = 20) (hi : i < alz k) (hb : alz k < 2 ^ 31) : sI (laz Θ S ω) (gI Θ) (gb Θ + k) (nI i) x kk = kk (laz Θ (uA S k (upd (zA S k) i x)) ω) := by
  unfold sI
  rw [laz_at Θ S ω (by rw [hk]; decide), cez_ar Θ S hk]
  show (if gI Θ = gI Θ ∧ ¬ (nI i < 0 ∨ alz k ≤ (nI i).toNatClampNeg) then _ else _) = _
  rw [if_pos ⟨rfl, nI_in hi hb⟩, nI_clamp (by omega), laz_uA Θ S ω hk]
theorem z_sB {k i : Nat} {x : Int32} {kk : OW → RO} (hk : kdz k = 21) (hi : i < alz k) (hb : alz k < 2 ^ 31) : sI (laz Θ S ω) (gB Θ) (gb Θ + k) (nI i) x kk = kk (laz Θ (uA S k (upd (zA S k) i x)) ω) := by
  unfold sI
  rw [laz_at Θ S ω (by rw [hk]; decide), cez_by Θ S hk]
  show (if gB Θ = gB Θ ∧ ¬ (nI i < 0 ∨ alz k ≤ (nI i).toNatClampNeg) then _ else _) = _
  rw [if_pos ⟨rfl, nI_in hi hb⟩, nI_clamp (by omega), laz_uAb Θ S ω hk]
theorem z_sZ {k i : Nat} {x : Int32} {kk : OW → RO} (hk : kdz k = 22) (hi : i < alz k) (hb : alz k < 2 ^ 31) : sI (laz Θ S ω) (gZ Θ) (gb Θ + k) (nI i) x kk = kk (laz Θ (uA S k (upd (zA S k) i x)) ω) := by
  unfold sI
  rw [laz_at Θ S ω (by rw [hk]; decide), cez_bo Θ S hk]
  show (if gZ Θ = gZ Θ ∧ ¬ (nI i < 0 ∨ alz k ≤ (nI i).toNatClampNeg) then _ else _) = _
  rw [if_pos ⟨rfl, nI_in hi hb⟩, nI_clamp (by omega), laz_uAz Θ S ω hk]
theorem z_cp {k1 k2 n d : Nat} {kk : OW → RO} (h1 : kdz k1 = 20) (h2 : kdz k2 = 20) (l1 : n ≤ alz k1) (l2 : d + n ≤ alz k2) (hb : d + n < 2 ^ 31) : cpI (laz Θ S ω) (gI Θ) (gb Θ + k1) 0 (gb Θ + k2) (nI d) (nI n) kk = kk (laz Θ (uA S k2 (va_cpy (zA S k1) (zA S k2) 0 d n)) ω) := by
  unfold cpI
  rw [laz_at Θ S ω (by rw [h1]; decide), cez_ar Θ S h1, laz_at Θ S ω (by rw [h2]; decide), cez_ar Θ S h2]
  show (if _ then _ else _) = _
  rw [if_pos ⟨⟨rfl, rfl⟩, by decide, nI_pos (by omega), nI_pos (by omega), by rw [nI_clamp (by omega)]; show 0 + n ≤ _; omega, by rw [nI_clamp (by omega), nI_clamp (by omega)]; exact l2⟩, nI_clamp (by omega), nI_clamp (by omega), laz_uA Θ S ω h2]
  rfl
theorem z_al {k : Nat} {kk : Int32 → RO} (hk : kdz k = 20) : alN (laz Θ S ω) (gb Θ + k) (gI Θ) kk = kk (nI (alz k)) := by
  unfold alN
  rw [laz_at Θ S ω (by rw [hk]; decide), cez_ar Θ S hk]
  exact if_pos rfl
theorem z_lA {i : Nat} {kk : Nat → RO} (hi : i < 12) : lA (laz Θ S ω) (gC Θ) (gb Θ + 51) (nI i) kk = kk (gb Θ + (52 + 12 * i)) := by
  have e : laz Θ S ω (gb Θ + 51) = some (.inl (gC Θ, 12, .inr (.inr (.inr (.inr (fun i => if i < 12 then some (gb Θ + (52 + 12 * i)) else none)))))) := laz_at Θ S ω (by decide)
  unfold lA
  rw [e]
  show (if gC Θ = gC Θ ∧ ¬ (nI i < 0 ∨ 12 ≤ (nI i).toNatClampNeg) then _ else _) = _
  rw [if_pos ⟨rfl, nI_in hi (by decide)⟩, nI_clamp (by omega)]
  show (match (if i < 12 then some (gb Θ + (52 + 12 * i)) else none) with
    | some x => kk x
    | none => none) = _
  rw [if_pos hi]
theorem z_rI {k c j : Nat} {x : Int32} {kk : Int32 → RO} (hk : kdz k = c) (hc : c < 12) (hj : (fzs Θ S k c)[j]? = some (.int x)) : rI (laz Θ S ω) (gb Θ + k) c j kk = kk x := by
  unfold rI
  rw [laz_at Θ S ω (by omega), cez_ob Θ S hk hc]
  show (if c = c then _ else _) = _
  rw [if_pos rfl, hj]
theorem z_rA {k c j a : Nat} {kk : Nat → RO} (hk : kdz k = c) (hc : c < 12) (hj : (fzs Θ S k c)[j]? = some (.ref a)) : rA (laz Θ S ω) (gb Θ + k) c j kk = kk a := by
  unfold rA
  rw [laz_at Θ S ω (by omega), cez_ob Θ S hk hc]
  show (if c = c then _ else _) = _
  rw [if_pos rfl, hj]
theorem z_rL {k c j : Nat} {x : Int64} {kk : Int64 → RO} (hk : kdz k = c) (hc : c < 12) (hj : (fzs Θ S k c)[j]? = some (.long x)) : rL (laz Θ S ω) (gb Θ + k) c j kk = kk x := by
  unfold rL
  rw [laz_at Θ S ω (by omega), cez_ob Θ S hk hc]
  show (if c = c then _ else _) = _
  rw [if_pos rfl, hj]
theorem z_cO {k c : Nat} {r : RO} (hk : kdz k = c) (hc : c < 12) : cO (laz Θ S ω) (gb Θ + k) c r = r := by
  unfold cO
  rw [laz_at Θ S ω (by omega), cez_ob Θ S hk hc]
  exact if_pos rfl
theorem z_wF {k c j : Nat} {v : Int32} {kk : OW → RO} (hk : kdz k = c) (hc : c < 12) (hj : j < (fzs Θ S k c).length) (hs : (fzs Θ S k c).set j (.int v) = fzs Θ (uF S k j v) k c) : wF (laz Θ S ω) (gb Θ + k) c j (.int v) kk = kk (laz Θ (uF S k j v) ω) := by
  unfold wF
  rw [laz_at Θ S ω (by omega), cez_ob Θ S hk hc]
  show (if c = c ∧ _ then _ else _) = _
  rw [if_pos ⟨rfl, hj⟩, hs, laz_upd Θ S (uF S k j v) ω (by omega) (cez_ob Θ _ hk hc) (cez_uF Θ S k j v)]
theorem z_wL {k c j : Nat} {v : Int64} {kk : OW → RO} (hk : kdz k = c) (hc : c < 12) (hj : j < (fzs Θ S k c).length) (hs : (fzs Θ S k c).set j (.long v) = fzs Θ (uL S k v) k c) : wF (laz Θ S ω) (gb Θ + k) c j (.long v) kk = kk (laz Θ (uL S k v) ω) := by
  unfold wF
  rw [laz_at Θ S ω (by omega), cez_ob Θ S hk hc]
  show (if c = c ∧ _ then _ else _) = _
  rw [if_pos ⟨rfl, hj⟩, hs, laz_upd Θ S (uL S k v) ω (by omega) (cez_ob Θ _ hk hc) (cez_uL Θ S k v)]
theorem z_wR {k c j a : Nat} {kk : OW → RO} (hk : kdz k = c) (hc : c < 12) (hj : j < (fzs Θ S k c).length) (hs : (fzs Θ S k c).set j (.ref a) = fzs Θ (uR S k j a) k c) : wF (laz Θ S ω) (gb Θ + k) c j (.ref a) kk = kk (laz Θ (uR S k j a) ω) := by
  unfold wF
  rw [laz_at Θ S ω (by omega), cez_ob Θ S hk hc]
  show (if c = c ∧ _ then _ else _) = _
  rw [if_pos ⟨rfl, hj⟩, hs, laz_upd Θ S (uR S k j a) ω (by omega) (cez_ob Θ _ hk hc) (cez_uR Θ S k j a)]
theorem r0_0 {k : Nat} {kk : Int32 → RO} (hk : kdz k = 0) : rI (laz Θ S ω) (gb Θ + k) 0 0 kk = kk (zF S k 0) := z_rI hk (by decide) rfl
theorem w0_0 {k : Nat} {v : Int32} {kk : OW → RO} (hk : kdz k = 0) : wF (laz Θ S ω) (gb Θ + k) 0 0 (.int v) kk = kk (laz Θ (uF S k 0 v) ω) := z_wF hk (by decide) (by show _ < 18; decide) (by simp [fzs, fz0, zF_uF, zL_uF, zR_uF])
theorem r0_1 {k : Nat} {kk : Int32 → RO} (hk : kdz k = 0) : rI (laz Θ S ω) (gb Θ + k) 0 1 kk = kk (zF S k 1) := z_rI hk (by decide) rfl
theorem w0_1 {k : Nat} {v : Int32} {kk : OW → RO} (hk : kdz k = 0) : wF (laz Θ S ω) (gb Θ + k) 0 1 (.int v) kk = kk (laz Θ (uF S k 1 v) ω) := z_wF hk (by decide) (by show _ < 18; decide) (by simp [fzs, fz0, zF_uF, zL_uF, zR_uF])
theorem r0_2 {k : Nat} {kk : Int32 → RO} (hk : kdz k = 0) : rI (laz Θ S ω) (gb Θ + k) 0 2 kk = kk (zF S k 2) := z_rI hk (by decide) rfl
theorem w0_2 {k : Nat} {v : Int32} {kk : OW → RO} (hk : kdz k = 0) : wF (laz Θ S ω) (gb Θ + k) 0 2 (.int v) kk = kk (laz Θ (uF S k 2 v) ω) := z_wF hk (by decide) (by show _ < 18; decide) (by simp [fzs, fz0, zF_uF, zL_uF, zR_uF])
theorem r0_3 {k : Nat} {kk : Int32 → RO} (hk : kdz k = 0) : rI (laz Θ S ω) (gb Θ + k) 0 3 kk = kk (zF S k 3) := z_rI hk (by decide) rfl
theorem w0_3 {k : Nat} {v : Int32} {kk : OW → RO} (hk : kdz k = 0) : wF (laz Θ S ω) (gb Θ + k) 0 3 (.int v) kk = kk (laz Θ (uF S k 3 v) ω) := z_wF hk (by decide) (by show _ < 18; decide) (by simp [fzs, fz0, zF_uF, zL_uF, zR_uF])
theorem r0_4 {k : Nat} {kk : Int32 → RO} (hk : kdz k = 0) : rI (laz Θ S ω) (gb Θ + k) 0 4 kk = kk (zF S k 4) := z_rI hk (by decide) rfl
theorem w0_4 {k : Nat} {v : Int32} {kk : OW → RO} (hk : kdz k = 0) : wF (laz Θ S ω) (gb Θ + k) 0 4 (.int v) kk = kk (laz Θ (uF S k 4 v) ω) := z_wF hk (by decide) (by show _ < 18; decide) (by simp [fzs, fz0, zF_uF, zL_uF, zR_uF])
theorem r0_5 {k : Nat} {kk : Int32 → RO} (hk : kdz k = 0) : rI (laz Θ S ω) (gb Θ + k) 0 5 kk = kk (zF S k 5) := z_rI hk (by decide) rfl
theorem w0_5 {k : Nat} {v : Int32} {kk : OW → RO} (hk : kdz k = 0) : wF (laz Θ S ω) (gb Θ + k) 0 5 (.int v) kk = kk (laz Θ (uF S k 5 v) ω) := z_wF hk (by decide) (by show _ < 18; decide) (by simp [fzs, fz0, zF_uF, zL_uF, zR_uF])
theorem r0_6 {k : Nat} {kk : Int32 → RO} (hk : kdz k = 0) : rI (laz Θ S ω) (gb Θ + k) 0 6 kk = kk (zF S k 6) := z_rI hk (by decide) rfl
theorem w0_6 {k : Nat} {v : Int32} {kk : OW → RO} (hk : kdz k = 0) : wF (laz Θ S ω) (gb Θ + k) 0 6 (.int v) kk = kk (laz Θ (uF S k 6 v) ω) := z_wF hk (by decide) (by show _ < 18; decide) (by simp [fzs, fz0, zF_uF, zL_uF, zR_uF])
theorem r0_7 {k : Nat} {kk : Nat → RO} (hk : kdz k = 0) : rA (laz Θ S ω) (gb Θ + k) 0 7 kk = kk (gb Θ + (k + 1)) := z_rA hk (by decide) rfl
theorem r0_8 {k : Nat} {kk : Nat → RO} (hk : kdz k = 0) : rA (laz Θ S ω) (gb Θ + k) 0 8 kk = kk (gb Θ + (k + 2)) := z_rA hk (by decide) rfl
theorem r0_9 {k : Nat} {kk : Nat → RO} (hk : kdz k = 0) : rA (laz Θ S ω) (gb Θ + k) 0 9 kk = kk (gb Θ + (k + 3)) := z_rA hk (by decide) rfl
theorem r0_10 {k : Nat} {kk : Nat → RO} (hk : kdz k = 0) : rA (laz Θ S ω) (gb Θ + k) 0 10 kk = kk (gb Θ + (k + 4)) := z_rA hk (by decide) rfl
theorem r0_11 {k : Nat} {kk : Nat → RO} (hk : kdz k = 0) : rA (laz Θ S ω) (gb Θ + k) 0 11 kk = kk (gb Θ + (k + 5)) := z_rA hk (by decide) rfl
theorem r0_12 {k : Nat} {kk : Nat → RO} (hk : kdz k = 0) : rA (laz Θ S ω) (gb Θ + k) 0 12 kk = kk (gb Θ + (k + 6)) := z_rA hk (by decide) rfl
theorem r0_13 {k : Nat} {kk : Nat → RO} (hk : kdz k = 0) : rA (laz Θ S ω) (gb Θ + k) 0 13 kk = kk (gb Θ + (k + 7)) := z_rA hk (by decide) rfl
theorem r0_14 {k : Nat} {kk : Nat → RO} (hk : kdz k = 0) : rA (laz Θ S ω) (gb Θ + k) 0 14 kk = kk (gb Θ + (k + 8)) := z_rA hk (by decide) rfl
theorem r0_15 {k : Nat} {kk : Nat → RO} (hk : kdz k = 0) : rA (laz Θ S ω) (gb Θ + k) 0 15 kk = kk (gb Θ + (k + 9)) := z_rA hk (by decide) rfl
theorem r0_16 {k : Nat} {kk : Nat → RO} (hk : kdz k = 0) : rA (laz Θ S ω) (gb Θ + k) 0 16 kk = kk (gb Θ + (k + 10)) := z_rA hk (by decide) rfl
theorem r0_17 {k : Nat} {kk : Nat → RO} (hk : kdz k = 0) : rA (laz Θ S ω) (gb Θ + k) 0 17 kk = kk (zR S k 17) := z_rA hk (by decide) rfl
theorem w0_17 {k a : Nat} {kk : OW → RO} (hk : kdz k = 0) : wF (laz Θ S ω) (gb Θ + k) 0 17 (.ref a) kk = kk (laz Θ (uR S k 17 a) ω) := z_wR hk (by decide) (by show _ < 18; decide) (by simp [fzs, fz0, zR_uR, zL_uR, zF_uR])
theorem r1_0 {k : Nat} {kk : Nat → RO} (hk : kdz k = 1) : rA (laz Θ S ω) (gb Θ + k) 1 0 kk = kk (gb Θ + 1) := z_rA hk (by decide) rfl
theorem r1_1 {k : Nat} {kk : Nat → RO} (hk : kdz k = 1) : rA (laz Θ S ω) (gb Θ + k) 1 1 kk = kk (gb Θ + 26) := z_rA hk (by decide) rfl
theorem r3_0 {k : Nat} {kk : Nat → RO} (hk : kdz k = 3) : rA (laz Θ S ω) (gb Θ + k) 3 0 kk = kk (gb Θ + 1) := z_rA hk (by decide) rfl
theorem r3_1 {k : Nat} {kk : Int32 → RO} (hk : kdz k = 3) : rI (laz Θ S ω) (gb Θ + k) 3 1 kk = kk (zF S k 1) := z_rI hk (by decide) rfl
theorem w3_1 {k : Nat} {v : Int32} {kk : OW → RO} (hk : kdz k = 3) : wF (laz Θ S ω) (gb Θ + k) 3 1 (.int v) kk = kk (laz Θ (uF S k 1 v) ω) := z_wF hk (by decide) (by show _ < 7; decide) (by simp [fzs, fz3, zF_uF, zL_uF, zR_uF])
theorem r3_2 {k : Nat} {kk : Int32 → RO} (hk : kdz k = 3) : rI (laz Θ S ω) (gb Θ + k) 3 2 kk = kk (zF S k 2) := z_rI hk (by decide) rfl
theorem w3_2 {k : Nat} {v : Int32} {kk : OW → RO} (hk : kdz k = 3) : wF (laz Θ S ω) (gb Θ + k) 3 2 (.int v) kk = kk (laz Θ (uF S k 2 v) ω) := z_wF hk (by decide) (by show _ < 7; decide) (by simp [fzs, fz3, zF_uF, zL_uF, zR_uF])
theorem r3_3 {k : Nat} {kk : Nat → RO} (hk : kdz k = 3) : rA (laz Θ S ω) (gb Θ + k) 3 3 kk = kk (gb Θ + (k + 1)) := z_rA hk (by decide) rfl
theorem r3_4 {k : Nat} {kk : Nat → RO} (hk : kdz k = 3) : rA (laz Θ S ω) (gb Θ + k) 3 4 kk = kk (gb Θ + (k + 2)) := z_rA hk (by decide) rfl
theorem r3_5 {k : Nat} {kk : Nat → RO} (hk : kdz k = 3) : rA (laz Θ S ω) (gb Θ + k) 3 5 kk = kk (gb Θ + (k + 3)) := z_rA hk (by decide) rfl
theorem r3_6 {k : Nat} {kk : Nat → RO} (hk : kdz k = 3) : rA (laz Θ S ω) (gb Θ + k) 3 6 kk = kk (gb Θ + (k + 4)) := z_rA hk (by decide) rfl
theorem r4_0 {k : Nat} {kk : Int32 → RO} (hk : kdz k = 4) : rI (laz Θ S ω) (gb Θ + k) 4 0 kk = kk (zF S k 0) := z_rI hk (by decide) rfl
theorem w4_0 {k : Nat} {v : Int32} {kk : OW → RO} (hk : kdz k = 4) : wF (laz Θ S ω) (gb Θ + k) 4 0 (.int v) kk = kk (laz Θ (uF S k 0 v) ω) := z_wF hk (by decide) (by show _ < 3; decide) (by simp [fzs, fz4, zF_uF, zL_uF, zR_uF])
theorem r4_1 {k : Nat} {kk : Int32 → RO} (hk : kdz k = 4) : rI (laz Θ S ω) (gb Θ + k) 4 1 kk = kk (zF S k 1) := z_rI hk (by decide) rfl
theorem w4_1 {k : Nat} {v : Int32} {kk : OW → RO} (hk : kdz k = 4) : wF (laz Θ S ω) (gb Θ + k) 4 1 (.int v) kk = kk (laz Θ (uF S k 1 v) ω) := z_wF hk (by decide) (by show _ < 3; decide) (by simp [fzs, fz4, zF_uF, zL_uF, zR_uF])
theorem r4_2 {k : Nat} {kk : Nat → RO} (hk : kdz k = 4) : rA (laz Θ S ω) (gb Θ + k) 4 2 kk = kk (gb Θ + (k + 1)) := z_rA hk (by decide) rfl
theorem r5_0 {k : Nat} {kk : Int32 → RO} (hk : kdz k = 5) : rI (laz Θ S ω) (gb Θ + k) 5 0 kk = kk (zF S k 0) := z_rI hk (by decide) rfl
theorem w5_0 {k : Nat} {v : Int32} {kk : OW → RO} (hk : kdz k = 5) : wF (laz Θ S ω) (gb Θ + k) 5 0 (.int v) kk = kk (laz Θ (uF S k 0 v) ω) := z_wF hk (by decide) (by show _ < 3; decide) (by simp [fzs, fz5, zF_uF, zL_uF, zR_uF])
theorem r5_1 {k : Nat} {kk : Int32 → RO} (hk : kdz k = 5) : rI (laz Θ S ω) (gb Θ + k) 5 1 kk = kk (zF S k 1) := z_rI hk (by decide) rfl
theorem w5_1 {k : Nat} {v : Int32} {kk : OW → RO} (hk : kdz k = 5) : wF (laz Θ S ω) (gb Θ + k) 5 1 (.int v) kk = kk (laz Θ (uF S k 1 v) ω) := z_wF hk (by decide) (by show _ < 3; decide) (by simp [fzs, fz5, zF_uF, zL_uF, zR_uF])
theorem r5_2 {k : Nat} {kk : Nat → RO} (hk : kdz k = 5) : rA (laz Θ S ω) (gb Θ + k) 5 2 kk = kk (gb Θ + 51) := z_rA hk (by decide) rfl
theorem r6_0 {k : Nat} {kk : Nat → RO} (hk : kdz k = 6) : rA (laz Θ S ω) (gb Θ + k) 6 0 kk = kk (gb Θ + 14) := z_rA hk (by decide) rfl
theorem r6_1 {k : Nat} {kk : Nat → RO} (hk : kdz k = 6) : rA (laz Θ S ω) (gb Θ + k) 6 1 kk = kk (gb Θ + (k + 1)) := z_rA hk (by decide) rfl
theorem r6_2 {k : Nat} {kk : Nat → RO} (hk : kdz k = 6) : rA (laz Θ S ω) (gb Θ + k) 6 2 kk = kk (gb Θ + (k + 2)) := z_rA hk (by decide) rfl
theorem r6_3 {k : Nat} {kk : Int32 → RO} (hk : kdz k = 6) : rI (laz Θ S ω) (gb Θ + k) 6 3 kk = kk (zF S k 3) := z_rI hk (by decide) rfl
theorem w6_3 {k : Nat} {v : Int32} {kk : OW → RO} (hk : kdz k = 6) : wF (laz Θ S ω) (gb Θ + k) 6 3 (.int v) kk = kk (laz Θ (uF S k 3 v) ω) := z_wF hk (by decide) (by show _ < 15; decide) (by simp [fzs, fz6, zF_uF, zL_uF, zR_uF])
theorem r6_4 {k : Nat} {kk : Int32 → RO} (hk : kdz k = 6) : rI (laz Θ S ω) (gb Θ + k) 6 4 kk = kk (zF S k 4) := z_rI hk (by decide) rfl
theorem w6_4 {k : Nat} {v : Int32} {kk : OW → RO} (hk : kdz k = 6) : wF (laz Θ S ω) (gb Θ + k) 6 4 (.int v) kk = kk (laz Θ (uF S k 4 v) ω) := z_wF hk (by decide) (by show _ < 15; decide) (by simp [fzs, fz6, zF_uF, zL_uF, zR_uF])
theorem r6_5 {k : Nat} {kk : Int32 → RO} (hk : kdz k = 6) : rI (laz Θ S ω) (gb Θ + k) 6 5 kk = kk (zF S k 5) := z_rI hk (by decide) rfl
theorem w6_5 {k : Nat} {v : Int32} {kk : OW → RO} (hk : kdz k = 6) : wF (laz Θ S ω) (gb Θ + k) 6 5 (.int v) kk = kk (laz Θ (uF S k 5 v) ω) := z_wF hk (by decide) (by show _ < 15; decide) (by simp [fzs, fz6, zF_uF, zL_uF, zR_uF])
theorem r6_6 {k : Nat} {kk : Int32 → RO} (hk : kdz k = 6) : rI (laz Θ S ω) (gb Θ + k) 6 6 kk = kk (zF S k 6) := z_rI hk (by decide) rfl
theorem w6_6 {k : Nat} {v : Int32} {kk : OW → RO} (hk : kdz k = 6) : wF (laz Θ S ω) (gb Θ + k) 6 6 (.int v) kk = kk (laz Θ (uF S k 6 v) ω) := z_wF hk (by decide) (by show _ < 15; decide) (by simp [fzs, fz6, zF_uF, zL_uF, zR_uF])
theorem r6_7 {k : Nat} {kk : Int32 → RO} (hk : kdz k = 6) : rI (laz Θ S ω) (gb Θ + k) 6 7 kk = kk (zF S k 7) := z_rI hk (by decide) rfl
theorem w6_7 {k : Nat} {v : Int32} {kk : OW → RO} (hk : kdz k = 6) : wF (laz Θ S ω) (gb Θ + k) 6 7 (.int v) kk = kk (laz Θ (uF S k 7 v) ω) := z_wF hk (by decide) (by show _ < 15; decide) (by simp [fzs, fz6, zF_uF, zL_uF, zR_uF])
theorem r6_8 {k : Nat} {kk : Int32 → RO} (hk : kdz k = 6) : rI (laz Θ S ω) (gb Θ + k) 6 8 kk = kk (zF S k 8) := z_rI hk (by decide) rfl
theorem w6_8 {k : Nat} {v : Int32} {kk : OW → RO} (hk : kdz k = 6) : wF (laz Θ S ω) (gb Θ + k) 6 8 (.int v) kk = kk (laz Θ (uF S k 8 v) ω) := z_wF hk (by decide) (by show _ < 15; decide) (by simp [fzs, fz6, zF_uF, zL_uF, zR_uF])
theorem r6_9 {k : Nat} {kk : Int32 → RO} (hk : kdz k = 6) : rI (laz Θ S ω) (gb Θ + k) 6 9 kk = kk (zF S k 9) := z_rI hk (by decide) rfl
theorem w6_9 {k : Nat} {v : Int32} {kk : OW → RO} (hk : kdz k = 6) : wF (laz Θ S ω) (gb Θ + k) 6 9 (.int v) kk = kk (laz Θ (uF S k 9 v) ω) := z_wF hk (by decide) (by show _ < 15; decide) (by simp [fzs, fz6, zF_uF, zL_uF, zR_uF])
theorem r6_10 {k : Nat} {kk : Nat → RO} (hk : kdz k = 6) : rA (laz Θ S ω) (gb Θ + k) 6 10 kk = kk (gb Θ + (k + 3)) := z_rA hk (by decide) rfl
theorem r6_11 {k : Nat} {kk : Nat → RO} (hk : kdz k = 6) : rA (laz Θ S ω) (gb Θ + k) 6 11 kk = kk (gb Θ + (k + 4)) := z_rA hk (by decide) rfl
theorem r6_12 {k : Nat} {kk : Int32 → RO} (hk : kdz k = 6) : rI (laz Θ S ω) (gb Θ + k) 6 12 kk = kk (zF S k 12) := z_rI hk (by decide) rfl
theorem w6_12 {k : Nat} {v : Int32} {kk : OW → RO} (hk : kdz k = 6) : wF (laz Θ S ω) (gb Θ + k) 6 12 (.int v) kk = kk (laz Θ (uF S k 12 v) ω) := z_wF hk (by decide) (by show _ < 15; decide) (by simp [fzs, fz6, zF_uF, zL_uF, zR_uF])
theorem r6_13 {k : Nat} {kk : Int32 → RO} (hk : kdz k = 6) : rI (laz Θ S ω) (gb Θ + k) 6 13 kk = kk (zF S k 13) := z_rI hk (by decide) rfl
theorem w6_13 {k : Nat} {v : Int32} {kk : OW → RO} (hk : kdz k = 6) : wF (laz Θ S ω) (gb Θ + k) 6 13 (.int v) kk = kk (laz Θ (uF S k 13 v) ω) := z_wF hk (by decide) (by show _ < 15; decide) (by simp [fzs, fz6, zF_uF, zL_uF, zR_uF])
theorem r6_14 {k : Nat} {kk : Nat → RO} (hk : kdz k = 6) : rA (laz Θ S ω) (gb Θ + k) 6 14 kk = kk (gb Θ + (k + 5)) := z_rA hk (by decide) rfl
theorem r7_0 {k : Nat} {kk : Nat → RO} (hk : kdz k = 7) : rA (laz Θ S ω) (gb Θ + k) 7 0 kk = kk (gb Θ + 4) := z_rA hk (by decide) rfl
theorem r7_1 {k : Nat} {kk : Nat → RO} (hk : kdz k = 7) : rA (laz Θ S ω) (gb Θ + k) 7 1 kk = kk (gb Θ + 5) := z_rA hk (by decide) rfl
theorem r7_2 {k : Nat} {kk : Nat → RO} (hk : kdz k = 7) : rA (laz Θ S ω) (gb Θ + k) 7 2 kk = kk (gb Θ + 6) := z_rA hk (by decide) rfl
theorem r8_0 {k : Nat} {kk : Int32 → RO} (hk : kdz k = 8) : rI (laz Θ S ω) (gb Θ + k) 8 0 kk = kk (zF S k 0) := z_rI hk (by decide) rfl
theorem w8_0 {k : Nat} {v : Int32} {kk : OW → RO} (hk : kdz k = 8) : wF (laz Θ S ω) (gb Θ + k) 8 0 (.int v) kk = kk (laz Θ (uF S k 0 v) ω) := z_wF hk (by decide) (by show _ < 6; decide) (by simp [fzs, fz8, zF_uF, zL_uF, zR_uF])
theorem r8_1 {k : Nat} {kk : Int32 → RO} (hk : kdz k = 8) : rI (laz Θ S ω) (gb Θ + k) 8 1 kk = kk (zF S k 1) := z_rI hk (by decide) rfl
theorem w8_1 {k : Nat} {v : Int32} {kk : OW → RO} (hk : kdz k = 8) : wF (laz Θ S ω) (gb Θ + k) 8 1 (.int v) kk = kk (laz Θ (uF S k 1 v) ω) := z_wF hk (by decide) (by show _ < 6; decide) (by simp [fzs, fz8, zF_uF, zL_uF, zR_uF])
theorem r8_2 {k : Nat} {kk : Int32 → RO} (hk : kdz k = 8) : rI (laz Θ S ω) (gb Θ + k) 8 2 kk = kk (zF S k 2) := z_rI hk (by decide) rfl
theorem w8_2 {k : Nat} {v : Int32} {kk : OW → RO} (hk : kdz k = 8) : wF (laz Θ S ω) (gb Θ + k) 8 2 (.int v) kk = kk (laz Θ (uF S k 2 v) ω) := z_wF hk (by decide) (by show _ < 6; decide) (by simp [fzs, fz8, zF_uF, zL_uF, zR_uF])
theorem r8_3 {k : Nat} {kk : Int32 → RO} (hk : kdz k = 8) : rI (laz Θ S ω) (gb Θ + k) 8 3 kk = kk (zF S k 3) := z_rI hk (by decide) rfl
theorem w8_3 {k : Nat} {v : Int32} {kk : OW → RO} (hk : kdz k = 8) : wF (laz Θ S ω) (gb Θ + k) 8 3 (.int v) kk = kk (laz Θ (uF S k 3 v) ω) := z_wF hk (by decide) (by show _ < 6; decide) (by simp [fzs, fz8, zF_uF, zL_uF, zR_uF])
theorem r8_4 {k : Nat} {kk : Int64 → RO} (hk : kdz k = 8) : rL (laz Θ S ω) (gb Θ + k) 8 4 kk = kk (zL S k) := z_rL hk (by decide) rfl
theorem w8_4 {k : Nat} {v : Int64} {kk : OW → RO} (hk : kdz k = 8) : wF (laz Θ S ω) (gb Θ + k) 8 4 (.long v) kk = kk (laz Θ (uL S k v) ω) := z_wL hk (by decide) (by show _ < 6; decide) (by simp [fzs, fz8, zL_uL, zR_uL, zF_uL])
theorem r8_5 {k : Nat} {kk : Nat → RO} (hk : kdz k = 8) : rA (laz Θ S ω) (gb Θ + k) 8 5 kk = kk (gb Θ + 2) := z_rA hk (by decide) rfl
theorem r9_0 {k : Nat} {kk : Int32 → RO} (hk : kdz k = 9) : rI (laz Θ S ω) (gb Θ + k) 9 0 kk = kk (zF S k 0) := z_rI hk (by decide) rfl
theorem w9_0 {k : Nat} {v : Int32} {kk : OW → RO} (hk : kdz k = 9) : wF (laz Θ S ω) (gb Θ + k) 9 0 (.int v) kk = kk (laz Θ (uF S k 0 v) ω) := z_wF hk (by decide) (by show _ < 8; decide) (by simp [fzs, fz9, zF_uF, zL_uF, zR_uF])
theorem r9_1 {k : Nat} {kk : Nat → RO} (hk : kdz k = 9) : rA (laz Θ S ω) (gb Θ + k) 9 1 kk = kk (gb Θ + (k + 1)) := z_rA hk (by decide) rfl
theorem r9_2 {k : Nat} {kk : Int32 → RO} (hk : kdz k = 9) : rI (laz Θ S ω) (gb Θ + k) 9 2 kk = kk (zF S k 2) := z_rI hk (by decide) rfl
theorem w9_2 {k : Nat} {v : Int32} {kk : OW → RO} (hk : kdz k = 9) : wF (laz Θ S ω) (gb Θ + k) 9 2 (.int v) kk = kk (laz Θ (uF S k 2 v) ω) := z_wF hk (by decide) (by show _ < 8; decide) (by simp [fzs, fz9, zF_uF, zL_uF, zR_uF])
theorem r9_3 {k : Nat} {kk : Int32 → RO} (hk : kdz k = 9) : rI (laz Θ S ω) (gb Θ + k) 9 3 kk = kk (zF S k 3) := z_rI hk (by decide) rfl
theorem w9_3 {k : Nat} {v : Int32} {kk : OW → RO} (hk : kdz k = 9) : wF (laz Θ S ω) (gb Θ + k) 9 3 (.int v) kk = kk (laz Θ (uF S k 3 v) ω) := z_wF hk (by decide) (by show _ < 8; decide) (by simp [fzs, fz9, zF_uF, zL_uF, zR_uF])
theorem r9_4 {k : Nat} {kk : Nat → RO} (hk : kdz k = 9) : rA (laz Θ S ω) (gb Θ + k) 9 4 kk = kk (zR S k 4) := z_rA hk (by decide) rfl
theorem w9_4 {k a : Nat} {kk : OW → RO} (hk : kdz k = 9) : wF (laz Θ S ω) (gb Θ + k) 9 4 (.ref a) kk = kk (laz Θ (uR S k 4 a) ω) := z_wR hk (by decide) (by show _ < 8; decide) (by simp [fzs, fz9, zR_uR, zL_uR, zF_uR])
theorem r9_5 {k : Nat} {kk : Nat → RO} (hk : kdz k = 9) : rA (laz Θ S ω) (gb Θ + k) 9 5 kk = kk (zR S k 5) := z_rA hk (by decide) rfl
theorem w9_5 {k a : Nat} {kk : OW → RO} (hk : kdz k = 9) : wF (laz Θ S ω) (gb Θ + k) 9 5 (.ref a) kk = kk (laz Θ (uR S k 5 a) ω) := z_wR hk (by decide) (by show _ < 8; decide) (by simp [fzs, fz9, zR_uR, zL_uR, zF_uR])
theorem r9_6 {k : Nat} {kk : Nat → RO} (hk : kdz k = 9) : rA (laz Θ S ω) (gb Θ + k) 9 6 kk = kk (gb Θ + 14) := z_rA hk (by decide) rfl
theorem r9_7 {k : Nat} {kk : Nat → RO} (hk : kdz k = 9) : rA (laz Θ S ω) (gb Θ + k) 9 7 kk = kk (gb Θ + 202) := z_rA hk (by decide) rfl
theorem r11_0 {k : Nat} {kk : Int32 → RO} (hk : kdz k = 11) : rI (laz Θ S ω) (gb Θ + k) 11 0 kk = kk (zF S k 0) := z_rI hk (by decide) rfl
theorem w11_0 {k : Nat} {v : Int32} {kk : OW → RO} (hk : kdz k = 11) : wF (laz Θ S ω) (gb Θ + k) 11 0 (.int v) kk = kk (laz Θ (uF S k 0 v) ω) := z_wF hk (by decide) (by show _ < 38; decide) (by simp [fzs, fz11, zF_uF, zL_uF, zR_uF])
theorem r11_1 {k : Nat} {kk : Nat → RO} (hk : kdz k = 11) : rA (laz Θ S ω) (gb Θ + k) 11 1 kk = kk (gb Θ + 219) := z_rA hk (by decide) rfl
theorem r11_2 {k : Nat} {kk : Nat → RO} (hk : kdz k = 11) : rA (laz Θ S ω) (gb Θ + k) 11 2 kk = kk (gb Θ + 220) := z_rA hk (by decide) rfl
theorem r11_3 {k : Nat} {kk : Nat → RO} (hk : kdz k = 11) : rA (laz Θ S ω) (gb Θ + k) 11 3 kk = kk (gb Θ + 221) := z_rA hk (by decide) rfl
theorem r11_4 {k : Nat} {kk : Nat → RO} (hk : kdz k = 11) : rA (laz Θ S ω) (gb Θ + k) 11 4 kk = kk (gb Θ + 222) := z_rA hk (by decide) rfl
theorem r11_5 {k : Nat} {kk : Nat → RO} (hk : kdz k = 11) : rA (laz Θ S ω) (gb Θ + k) 11 5 kk = kk (gb Θ + 223) := z_rA hk (by decide) rfl
theorem r11_6 {k : Nat} {kk : Int32 → RO} (hk : kdz k = 11) : rI (laz Θ S ω) (gb Θ + k) 11 6 kk = kk (zF S k 6) := z_rI hk (by decide) rfl
theorem w11_6 {k : Nat} {v : Int32} {kk : OW → RO} (hk : kdz k = 11) : wF (laz Θ S ω) (gb Θ + k) 11 6 (.int v) kk = kk (laz Θ (uF S k 6 v) ω) := z_wF hk (by decide) (by show _ < 38; decide) (by simp [fzs, fz11, zF_uF, zL_uF, zR_uF])
theorem r11_7 {k : Nat} {kk : Int32 → RO} (hk : kdz k = 11) : rI (laz Θ S ω) (gb Θ + k) 11 7 kk = kk (zF S k 7) := z_rI hk (by decide) rfl
theorem w11_7 {k : Nat} {v : Int32} {kk : OW → RO} (hk : kdz k = 11) : wF (laz Θ S ω) (gb Θ + k) 11 7 (.int v) kk = kk (laz Θ (uF S k 7 v) ω) := z_wF hk (by decide) (by show _ < 38; decide) (by simp [fzs, fz11, zF_uF, zL_uF, zR_uF])
theorem r11_8 {k : Nat} {kk : Nat → RO} (hk : kdz k = 11) : rA (laz Θ S ω) (gb Θ + k) 11 8 kk = kk (gb Θ + 224) := z_rA hk (by decide) rfl
theorem r11_9 {k : Nat} {kk : Int32 → RO} (hk : kdz k = 11) : rI (laz Θ S ω) (gb Θ + k) 11 9 kk = kk (zF S k 9) := z_rI hk (by decide) rfl
theorem w11_9 {k : Nat} {v : Int32} {kk : OW → RO} (hk : kdz k = 11) : wF (laz Θ S ω) (gb Θ + k) 11 9 (.int v) kk = kk (laz Θ (uF S k 9 v) ω) := z_wF hk (by decide) (by show _ < 38; decide) (by simp [fzs, fz11, zF_uF, zL_uF, zR_uF])
theorem r11_10 {k : Nat} {kk : Int32 → RO} (hk : kdz k = 11) : rI (laz Θ S ω) (gb Θ + k) 11 10 kk = kk (zF S k 10) := z_rI hk (by decide) rfl
theorem w11_10 {k : Nat} {v : Int32} {kk : OW → RO} (hk : kdz k = 11) : wF (laz Θ S ω) (gb Θ + k) 11 10 (.int v) kk = kk (laz Θ (uF S k 10 v) ω) := z_wF hk (by decide) (by show _ < 38; decide) (by simp [fzs, fz11, zF_uF, zL_uF, zR_uF])
theorem r11_11 {k : Nat} {kk : Int32 → RO} (hk : kdz k = 11) : rI (laz Θ S ω) (gb Θ + k) 11 11 kk = kk (zF S k 11) := z_rI hk (by decide) rfl
theorem w11_11 {k : Nat} {v : Int32} {kk : OW → RO} (hk : kdz k = 11) : wF (laz Θ S ω) (gb Θ + k) 11 11 (.int v) kk = kk (laz Θ (uF S k 11 v) ω) := z_wF hk (by decide) (by show _ < 38; decide) (by simp [fzs, fz11, zF_uF, zL_uF, zR_uF])
theorem r11_12 {k : Nat} {kk : Int32 → RO} (hk : kdz k = 11) : rI (laz Θ S ω) (gb Θ + k) 11 12 kk = kk (zF S k 12) := z_rI hk (by decide) rfl
theorem w11_12 {k : Nat} {v : Int32} {kk : OW → RO} (hk : kdz k = 11) : wF (laz Θ S ω) (gb Θ + k) 11 12 (.int v) kk = kk (laz Θ (uF S k 12 v) ω) := z_wF hk (by decide) (by show _ < 38; decide) (by simp [fzs, fz11, zF_uF, zL_uF, zR_uF])
theorem r11_13 {k : Nat} {kk : Int32 → RO} (hk : kdz k = 11) : rI (laz Θ S ω) (gb Θ + k) 11 13 kk = kk (zF S k 13) := z_rI hk (by decide) rfl
theorem w11_13 {k : Nat} {v : Int32} {kk : OW → RO} (hk : kdz k = 11) : wF (laz Θ S ω) (gb Θ + k) 11 13 (.int v) kk = kk (laz Θ (uF S k 13 v) ω) := z_wF hk (by decide) (by show _ < 38; decide) (by simp [fzs, fz11, zF_uF, zL_uF, zR_uF])
theorem r11_14 {k : Nat} {kk : Int32 → RO} (hk : kdz k = 11) : rI (laz Θ S ω) (gb Θ + k) 11 14 kk = kk (zF S k 14) := z_rI hk (by decide) rfl
theorem w11_14 {k : Nat} {v : Int32} {kk : OW → RO} (hk : kdz k = 11) : wF (laz Θ S ω) (gb Θ + k) 11 14 (.int v) kk = kk (laz Θ (uF S k 14 v) ω) := z_wF hk (by decide) (by show _ < 38; decide) (by simp [fzs, fz11, zF_uF, zL_uF, zR_uF])
theorem r11_15 {k : Nat} {kk : Nat → RO} (hk : kdz k = 11) : rA (laz Θ S ω) (gb Θ + k) 11 15 kk = kk (gb Θ + 225) := z_rA hk (by decide) rfl
theorem r11_16 {k : Nat} {kk : Int32 → RO} (hk : kdz k = 11) : rI (laz Θ S ω) (gb Θ + k) 11 16 kk = kk (zF S k 16) := z_rI hk (by decide) rfl
theorem w11_16 {k : Nat} {v : Int32} {kk : OW → RO} (hk : kdz k = 11) : wF (laz Θ S ω) (gb Θ + k) 11 16 (.int v) kk = kk (laz Θ (uF S k 16 v) ω) := z_wF hk (by decide) (by show _ < 38; decide) (by simp [fzs, fz11, zF_uF, zL_uF, zR_uF])
theorem r11_17 {k : Nat} {kk : Nat → RO} (hk : kdz k = 11) : rA (laz Θ S ω) (gb Θ + k) 11 17 kk = kk (gb Θ + 226) := z_rA hk (by decide) rfl
theorem r11_18 {k : Nat} {kk : Int32 → RO} (hk : kdz k = 11) : rI (laz Θ S ω) (gb Θ + k) 11 18 kk = kk (zF S k 18) := z_rI hk (by decide) rfl
theorem w11_18 {k : Nat} {v : Int32} {kk : OW → RO} (hk : kdz k = 11) : wF (laz Θ S ω) (gb Θ + k) 11 18 (.int v) kk = kk (laz Θ (uF S k 18 v) ω) := z_wF hk (by decide) (by show _ < 38; decide) (by simp [fzs, fz11, zF_uF, zL_uF, zR_uF])
theorem r11_19 {k : Nat} {kk : Int32 → RO} (hk : kdz k = 11) : rI (laz Θ S ω) (gb Θ + k) 11 19 kk = kk (zF S k 19) := z_rI hk (by decide) rfl
theorem w11_19 {k : Nat} {v : Int32} {kk : OW → RO} (hk : kdz k = 11) : wF (laz Θ S ω) (gb Θ + k) 11 19 (.int v) kk = kk (laz Θ (uF S k 19 v) ω) := z_wF hk (by decide) (by show _ < 38; decide) (by simp [fzs, fz11, zF_uF, zL_uF, zR_uF])
theorem r11_20 {k : Nat} {kk : Int32 → RO} (hk : kdz k = 11) : rI (laz Θ S ω) (gb Θ + k) 11 20 kk = kk (zF S k 20) := z_rI hk (by decide) rfl
theorem w11_20 {k : Nat} {v : Int32} {kk : OW → RO} (hk : kdz k = 11) : wF (laz Θ S ω) (gb Θ + k) 11 20 (.int v) kk = kk (laz Θ (uF S k 20 v) ω) := z_wF hk (by decide) (by show _ < 38; decide) (by simp [fzs, fz11, zF_uF, zL_uF, zR_uF])
theorem r11_21 {k : Nat} {kk : Int32 → RO} (hk : kdz k = 11) : rI (laz Θ S ω) (gb Θ + k) 11 21 kk = kk (zF S k 21) := z_rI hk (by decide) rfl
theorem w11_21 {k : Nat} {v : Int32} {kk : OW → RO} (hk : kdz k = 11) : wF (laz Θ S ω) (gb Θ + k) 11 21 (.int v) kk = kk (laz Θ (uF S k 21 v) ω) := z_wF hk (by decide) (by show _ < 38; decide) (by simp [fzs, fz11, zF_uF, zL_uF, zR_uF])
theorem r11_22 {k : Nat} {kk : Int32 → RO} (hk : kdz k = 11) : rI (laz Θ S ω) (gb Θ + k) 11 22 kk = kk (zF S k 22) := z_rI hk (by decide) rfl
theorem w11_22 {k : Nat} {v : Int32} {kk : OW → RO} (hk : kdz k = 11) : wF (laz Θ S ω) (gb Θ + k) 11 22 (.int v) kk = kk (laz Θ (uF S k 22 v) ω) := z_wF hk (by decide) (by show _ < 38; decide) (by simp [fzs, fz11, zF_uF, zL_uF, zR_uF])
theorem r11_23 {k : Nat} {kk : Int32 → RO} (hk : kdz k = 11) : rI (laz Θ S ω) (gb Θ + k) 11 23 kk = kk (zF S k 23) := z_rI hk (by decide) rfl
theorem w11_23 {k : Nat} {v : Int32} {kk : OW → RO} (hk : kdz k = 11) : wF (laz Θ S ω) (gb Θ + k) 11 23 (.int v) kk = kk (laz Θ (uF S k 23 v) ω) := z_wF hk (by decide) (by show _ < 38; decide) (by simp [fzs, fz11, zF_uF, zL_uF, zR_uF])
theorem r11_24 {k : Nat} {kk : Int32 → RO} (hk : kdz k = 11) : rI (laz Θ S ω) (gb Θ + k) 11 24 kk = kk (zF S k 24) := z_rI hk (by decide) rfl
theorem w11_24 {k : Nat} {v : Int32} {kk : OW → RO} (hk : kdz k = 11) : wF (laz Θ S ω) (gb Θ + k) 11 24 (.int v) kk = kk (laz Θ (uF S k 24 v) ω) := z_wF hk (by decide) (by show _ < 38; decide) (by simp [fzs, fz11, zF_uF, zL_uF, zR_uF])
theorem r11_25 {k : Nat} {kk : Nat → RO} (hk : kdz k = 11) : rA (laz Θ S ω) (gb Θ + k) 11 25 kk = kk (gb Θ + 227) := z_rA hk (by decide) rfl
theorem r11_26 {k : Nat} {kk : Nat → RO} (hk : kdz k = 11) : rA (laz Θ S ω) (gb Θ + k) 11 26 kk = kk (gb Θ + 228) := z_rA hk (by decide) rfl
theorem r11_27 {k : Nat} {kk : Nat → RO} (hk : kdz k = 11) : rA (laz Θ S ω) (gb Θ + k) 11 27 kk = kk (gb Θ + 229) := z_rA hk (by decide) rfl
theorem r11_28 {k : Nat} {kk : Int32 → RO} (hk : kdz k = 11) : rI (laz Θ S ω) (gb Θ + k) 11 28 kk = kk (zF S k 28) := z_rI hk (by decide) rfl
theorem w11_28 {k : Nat} {v : Int32} {kk : OW → RO} (hk : kdz k = 11) : wF (laz Θ S ω) (gb Θ + k) 11 28 (.int v) kk = kk (laz Θ (uF S k 28 v) ω) := z_wF hk (by decide) (by show _ < 38; decide) (by simp [fzs, fz11, zF_uF, zL_uF, zR_uF])
theorem r11_29 {k : Nat} {kk : Int32 → RO} (hk : kdz k = 11) : rI (laz Θ S ω) (gb Θ + k) 11 29 kk = kk (zF S k 29) := z_rI hk (by decide) rfl
theorem w11_29 {k : Nat} {v : Int32} {kk : OW → RO} (hk : kdz k = 11) : wF (laz Θ S ω) (gb Θ + k) 11 29 (.int v) kk = kk (laz Θ (uF S k 29 v) ω) := z_wF hk (by decide) (by show _ < 38; decide) (by simp [fzs, fz11, zF_uF, zL_uF, zR_uF])
theorem r11_30 {k : Nat} {kk : Int32 → RO} (hk : kdz k = 11) : rI (laz Θ S ω) (gb Θ + k) 11 30 kk = kk (zF S k 30) := z_rI hk (by decide) rfl
theorem w11_30 {k : Nat} {v : Int32} {kk : OW → RO} (hk : kdz k = 11) : wF (laz Θ S ω) (gb Θ + k) 11 30 (.int v) kk = kk (laz Θ (uF S k 30 v) ω) := z_wF hk (by decide) (by show _ < 38; decide) (by simp [fzs, fz11, zF_uF, zL_uF, zR_uF])
theorem r11_31 {k : Nat} {kk : Int32 → RO} (hk : kdz k = 11) : rI (laz Θ S ω) (gb Θ + k) 11 31 kk = kk (zF S k 31) := z_rI hk (by decide) rfl
theorem w11_31 {k : Nat} {v : Int32} {kk : OW → RO} (hk : kdz k = 11) : wF (laz Θ S ω) (gb Θ + k) 11 31 (.int v) kk = kk (laz Θ (uF S k 31 v) ω) := z_wF hk (by decide) (by show _ < 38; decide) (by simp [fzs, fz11, zF_uF, zL_uF, zR_uF])
theorem r11_32 {k : Nat} {kk : Int32 → RO} (hk : kdz k = 11) : rI (laz Θ S ω) (gb Θ + k) 11 32 kk = kk (zF S k 32) := z_rI hk (by decide) rfl
theorem w11_32 {k : Nat} {v : Int32} {kk : OW → RO} (hk : kdz k = 11) : wF (laz Θ S ω) (gb Θ + k) 11 32 (.int v) kk = kk (laz Θ (uF S k 32 v) ω) := z_wF hk (by decide) (by show _ < 38; decide) (by simp [fzs, fz11, zF_uF, zL_uF, zR_uF])
theorem r11_33 {k : Nat} {kk : Nat → RO} (hk : kdz k = 11) : rA (laz Θ S ω) (gb Θ + k) 11 33 kk = kk (gb Θ + 230) := z_rA hk (by decide) rfl
theorem r11_34 {k : Nat} {kk : Nat → RO} (hk : kdz k = 11) : rA (laz Θ S ω) (gb Θ + k) 11 34 kk = kk (gb Θ + 231) := z_rA hk (by decide) rfl
theorem r11_35 {k : Nat} {kk : Nat → RO} (hk : kdz k = 11) : rA (laz Θ S ω) (gb Θ + k) 11 35 kk = kk (gb Θ + 232) := z_rA hk (by decide) rfl
theorem r11_36 {k : Nat} {kk : Int32 → RO} (hk : kdz k = 11) : rI (laz Θ S ω) (gb Θ + k) 11 36 kk = kk (zF S k 36) := z_rI hk (by decide) rfl
theorem w11_36 {k : Nat} {v : Int32} {kk : OW → RO} (hk : kdz k = 11) : wF (laz Θ S ω) (gb Θ + k) 11 36 (.int v) kk = kk (laz Θ (uF S k 36 v) ω) := z_wF hk (by decide) (by show _ < 38; decide) (by simp [fzs, fz11, zF_uF, zL_uF, zR_uF])
theorem r11_37 {k : Nat} {kk : Nat → RO} (hk : kdz k = 11) : rA (laz Θ S ω) (gb Θ + k) 11 37 kk = kk (gb Θ + 233) := z_rA hk (by decide) rfl
theorem r10_0 {kk : Nat → RO} : rA (laz Θ S ω) (gb Θ) 10 0 kk = kk (gb Θ + 14) := z_rA (k := 0) rfl (by decide) rfl
theorem r10_1 {kk : Nat → RO} : rA (laz Θ S ω) (gb Θ) 10 1 kk = kk (gb Θ + 26) := z_rA (k := 0) rfl (by decide) rfl
theorem r10_2 {kk : Nat → RO} : rA (laz Θ S ω) (gb Θ) 10 2 kk = kk (gb Θ + 38) := z_rA (k := 0) rfl (by decide) rfl
theorem r10_3 {kk : Int32 → RO} : rI (laz Θ S ω) (gb Θ) 10 3 kk = kk (zF S 0 3) := z_rI (k := 0) rfl (by decide) rfl
theorem w10_3 {v : Int32} {kk : OW → RO} : wF (laz Θ S ω) (gb Θ) 10 3 (.int v) kk = kk (laz Θ (uF S 0 3 v) ω) := z_wF (k := 0) rfl (by decide) (by show _ < 15; decide) (by simp [fzs, fz10, zF_uF, zL_uF, zR_uF])
theorem r10_4 {kk : Nat → RO} : rA (laz Θ S ω) (gb Θ) 10 4 kk = kk (gb Θ + 50) := z_rA (k := 0) rfl (by decide) rfl
theorem r10_5 {kk : Nat → RO} : rA (laz Θ S ω) (gb Θ) 10 5 kk = kk (gb Θ + 1) := z_rA (k := 0) rfl (by decide) rfl
theorem r10_6 {kk : Nat → RO} : rA (laz Θ S ω) (gb Θ) 10 6 kk = kk (gb Θ + 196) := z_rA (k := 0) rfl (by decide) rfl
theorem r10_7 {kk : Nat → RO} : rA (laz Θ S ω) (gb Θ) 10 7 kk = kk (gb Θ + 197) := z_rA (k := 0) rfl (by decide) rfl
theorem r10_8 {kk : Nat → RO} : rA (laz Θ S ω) (gb Θ) 10 8 kk = kk (gb Θ + 202) := z_rA (k := 0) rfl (by decide) rfl
theorem r10_9 {kk : Nat → RO} : rA (laz Θ S ω) (gb Θ) 10 9 kk = kk (gb Θ + 208) := z_rA (k := 0) rfl (by decide) rfl
theorem r10_10 {kk : Nat → RO} : rA (laz Θ S ω) (gb Θ) 10 10 kk = kk (gb Θ + 214) := z_rA (k := 0) rfl (by decide) rfl
theorem r10_11 {kk : Nat → RO} : rA (laz Θ S ω) (gb Θ) 10 11 kk = kk (gb Θ + 3) := z_rA (k := 0) rfl (by decide) rfl
theorem r10_12 {kk : Nat → RO} : rA (laz Θ S ω) (gb Θ) 10 12 kk = kk (gb Θ + 7) := z_rA (k := 0) rfl (by decide) rfl
theorem r10_13 {kk : Nat → RO} : rA (laz Θ S ω) (gb Θ) 10 13 kk = kk (gb Θ + 8) := z_rA (k := 0) rfl (by decide) rfl
theorem r10_14 {kk : Int32 → RO} : rI (laz Θ S ω) (gb Θ) 10 14 kk = kk (zF S 0 14) := z_rI (k := 0) rfl (by decide) rfl
theorem w10_14 {v : Int32} {kk : OW → RO} : wF (laz Θ S ω) (gb Θ) 10 14 (.int v) kk = kk (laz Θ (uF S 0 14 v) ω) := z_wF (k := 0) rfl (by decide) (by show _ < 15; decide) (by simp [fzs, fz10, zF_uF, zL_uF, zR_uF])
theorem c10 {r : RO} : cO (laz Θ S ω) (gb Θ) 10 r = r := z_cO (k := 0) rfl (by decide)
theorem c0 {k : Nat} {r : RO} (hk : kdz k = 0) : cO (laz Θ S ω) (gb Θ + k) 0 r = r := z_cO hk (by decide)
theorem c1 {k : Nat} {r : RO} (hk : kdz k = 1) : cO (laz Θ S ω) (gb Θ + k) 1 r = r := z_cO hk (by decide)
theorem c3 {k : Nat} {r : RO} (hk : kdz k = 3) : cO (laz Θ S ω) (gb Θ + k) 3 r = r := z_cO hk (by decide)
theorem c4 {k : Nat} {r : RO} (hk : kdz k = 4) : cO (laz Θ S ω) (gb Θ + k) 4 r = r := z_cO hk (by decide)
theorem c5 {k : Nat} {r : RO} (hk : kdz k = 5) : cO (laz Θ S ω) (gb Θ + k) 5 r = r := z_cO hk (by decide)
theorem c6 {k : Nat} {r : RO} (hk : kdz k = 6) : cO (laz Θ S ω) (gb Θ + k) 6 r = r := z_cO hk (by decide)
theorem c7 {k : Nat} {r : RO} (hk : kdz k = 7) : cO (laz Θ S ω) (gb Θ + k) 7 r = r := z_cO hk (by decide)
theorem c8 {k : Nat} {r : RO} (hk : kdz k = 8) : cO (laz Θ S ω) (gb Θ + k) 8 r = r := z_cO hk (by decide)
theorem c9 {k : Nat} {r : RO} (hk : kdz k = 9) : cO (laz Θ S ω) (gb Θ + k) 9 r = r := z_cO hk (by decide)
theorem c11 {k : Nat} {r : RO} (hk : kdz k = 11) : cO (laz Θ S ω) (gb Θ + k) 11 r = r := z_cO hk (by decide)
theorem c10w {r : Option (Int32 × OW)} : cOw (laz Θ S ω) (gb Θ) 10 r = r := by
  have e : laz Θ S ω (gb Θ) = some (.inr (10, fzs Θ S 0 10)) := laz_at Θ S ω (k := 0) (by decide)
  unfold cOw
  rw [e]
  exact if_pos rfl
theorem l_2 {i : Nat} {kk : Int32 → RO} (h : i < 400) : lI (laz Θ S ω) (gI Θ) (gb Θ + 2) (nI i) kk = kk (zA S 2 i) := z_lI rfl h (by decide)
theorem s_2 {i : Nat} {x : Int32} {kk : OW → RO} (h : i < 400) : sI (laz Θ S ω) (gI Θ) (gb Θ + 2) (nI i) x kk = kk (laz Θ (uA S 2 (upd (zA S 2) i x)) ω) := z_sI rfl h (by decide)
theorem l_5 {i : Nat} {kk : Int32 → RO} (h : i < 640) : lI (laz Θ S ω) (gI Θ) (gb Θ + 5) (nI i) kk = kk (zA S 5 i) := z_lI rfl h (by decide)
theorem s_5 {i : Nat} {x : Int32} {kk : OW → RO} (h : i < 640) : sI (laz Θ S ω) (gI Θ) (gb Θ + 5) (nI i) x kk = kk (laz Θ (uA S 5 (upd (zA S 5) i x)) ω) := z_sI rfl h (by decide)
theorem l_6 {i : Nat} {kk : Int32 → RO} (h : i < 381) : lI (laz Θ S ω) (gI Θ) (gb Θ + 6) (nI i) kk = kk (zA S 6 i) := z_lI rfl h (by decide)
theorem s_6 {i : Nat} {x : Int32} {kk : OW → RO} (h : i < 381) : sI (laz Θ S ω) (gI Θ) (gb Θ + 6) (nI i) x kk = kk (laz Θ (uA S 6 (upd (zA S 6) i x)) ω) := z_sI rfl h (by decide)
theorem l_7 {i : Nat} {kk : Int32 → RO} (h : i < 10) : lI (laz Θ S ω) (gI Θ) (gb Θ + 7) (nI i) kk = kk (zA S 7 i) := z_lI rfl h (by decide)
theorem s_7 {i : Nat} {x : Int32} {kk : OW → RO} (h : i < 10) : sI (laz Θ S ω) (gI Θ) (gb Θ + 7) (nI i) x kk = kk (laz Θ (uA S 7 (upd (zA S 7) i x)) ω) := z_sI rfl h (by decide)
theorem l_8 {i : Nat} {kk : Int32 → RO} (h : i < 9) : lI (laz Θ S ω) (gI Θ) (gb Θ + 8) (nI i) kk = kk (zA S 8 i) := z_lI rfl h (by decide)
theorem s_8 {i : Nat} {x : Int32} {kk : OW → RO} (h : i < 9) : sI (laz Θ S ω) (gI Θ) (gb Θ + 8) (nI i) x kk = kk (laz Θ (uA S 8 (upd (zA S 8) i x)) ω) := z_sI rfl h (by decide)
theorem l_15 {i : Nat} {kk : Int32 → RO} (h : i < 8) : lI (laz Θ S ω) (gI Θ) (gb Θ + 15) (nI i) kk = kk (zA S 15 i) := z_lI rfl h (by decide)
theorem s_15 {i : Nat} {x : Int32} {kk : OW → RO} (h : i < 8) : sI (laz Θ S ω) (gI Θ) (gb Θ + 15) (nI i) x kk = kk (laz Θ (uA S 15 (upd (zA S 15) i x)) ω) := z_sI rfl h (by decide)
theorem l_16 {i : Nat} {kk : Int32 → RO} (h : i < 8) : lI (laz Θ S ω) (gI Θ) (gb Θ + 16) (nI i) kk = kk (zA S 16 i) := z_lI rfl h (by decide)
theorem s_16 {i : Nat} {x : Int32} {kk : OW → RO} (h : i < 8) : sI (laz Θ S ω) (gI Θ) (gb Θ + 16) (nI i) x kk = kk (laz Θ (uA S 16 (upd (zA S 16) i x)) ω) := z_sI rfl h (by decide)
theorem l_17 {i : Nat} {kk : Int32 → RO} (h : i < 8) : lI (laz Θ S ω) (gI Θ) (gb Θ + 17) (nI i) kk = kk (zA S 17 i) := z_lI rfl h (by decide)
theorem s_17 {i : Nat} {x : Int32} {kk : OW → RO} (h : i < 8) : sI (laz Θ S ω) (gI Θ) (gb Θ + 17) (nI i) x kk = kk (laz Θ (uA S 17 (upd (zA S 17) i x)) ω) := z_sI rfl h (by decide)
theorem l_18 {i : Nat} {kk : Int32 → RO} (h : i < 8) : lI (laz Θ S ω) (gI Θ) (gb Θ + 18) (nI i) kk = kk (zA S 18 i) := z_lI rfl h (by decide)
theorem s_18 {i : Nat} {x : Int32} {kk : OW → RO} (h : i < 8) : sI (laz Θ S ω) (gI Θ) (gb Θ + 18) (nI i) x kk = kk (laz Θ (uA S 18 (upd (zA S 18) i x)) ω) := z_sI rfl h (by decide)
theorem l_19 {i : Nat} {kk : Int32 → RO} (h : i < 10) : lI (laz Θ S ω) (gI Θ) (gb Θ + 19) (nI i) kk = kk (zA S 19 i) := z_lI rfl h (by decide)
theorem s_19 {i : Nat} {x : Int32} {kk : OW → RO} (h : i < 10) : sI (laz Θ S ω) (gI Θ) (gb Θ + 19) (nI i) x kk = kk (laz Θ (uA S 19 (upd (zA S 19) i x)) ω) := z_sI rfl h (by decide)
theorem l_20 {i : Nat} {kk : Int32 → RO} (h : i < 6) : lI (laz Θ S ω) (gI Θ) (gb Θ + 20) (nI i) kk = kk (zA S 20 i) := z_lI rfl h (by decide)
theorem s_20 {i : Nat} {x : Int32} {kk : OW → RO} (h : i < 6) : sI (laz Θ S ω) (gI Θ) (gb Θ + 20) (nI i) x kk = kk (laz Θ (uA S 20 (upd (zA S 20) i x)) ω) := z_sI rfl h (by decide)
theorem l_21 {i : Nat} {kk : Int32 → RO} (h : i < 6) : lI (laz Θ S ω) (gI Θ) (gb Θ + 21) (nI i) kk = kk (zA S 21 i) := z_lI rfl h (by decide)
theorem s_21 {i : Nat} {x : Int32} {kk : OW → RO} (h : i < 6) : sI (laz Θ S ω) (gI Θ) (gb Θ + 21) (nI i) x kk = kk (laz Θ (uA S 21 (upd (zA S 21) i x)) ω) := z_sI rfl h (by decide)
theorem l_22 {i : Nat} {kk : Int32 → RO} (h : i < 6) : lI (laz Θ S ω) (gI Θ) (gb Θ + 22) (nI i) kk = kk (zA S 22 i) := z_lI rfl h (by decide)
theorem s_22 {i : Nat} {x : Int32} {kk : OW → RO} (h : i < 6) : sI (laz Θ S ω) (gI Θ) (gb Θ + 22) (nI i) x kk = kk (laz Θ (uA S 22 (upd (zA S 22) i x)) ω) := z_sI rfl h (by decide)
theorem l_23 {i : Nat} {kk : Int32 → RO} (h : i < 6) : lI (laz Θ S ω) (gI Θ) (gb Θ + 23) (nI i) kk = kk (zA S 23 i) := z_lI rfl h (by decide)
theorem s_23 {i : Nat} {x : Int32} {kk : OW → RO} (h : i < 6) : sI (laz Θ S ω) (gI Θ) (gb Θ + 23) (nI i) x kk = kk (laz Θ (uA S 23 (upd (zA S 23) i x)) ω) := z_sI rfl h (by decide)
theorem l_25 {i : Nat} {kk : Int32 → RO} (h : i < 240) : lI (laz Θ S ω) (gI Θ) (gb Θ + 25) (nI i) kk = kk (zA S 25 i) := z_lI rfl h (by decide)
theorem s_25 {i : Nat} {x : Int32} {kk : OW → RO} (h : i < 240) : sI (laz Θ S ω) (gI Θ) (gb Θ + 25) (nI i) x kk = kk (laz Θ (uA S 25 (upd (zA S 25) i x)) ω) := z_sI rfl h (by decide)
theorem l_198 {i : Nat} {kk : Int32 → RO} (h : i < 12) : lI (laz Θ S ω) (gI Θ) (gb Θ + 198) (nI i) kk = kk (zA S 198 i) := z_lI rfl h (by decide)
theorem s_198 {i : Nat} {x : Int32} {kk : OW → RO} (h : i < 12) : sI (laz Θ S ω) (gI Θ) (gb Θ + 198) (nI i) x kk = kk (laz Θ (uA S 198 (upd (zA S 198) i x)) ω) := z_sI rfl h (by decide)
theorem l_199 {i : Nat} {kk : Int32 → RO} (h : i < 12) : lI (laz Θ S ω) (gI Θ) (gb Θ + 199) (nI i) kk = kk (zA S 199 i) := z_lI rfl h (by decide)
theorem s_199 {i : Nat} {x : Int32} {kk : OW → RO} (h : i < 12) : sI (laz Θ S ω) (gI Θ) (gb Θ + 199) (nI i) x kk = kk (laz Θ (uA S 199 (upd (zA S 199) i x)) ω) := z_sI rfl h (by decide)
theorem l_200 {i : Nat} {kk : Int32 → RO} (h : i < 13) : lI (laz Θ S ω) (gI Θ) (gb Θ + 200) (nI i) kk = kk (zA S 200 i) := z_lI rfl h (by decide)
theorem s_200 {i : Nat} {x : Int32} {kk : OW → RO} (h : i < 13) : sI (laz Θ S ω) (gI Θ) (gb Θ + 200) (nI i) x kk = kk (laz Θ (uA S 200 (upd (zA S 200) i x)) ω) := z_sI rfl h (by decide)
theorem l_201 {i : Nat} {kk : Int32 → RO} (h : i < 408) : lI (laz Θ S ω) (gI Θ) (gb Θ + 201) (nI i) kk = kk (zA S 201 i) := z_lI rfl h (by decide)
theorem s_201 {i : Nat} {x : Int32} {kk : OW → RO} (h : i < 408) : sI (laz Θ S ω) (gI Θ) (gb Θ + 201) (nI i) x kk = kk (laz Θ (uA S 201 (upd (zA S 201) i x)) ω) := z_sI rfl h (by decide)
theorem l_203 {i : Nat} {kk : Int32 → RO} (h : i < 10) : lI (laz Θ S ω) (gI Θ) (gb Θ + 203) (nI i) kk = kk (zA S 203 i) := z_lI rfl h (by decide)
theorem s_203 {i : Nat} {x : Int32} {kk : OW → RO} (h : i < 10) : sI (laz Θ S ω) (gI Θ) (gb Θ + 203) (nI i) x kk = kk (laz Θ (uA S 203 (upd (zA S 203) i x)) ω) := z_sI rfl h (by decide)
theorem l_204 {i : Nat} {kk : Int32 → RO} (h : i < 8) : lI (laz Θ S ω) (gI Θ) (gb Θ + 204) (nI i) kk = kk (zA S 204 i) := z_lI rfl h (by decide)
theorem s_204 {i : Nat} {x : Int32} {kk : OW → RO} (h : i < 8) : sI (laz Θ S ω) (gI Θ) (gb Θ + 204) (nI i) x kk = kk (laz Θ (uA S 204 (upd (zA S 204) i x)) ω) := z_sI rfl h (by decide)
theorem l_205 {i : Nat} {kk : Int32 → RO} (h : i < 10) : lI (laz Θ S ω) (gI Θ) (gb Θ + 205) (nI i) kk = kk (zA S 205 i) := z_lI rfl h (by decide)
theorem s_205 {i : Nat} {x : Int32} {kk : OW → RO} (h : i < 10) : sI (laz Θ S ω) (gI Θ) (gb Θ + 205) (nI i) x kk = kk (laz Θ (uA S 205 (upd (zA S 205) i x)) ω) := z_sI rfl h (by decide)
theorem l_206 {i : Nat} {kk : Int32 → RO} (h : i < 10) : lI (laz Θ S ω) (gI Θ) (gb Θ + 206) (nI i) kk = kk (zA S 206 i) := z_lI rfl h (by decide)
theorem s_206 {i : Nat} {x : Int32} {kk : OW → RO} (h : i < 10) : sI (laz Θ S ω) (gI Θ) (gb Θ + 206) (nI i) x kk = kk (laz Θ (uA S 206 (upd (zA S 206) i x)) ω) := z_sI rfl h (by decide)
theorem l_207 {i : Nat} {kk : Int32 → RO} (h : i < 8) : lI (laz Θ S ω) (gI Θ) (gb Θ + 207) (nI i) kk = kk (zA S 207 i) := z_lI rfl h (by decide)
theorem s_207 {i : Nat} {x : Int32} {kk : OW → RO} (h : i < 8) : sI (laz Θ S ω) (gI Θ) (gb Θ + 207) (nI i) x kk = kk (laz Θ (uA S 207 (upd (zA S 207) i x)) ω) := z_sI rfl h (by decide)
theorem l_209 {i : Nat} {kk : Int32 → RO} (h : i < 10) : lI (laz Θ S ω) (gI Θ) (gb Θ + 209) (nI i) kk = kk (zA S 209 i) := z_lI rfl h (by decide)
theorem s_209 {i : Nat} {x : Int32} {kk : OW → RO} (h : i < 10) : sI (laz Θ S ω) (gI Θ) (gb Θ + 209) (nI i) x kk = kk (laz Θ (uA S 209 (upd (zA S 209) i x)) ω) := z_sI rfl h (by decide)
theorem l_210 {i : Nat} {kk : Int32 → RO} (h : i < 8) : lI (laz Θ S ω) (gI Θ) (gb Θ + 210) (nI i) kk = kk (zA S 210 i) := z_lI rfl h (by decide)
theorem s_210 {i : Nat} {x : Int32} {kk : OW → RO} (h : i < 8) : sI (laz Θ S ω) (gI Θ) (gb Θ + 210) (nI i) x kk = kk (laz Θ (uA S 210 (upd (zA S 210) i x)) ω) := z_sI rfl h (by decide)
theorem l_211 {i : Nat} {kk : Int32 → RO} (h : i < 10) : lI (laz Θ S ω) (gI Θ) (gb Θ + 211) (nI i) kk = kk (zA S 211 i) := z_lI rfl h (by decide)
theorem s_211 {i : Nat} {x : Int32} {kk : OW → RO} (h : i < 10) : sI (laz Θ S ω) (gI Θ) (gb Θ + 211) (nI i) x kk = kk (laz Θ (uA S 211 (upd (zA S 211) i x)) ω) := z_sI rfl h (by decide)
theorem l_212 {i : Nat} {kk : Int32 → RO} (h : i < 10) : lI (laz Θ S ω) (gI Θ) (gb Θ + 212) (nI i) kk = kk (zA S 212 i) := z_lI rfl h (by decide)
theorem s_212 {i : Nat} {x : Int32} {kk : OW → RO} (h : i < 10) : sI (laz Θ S ω) (gI Θ) (gb Θ + 212) (nI i) x kk = kk (laz Θ (uA S 212 (upd (zA S 212) i x)) ω) := z_sI rfl h (by decide)
theorem l_213 {i : Nat} {kk : Int32 → RO} (h : i < 8) : lI (laz Θ S ω) (gI Θ) (gb Θ + 213) (nI i) kk = kk (zA S 213 i) := z_lI rfl h (by decide)
theorem s_213 {i : Nat} {x : Int32} {kk : OW → RO} (h : i < 8) : sI (laz Θ S ω) (gI Θ) (gb Θ + 213) (nI i) x kk = kk (laz Θ (uA S 213 (upd (zA S 213) i x)) ω) := z_sI rfl h (by decide)
theorem l_215 {i : Nat} {kk : Int32 → RO} (h : i < 10) : lI (laz Θ S ω) (gI Θ) (gb Θ + 215) (nI i) kk = kk (zA S 215 i) := z_lI rfl h (by decide)
theorem s_215 {i : Nat} {x : Int32} {kk : OW → RO} (h : i < 10) : sI (laz Θ S ω) (gI Θ) (gb Θ + 215) (nI i) x kk = kk (laz Θ (uA S 215 (upd (zA S 215) i x)) ω) := z_sI rfl h (by decide)
theorem l_216 {i : Nat} {kk : Int32 → RO} (h : i < 61) : lI (laz Θ S ω) (gI Θ) (gb Θ + 216) (nI i) kk = kk (zA S 216 i) := z_lI rfl h (by decide)
theorem s_216 {i : Nat} {x : Int32} {kk : OW → RO} (h : i < 61) : sI (laz Θ S ω) (gI Θ) (gb Θ + 216) (nI i) x kk = kk (laz Θ (uA S 216 (upd (zA S 216) i x)) ω) := z_sI rfl h (by decide)
theorem l_217 {i : Nat} {kk : Int32 → RO} (h : i < 61) : lI (laz Θ S ω) (gI Θ) (gb Θ + 217) (nI i) kk = kk (zA S 217 i) := z_lI rfl h (by decide)
theorem s_217 {i : Nat} {x : Int32} {kk : OW → RO} (h : i < 61) : sI (laz Θ S ω) (gI Θ) (gb Θ + 217) (nI i) x kk = kk (laz Θ (uA S 217 (upd (zA S 217) i x)) ω) := z_sI rfl h (by decide)
theorem l_219 {i : Nat} {kk : Int32 → RO} (h : i < 2003) : lI (laz Θ S ω) (gI Θ) (gb Θ + 219) (nI i) kk = kk (zA S 219 i) := z_lI rfl h (by decide)
theorem s_219 {i : Nat} {x : Int32} {kk : OW → RO} (h : i < 2003) : sI (laz Θ S ω) (gI Θ) (gb Θ + 219) (nI i) x kk = kk (laz Θ (uA S 219 (upd (zA S 219) i x)) ω) := z_sI rfl h (by decide)
theorem l_220 {i : Nat} {kk : Int32 → RO} (h : i < 1154) : lI (laz Θ S ω) (gI Θ) (gb Θ + 220) (nI i) kk = kk (zA S 220 i) := z_lI rfl h (by decide)
theorem s_220 {i : Nat} {x : Int32} {kk : OW → RO} (h : i < 1154) : sI (laz Θ S ω) (gI Θ) (gb Θ + 220) (nI i) x kk = kk (laz Θ (uA S 220 (upd (zA S 220) i x)) ω) := z_sI rfl h (by decide)
theorem l_221 {i : Nat} {kk : Int32 → RO} (h : i < 1154) : lI (laz Θ S ω) (gI Θ) (gb Θ + 221) (nI i) kk = kk (zA S 221 i) := z_lI rfl h (by decide)
theorem s_221 {i : Nat} {x : Int32} {kk : OW → RO} (h : i < 1154) : sI (laz Θ S ω) (gI Θ) (gb Θ + 221) (nI i) x kk = kk (laz Θ (uA S 221 (upd (zA S 221) i x)) ω) := z_sI rfl h (by decide)
theorem l_222 {i : Nat} {kk : Int32 → RO} (h : i < 305) : lI (laz Θ S ω) (gI Θ) (gb Θ + 222) (nI i) kk = kk (zA S 222 i) := z_lI rfl h (by decide)
theorem s_222 {i : Nat} {x : Int32} {kk : OW → RO} (h : i < 305) : sI (laz Θ S ω) (gI Θ) (gb Θ + 222) (nI i) x kk = kk (laz Θ (uA S 222 (upd (zA S 222) i x)) ω) := z_sI rfl h (by decide)
theorem l_223 {i : Nat} {kk : Int32 → RO} (h : i < 3660) : lI (laz Θ S ω) (gI Θ) (gb Θ + 223) (nI i) kk = kk (zA S 223 i) := z_lI rfl h (by decide)
theorem s_223 {i : Nat} {x : Int32} {kk : OW → RO} (h : i < 3660) : sI (laz Θ S ω) (gI Θ) (gb Θ + 223) (nI i) x kk = kk (laz Θ (uA S 223 (upd (zA S 223) i x)) ω) := z_sI rfl h (by decide)
theorem l_225 {i : Nat} {kk : Int32 → RO} (h : i < 5) : lI (laz Θ S ω) (gI Θ) (gb Θ + 225) (nI i) kk = kk (zA S 225 i) := z_lI rfl h (by decide)
theorem s_225 {i : Nat} {x : Int32} {kk : OW → RO} (h : i < 5) : sI (laz Θ S ω) (gI Θ) (gb Θ + 225) (nI i) x kk = kk (laz Θ (uA S 225 (upd (zA S 225) i x)) ω) := z_sI rfl h (by decide)
theorem l_226 {i : Nat} {kk : Int32 → RO} (h : i < 400) : lI (laz Θ S ω) (gI Θ) (gb Θ + 226) (nI i) kk = kk (zA S 226 i) := z_lI rfl h (by decide)
theorem s_226 {i : Nat} {x : Int32} {kk : OW → RO} (h : i < 400) : sI (laz Θ S ω) (gI Θ) (gb Θ + 226) (nI i) x kk = kk (laz Θ (uA S 226 (upd (zA S 226) i x)) ω) := z_sI rfl h (by decide)
theorem l_227 {i : Nat} {kk : Int32 → RO} (h : i < 10) : lI (laz Θ S ω) (gI Θ) (gb Θ + 227) (nI i) kk = kk (zA S 227 i) := z_lI rfl h (by decide)
theorem s_227 {i : Nat} {x : Int32} {kk : OW → RO} (h : i < 10) : sI (laz Θ S ω) (gI Θ) (gb Θ + 227) (nI i) x kk = kk (laz Θ (uA S 227 (upd (zA S 227) i x)) ω) := z_sI rfl h (by decide)
theorem l_228 {i : Nat} {kk : Int32 → RO} (h : i < 10) : lI (laz Θ S ω) (gI Θ) (gb Θ + 228) (nI i) kk = kk (zA S 228 i) := z_lI rfl h (by decide)
theorem s_228 {i : Nat} {x : Int32} {kk : OW → RO} (h : i < 10) : sI (laz Θ S ω) (gI Θ) (gb Θ + 228) (nI i) x kk = kk (laz Θ (uA S 228 (upd (zA S 228) i x)) ω) := z_sI rfl h (by decide)
theorem l_229 {i : Nat} {kk : Int32 → RO} (h : i < 8) : lI (laz Θ S ω) (gI Θ) (gb Θ + 229) (nI i) kk = kk (zA S 229 i) := z_lI rfl h (by decide)
theorem s_229 {i : Nat} {x : Int32} {kk : OW → RO} (h : i < 8) : sI (laz Θ S ω) (gI Θ) (gb Θ + 229) (nI i) x kk = kk (laz Θ (uA S 229 (upd (zA S 229) i x)) ω) := z_sI rfl h (by decide)
theorem l_230 {i : Nat} {kk : Int32 → RO} (h : i < 61) : lI (laz Θ S ω) (gI Θ) (gb Θ + 230) (nI i) kk = kk (zA S 230 i) := z_lI rfl h (by decide)
theorem s_230 {i : Nat} {x : Int32} {kk : OW → RO} (h : i < 61) : sI (laz Θ S ω) (gI Θ) (gb Θ + 230) (nI i) x kk = kk (laz Θ (uA S 230 (upd (zA S 230) i x)) ω) := z_sI rfl h (by decide)
theorem l_231 {i : Nat} {kk : Int32 → RO} (h : i < 61) : lI (laz Θ S ω) (gI Θ) (gb Θ + 231) (nI i) kk = kk (zA S 231 i) := z_lI rfl h (by decide)
theorem s_231 {i : Nat} {x : Int32} {kk : OW → RO} (h : i < 61) : sI (laz Θ S ω) (gI Θ) (gb Θ + 231) (nI i) x kk = kk (laz Θ (uA S 231 (upd (zA S 231) i x)) ω) := z_sI rfl h (by decide)
theorem l_232 {i : Nat} {kk : Int32 → RO} (h : i < 10) : lI (laz Θ S ω) (gI Θ) (gb Θ + 232) (nI i) kk = kk (zA S 232 i) := z_lI rfl h (by decide)
theorem s_232 {i : Nat} {x : Int32} {kk : OW → RO} (h : i < 10) : sI (laz Θ S ω) (gI Θ) (gb Θ + 232) (nI i) x kk = kk (laz Θ (uA S 232 (upd (zA S 232) i x)) ω) := z_sI rfl h (by decide)
theorem l_233 {i : Nat} {kk : Int32 → RO} (h : i < 640) : lI (laz Θ S ω) (gI Θ) (gb Θ + 233) (nI i) kk = kk (zA S 233 i) := z_lI rfl h (by decide)
theorem s_233 {i : Nat} {x : Int32} {kk : OW → RO} (h : i < 640) : sI (laz Θ S ω) (gI Θ) (gb Θ + 233) (nI i) x kk = kk (laz Θ (uA S 233 (upd (zA S 233) i x)) ω) := z_sI rfl h (by decide)
theorem l_224 {i : Nat} {kk : Int32 → RO} (h : i < 400) : lI (laz Θ S ω) (gB Θ) (gb Θ + 224) (nI i) kk = kk (zA S 224 i) := z_lB rfl h (by decide)
theorem s_224 {i : Nat} {x : Int32} {kk : OW → RO} (h : i < 400) : sI (laz Θ S ω) (gB Θ) (gb Θ + 224) (nI i) x kk = kk (laz Θ (uA S 224 (upd (zA S 224) i x)) ω) := z_sB rfl h (by decide)
theorem l_4 {i : Nat} {kk : Int32 → RO} (h : i < 64) : lI (laz Θ S ω) (gZ Θ) (gb Θ + 4) (nI i) kk = kk (zA S 4 i) := z_lZ rfl h (by decide)
theorem s_4 {i : Nat} {x : Int32} {kk : OW → RO} (h : i < 64) : sI (laz Θ S ω) (gZ Θ) (gb Θ + 4) (nI i) x kk = kk (laz Θ (uA S 4 (upd (zA S 4) i x)) ω) := z_sZ rfl h (by decide)
end LZ
/-! results handed on -/
theorem kI_v (x : Int32) (ω : OW) (n : Nat) (k : Int32 → OW → Nat → RO) : kI (some (.inl (some (.int x), ω, n))) k = k x ω n := rfl
theorem kI_x (e : String × OW) (k : Int32 → OW → Nat → RO) : kI (some (.inr e)) k = some (.inr e) := rfl
theorem kV_v (ω : OW) (n : Nat) (k : OW → Nat → RO) : kV (some (.inl (none, ω, n))) k = k ω n := rfl
theorem kV_x (e : String × OW) (k : OW → Nat → RO) : kV (some (.inr e)) k = some (.inr e) := rfl
theorem kA_v (a : Nat) (ω : OW) (n : Nat) (k : Nat → OW → Nat → RO) : kA (some (.inl (some (.ref a), ω, n))) k = k a ω n := rfl
theorem kN_v (a : Nat) (ω : OW) (n : Nat) (k : Nat → OW → Nat → RO) (k0 : OW → Nat → RO) : kN (some (.inl (some (.ref a), ω, n))) k k0 = k a ω n := rfl
theorem kN_0 (ω : OW) (n : Nat) (k : Nat → OW → Nat → RO) (k0 : OW → Nat → RO) : kN (some (.inl (some .null, ω, n))) k k0 = k0 ω n := rfl
theorem bz_0 (r : RO) : bz 0 r = r := if_pos (Or.inl rfl)
theorem bz_1 (r : RO) : bz 1 r = r := if_pos (Or.inr rfl)
theorem lI_lit (ω : OW) (c : ClassId) (a k : Nat) (kk : Int32 → RO) : lI ω c a (OfNat.ofNat k : Int32) kk = lI ω c a (nI k) kk := rfl
theorem sI_lit (ω : OW) (c : ClassId) (a k : Nat) (x : Int32) (kk : OW → RO) : sI ω c a (OfNat.ofNat k : Int32) x kk = sI ω c a (nI k) x kk := rfl
theorem upd_same (f : Nat → Int32) (k : Nat) (x : Int32) : upd f k x k = x := if_pos rfl
theorem upd_ne (f : Nat → Int32) {k j : Nat} (x : Int32) (h : j ≠ k) : upd f k x j = f j := if_neg h
theorem upd_at (f : Nat → Int32) (k : Nat) (x : Int32) (j : Nat) : upd f k x j = if j = k then x else f j := rfl
