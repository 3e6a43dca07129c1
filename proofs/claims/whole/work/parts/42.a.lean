/-! a line of the court: what it is, what it makes of a court -/
abbrev LO : Type := Nat × (Nat → Int32) × Bool
/-- one prop more; one accused more -/
def prW (w : Nat → Int32) (d j wo sl : Int32) : Nat → Int32 := upd (upd (upd (upd (upd w (4 * cP w + 9) d) (4 * cP w + 10) j) (4 * cP w + 11) wo) (4 * cP w + 12) sl) 0 (nI (cP w + 1))
def acW (w : Nat → Int32) (nv dd kn : Int32) : Nat → Int32 := upd (upd (upd (upd (upd w (4 * cO' w + 41) dd) (4 * cO' w + 42) nv) (4 * cO' w + 43) kn) (4 * cO' w + 44) 0) 1 (nI (cO' w + 1))
def lnP4 (x : TX) (w : Nat → Int32) (d j sl : Int32) (p : Nat) : LO := if isWd x (skT x p) 2 = true then (if nmR x (skT x (weT x (skT x p))) 0 99 = -1 then (skT x (weT x (skT x p)), w, false) else (deT x (skT x (weT x (skT x p))), prW w d j (nmR x (skT x (weT x (skT x p))) 0 99) sl, true)) else (skT x p, prW w d j 0 sl, true)
def lnP3 (x : TX) (w : Nat → Int32) (d j : Int32) (p : Nat) : LO := if isWd x (skT x p) 1 = true then (if nmR x (skT x (weT x (skT x p))) 0 9 = -1 ∨ ¬ pin w (nmR x (skT x (weT x (skT x p))) 0 9) = -1 then (skT x (weT x (skT x p)), w, false) else lnP4 x w d j (nmR x (skT x (weT x (skT x p))) 0 9) (deT x (skT x (weT x (skT x p))))) else lnP4 x w d j (-1) (skT x p)
def lnP2 (x : TX) (w : Nat → Int32) (d : Int32) (p : Nat) : LO := if isWd x (skT x p) 0 = true then (if nmR x (skT x (weT x (skT x p))) 0 20 = -1 then (skT x (weT x (skT x p)), w, false) else lnP3 x w d (nmR x (skT x (weT x (skT x p))) 0 20) (deT x (skT x (weT x (skT x p))))) else (skT x p, w, false)
def lnP (x : TX) (w : Nat → Int32) (q : Nat) : LO := if 8 ≤ cP w then (q, w, false) else if leR x (skT x (weT x q)) = -1 then (skT x (weT x q), w, false) else lnP2 x w (leR x (skT x (weT x q))) (weT x (skT x (weT x q)))
def lnA3 (x : TX) (w : Nat → Int32) (nv dd : Int32) (p : Nat) : LO := if isWd x (skT x p) 5 = true then (if nmR x (skT x (weT x (skT x p))) 0 (w 0 - 1) = -1 then (skT x (weT x (skT x p)), w, false) else (deT x (skT x (weT x (skT x p))), acW w nv dd (1 <<< (nmR x (skT x (weT x (skT x p))) 0 (w 0 - 1) &&& 31)), true)) else (skT x p, acW w nv dd 0, true)
def lnA2 (x : TX) (w : Nat → Int32) (nv : Int32) (p : Nat) : LO := if isWd x (skT x p) 4 = true then (if ddR x (skT x (weT x (skT x p))) = -1 then (skT x (weT x (skT x p)), w, false) else lnA3 x w nv (ddR x (skT x (weT x (skT x p)))) (weT x (skT x (weT x (skT x p))))) else lnA3 x w nv 0 (skT x p)
def lnA (x : TX) (w : Nat → Int32) (q : Nat) : LO := if 6 ≤ cO' w then (q, w, false) else if isWd x (skT x (weT x q)) 3 = true then (if nmR x (skT x (weT x (skT x (weT x q)))) 1 60 = -1 then (skT x (weT x (skT x (weT x q))), w, false) else lnA2 x w (nmR x (skT x (weT x (skT x (weT x q)))) 1 60) (deT x (skT x (weT x (skT x (weT x q)))))) else (skT x (weT x q), w, false)
def lnN (x : TX) (w : Nat → Int32) (q i : Nat) (hi : Int32) : LO := if nmR x (skT x (weT x q)) 0 hi = -1 then (skT x (weT x q), w, false) else (deT x (skT x (weT x q)), upd w i (nmR x (skT x (weT x q)) 0 hi), true)
def lnC (x : TX) (w : Nat → Int32) (q : Nat) : LO := if isWd x q 6 = true then lnP x w q else if isWd x q 7 = true then lnA x w q else if isWd x q 8 = true then lnN x w q 5 9 else if isWd x q 9 = true then lnN x w q 6 20 else if isWd x q 10 = true then lnN x w q 4 999 else (q, w, false)
theorem nm_rg {x : TX} {q : Nat} (hq : q ≤ x.1) {lo hi : Int32} (h : ¬ nmR x q lo hi = -1) : ∃ v, v ≤ 999 ∧ nmR x q lo hi = nI v ∧ ¬ nI v < lo ∧ ¬ hi < nI v ∧ tkE x q = deT x q := by
  have he := (nm_ne hq h).1
  unfold nmR at h ⊢
  by_cases z : dgP x q = true ∧ deT x q - q ≤ 3 ∧ ¬ nI (nuV x q) < lo ∧ ¬ hi < nI (nuV x q)
  · rw [if_pos z]
    exact ⟨nuV x q, nuV_le hq z.2.1, rfl, z.2.2.1, z.2.2.2, he⟩
  · rw [if_neg z] at h; exact absurd rfl h
theorem dl_tab : ∀ k, k < 64 → ∀ d, d < 6 → hasS (nI k) (nI d) = 0 → nI k ||| (1 : Int32) <<< (nI d &&& 31) = nI (k + 2 ^ d) ∧ k + 2 ^ d < 64 ∧ cnt8 (k + 2 ^ d) = cnt8 k + 1 := by decide +kernel
theorem dlS_rg (x : TX) : ∀ m i k, k < 64 → (∀ j, i ≤ j → j < i + m → 97 ≤ x.2 j) → dlS x m i (nI k) = -1 ∨ ∃ k', k' < 64 ∧ dlS x m i (nI k) = nI k' ∧ cnt8 k' = cnt8 k + m := by
  intro m
  induction m with
  | zero => intro i k hk _; exact Or.inr ⟨k, hk, rfl, rfl⟩
  | succ m ih =>
    intro i k hk h
    have h97 := h i (Nat.le_refl _) (by omega)
    show (if 103 ≤ x.2 i ∨ hasS (nI k) (nI (x.2 i - 97)) = 1 then (-1 : Int32) else dlS x m (i + 1) (nI k ||| 1 <<< (nI (x.2 i - 97) &&& 31))) = -1 ∨ ∃ k', k' < 64 ∧ (if 103 ≤ x.2 i ∨ hasS (nI k) (nI (x.2 i - 97)) = 1 then (-1 : Int32) else dlS x m (i + 1) (nI k ||| 1 <<< (nI (x.2 i - 97) &&& 31))) = nI k' ∧ cnt8 k' = cnt8 k + (m + 1)
    by_cases z : 103 ≤ x.2 i ∨ hasS (nI k) (nI (x.2 i - 97)) = 1
    · rw [if_pos z]; exact Or.inl rfl
    · rw [if_neg z]
      have h0 : hasS (nI k) (nI (x.2 i - 97)) = 0 := (hasS_01 _ _).resolve_right (fun u => z (Or.inr u))
      obtain ⟨t1, t2, t3⟩ := dl_tab k hk (x.2 i - 97) (by omega) h0
      rw [t1]
      rcases ih (i + 1) (k + 2 ^ (x.2 i - 97)) t2 (fun j h1 h2 => h j (by omega) (by omega)) with e | ⟨k', e1, e2, e3⟩
      · exact Or.inl e
      · exact Or.inr ⟨k', e1, e2, by omega⟩
theorem lt_in {x : TX} {q j : Nat} (h1 : q ≤ j) (h2 : j < weT x q) : 97 ≤ x.2 j ∧ x.2 j ≤ 122 := (of_decide_eq_true (rnB_in (ltP x) (x.1 - q) q j h1 h2)).2
theorem dd_rg {x : TX} {q : Nat} (hq : q ≤ x.1) : ddR x q = -1 ∨ ∃ k, k < 64 ∧ ddR x q = nI k ∧ cnt8 k = weT x q - q ∧ ltP x q = true := by
  have hw := weT_b hq
  unfold ddR
  by_cases z : ltP x q = true
  · rw [if_pos z]
    rcases dlS_rg x (weT x q - q) q 0 (by omega) (fun j h1 h2 => (lt_in h1 (by omega)).1) with e | ⟨k, e1, e2, e3⟩
    · exact Or.inl e
    · exact Or.inr ⟨k, e1, e2, by rw [e3]; exact Nat.zero_add _, z⟩
  · rw [if_neg z]; exact Or.inl rfl
theorem ntz_tab {Θ : GP} {ω : OW} {n : Nat} : ∀ d, d < 6 → F_J6_numberOfTrailingZeros_0f7a4 Θ (nI (2 ^ d)) ω n = some (.inl (some (.int (nI d)), ω, n)) := by
  intro d hd
  have hc : d = 0 ∨ d = 1 ∨ d = 2 ∨ d = 3 ∨ d = 4 ∨ d = 5 := by omega
  rcases hc with rfl | rfl | rfl | rfl | rfl | rfl <;> rfl
theorem bit_cnt : ∀ d, d < 6 → bcS (nI (2 ^ d)) = 1 := by decide +kernel
/-- one letter as a deed: the reference reads it as deeds -/
theorem le_dd {x : TX} {q : Nat} (hq : q ≤ x.1) : (leR x q = -1 ∧ (ddR x q = -1 ∨ ∃ k, k < 64 ∧ ddR x q = nI k ∧ ¬ bcS (nI k) = 1)) ∨ ∃ d, d < 6 ∧ leR x q = nI d ∧ ddR x q = nI (2 ^ d) := by
  have hw := weT_b hq
  by_cases z : ltP x q = true ∧ weT x q - q = 1 ∧ x.2 q < 103
  · have h97 := (of_decide_eq_true z.1).2
    refine Or.inr ⟨x.2 q - 97, by omega, by unfold leR; rw [if_pos z], ?_⟩
    unfold ddR
    rw [if_pos z.1, z.2.1]
    show (if 103 ≤ x.2 q ∨ hasS 0 (nI (x.2 q - 97)) = 1 then (-1 : Int32) else (0 : Int32) ||| (1 : Int32) <<< (nI (x.2 q - 97) &&& 31)) = _
    have h0 := hasS_0 (x.2 q - 97) (by omega)
    rw [if_neg (fun u => u.elim (by omega) (fun v => by rw [h0] at v; exact absurd v (by decide)))]
    have := dl_tab 0 (by omega) (x.2 q - 97) (by omega) h0
    rw [Nat.zero_add] at this
    exact this.1
  · refine Or.inl ⟨by unfold leR; rw [if_neg z], ?_⟩
    rcases dd_rg hq with e | ⟨k, e1, e2, e3, e4⟩
    · exact Or.inl e
    · refine Or.inr ⟨k, e1, e2, fun u => ?_⟩
      rw [bc_tab k (by omega)] at u
      have hc : cnt8 k = 1 := (nI_eq (b := 1) (by have := cnt8_le k; omega) (by omega)).mp u
      have h1 : weT x q - q = 1 := by omega
      have h103 : ¬ x.2 q < 103 := fun v => z ⟨e4, h1, v⟩
      have : ddR x q = -1 := by
        unfold ddR
        rw [if_pos e4, h1]
        show (if 103 ≤ x.2 q ∨ hasS 0 (nI (x.2 q - 97)) = 1 then (-1 : Int32) else (0 : Int32) ||| (1 : Int32) <<< (nI (x.2 q - 97) &&& 31)) = _
        rw [if_pos (Or.inl (by omega))]
      rw [e2] at this
      exact (q_m1 (by omega)).mp this
/-! courts with one more -/
theorem pinL_snoc (w : Nat → Int32) (s : Int32) : ∀ k p, p + k < 2 ^ 31 → pinL w s (k + 1) p = if pinL w s k p = -1 then (if w (4 * (p + k) + 12) = s then nI (p + k) else -1) else pinL w s k p := by
  intro k
  induction k with
  | zero =>
    intro p hp
    show (if w (4 * p + 12) = s then nI p else -1) = _
    rw [if_pos (show pinL w s 0 p = -1 from rfl)]
    rfl
  | succ k ih =>
    intro p hp
    rw [show pinL w s (k + 1 + 1) p = if w (4 * p + 12) = s then nI p else pinL w s (k + 1) (p + 1) from rfl, show pinL w s (k + 1) p = if w (4 * p + 12) = s then nI p else pinL w s k (p + 1) from rfl]
    by_cases z : w (4 * p + 12) = s
    · rw [if_pos z, if_pos z, if_neg (show ¬ nI p = -1 by rw [q_m1 (by omega)]; exact id)]
    · rw [if_neg z, if_neg z, ih (p + 1) (by omega), show p + 1 + k = p + (k + 1) by omega]
section PW
variable {w : Nat → Int32} {d j wo sl : Int32}
theorem prW_ne {k : Nat} (h0 : k ≠ 0) (h : ¬ (4 * cP w + 9 ≤ k ∧ k ≤ 4 * cP w + 12)) : prW w d j wo sl k = w k := by
  unfold prW
  rw [upd_ne _ _ h0, upd_ne _ _ (by omega), upd_ne _ _ (by omega), upd_ne _ _ (by omega), upd_ne _ _ (by omega)]
theorem prW_n : prW w d j wo sl (4 * cP w + 9) = d ∧ prW w d j wo sl (4 * cP w + 10) = j ∧ prW w d j wo sl (4 * cP w + 11) = wo ∧ prW w d j wo sl (4 * cP w + 12) = sl := by
  unfold prW
  refine ⟨?_, ?_, ?_, ?_⟩
  · rw [upd_ne _ _ (by omega), upd_ne _ _ (by omega), upd_ne _ _ (by omega), upd_ne _ _ (by omega), upd_same]
  · rw [upd_ne _ _ (by omega), upd_ne _ _ (by omega), upd_ne _ _ (by omega), upd_same]
  · rw [upd_ne _ _ (by omega), upd_ne _ _ (by omega), upd_same]
  · rw [upd_ne _ _ (by omega), upd_same]
theorem prW_0 : prW w d j wo sl 0 = nI (cP w + 1) := by unfold prW; rw [upd_same]
theorem prW_P (h : cP w < 8) : cP (prW w d j wo sl) = cP w + 1 := by unfold cP; rw [prW_0]; exact nI_clamp (by unfold cP at h ⊢; omega)
theorem prW_pin (h : cP w < 8) (s : Int32) : pin (prW w d j wo sl) s = if pin w s = -1 then (if sl = s then nI (cP w) else -1) else pin w s := by
  have e1 : pin (prW w d j wo sl) s = pinL (prW w d j wo sl) s (cP w + 1) 0 := by
    show pinL _ s (cP (prW w d j wo sl)) 0 = _
    rw [prW_P h]
  have e2 : pinL (prW w d j wo sl) s (cP w) 0 = pin w s := pinL_congr (cP w) 0 (fun q _ hq => by rw [prW_ne (by omega) (by omega)])
  rw [e1, pinL_snoc _ _ _ _ (by omega), e2, Nat.zero_add, prW_n.2.2.2]
theorem prW_wb (hW : WB w) (h : cP w < 8) (hd : Rg d 5) (hj : Rg j 20) (hwo : Rg wo 99) (hsl : sl = -1 ∨ Rg sl 9) (hf : sl = -1 ∨ pin w sl = -1) : WB (prW w d j wo sl) := by
  have h8 := hW.P8
  obtain ⟨g0, g1, g2, g4, g5, g6, g7, gp, ga, gd⟩ := hW
  refine ⟨by rw [prW_0]; exact ⟨cP w + 1, by omega, rfl⟩, by rw [prW_ne (by omega) (by omega)]; exact g1, by rw [prW_ne (by omega) (by omega)]; exact g2, by rw [prW_ne (by omega) (by omega)]; exact g4, by rw [prW_ne (by omega) (by omega)]; exact g5, by rw [prW_ne (by omega) (by omega)]; exact g6, by rw [prW_ne (by omega) (by omega)]; exact g7, fun p hp => ?_, fun a ha => ?_, fun p q hpq hq e => ?_⟩
  · by_cases z : p = cP w
    · subst z
      rw [prW_n.1, prW_n.2.1, prW_n.2.2.1, prW_n.2.2.2]
      exact ⟨hd, hj, hwo, hsl⟩
    · rw [prW_ne (by omega) (by omega), prW_ne (by omega) (by omega), prW_ne (by omega) (by omega), prW_ne (by omega) (by omega)]
      exact gp p hp
  · rw [prW_ne (by omega) (by omega), prW_ne (by omega) (by omega), prW_ne (by omega) (by omega), prW_ne (by omega) (by omega)]
    exact ga a ha
  · rw [prW_P h] at hq
    rw [prW_ne (k := 4 * p + 12) (by omega) (by omega)] at e ⊢
    by_cases z : q = cP w
    · subst z
      rw [prW_n.2.2.2] at e
      rcases hf with hf | hf
      · rw [e, hf]
      · exfalso
        rcases pin_cases w sl with ⟨_, y⟩ | ⟨r, r1, r2, _⟩
        · exact y p hpq e
        · rw [r2] at hf; exact (q_m1 (by omega)).mp hf
    · rw [prW_ne (by omega) (by omega)] at e
      exact gd p q hpq (by omega) e
theorem prW_law {lw : LW} (h : cP w < 8) (hM : LawM w lw) : LawM (prW w d j wo sl) lw := hM.congr (fun k hk => prW_ne (by omega) (by omega))
end PW
section AW'
variable {w : Nat → Int32} {nv dd kn : Int32}
theorem acW_ne {k : Nat} (h0 : k ≠ 1) (h : ¬ (4 * cO' w + 41 ≤ k ∧ k ≤ 4 * cO' w + 44)) : acW w nv dd kn k = w k := by
  unfold acW
  rw [upd_ne _ _ h0, upd_ne _ _ (by omega), upd_ne _ _ (by omega), upd_ne _ _ (by omega), upd_ne _ _ (by omega)]
theorem acW_n : acW w nv dd kn (4 * cO' w + 41) = dd ∧ acW w nv dd kn (4 * cO' w + 42) = nv ∧ acW w nv dd kn (4 * cO' w + 43) = kn ∧ acW w nv dd kn (4 * cO' w + 44) = 0 := by
  unfold acW
  refine ⟨?_, ?_, ?_, ?_⟩
  · rw [upd_ne _ _ (by omega), upd_ne _ _ (by omega), upd_ne _ _ (by omega), upd_ne _ _ (by omega), upd_same]
  · rw [upd_ne _ _ (by omega), upd_ne _ _ (by omega), upd_ne _ _ (by omega), upd_same]
  · rw [upd_ne _ _ (by omega), upd_ne _ _ (by omega), upd_same]
  · rw [upd_ne _ _ (by omega), upd_same]
theorem acW_1 : acW w nv dd kn 1 = nI (cO' w + 1) := by unfold acW; rw [upd_same]
theorem acW_O (h : cO' w < 6) : cO' (acW w nv dd kn) = cO' w + 1 := by unfold cO'; rw [acW_1]; exact nI_clamp (by unfold cO' at h ⊢; omega)
theorem acW_P : cP (acW w nv dd kn) = cP w := by unfold cP; rw [acW_ne (by omega) (by omega)]
theorem acW_pin (h : cO' w < 6) (h8 : cP w ≤ 8) (s : Int32) : pin (acW w nv dd kn) s = pin w s := pin_congr (acW_ne (by omega) (by omega)) (fun q hq => by rw [acW_ne (by omega) (by omega)])
theorem acW_wb (hW : WB w) (h : cO' w < 6) (hn : Rg nv 60) (hd : Rg dd 63) (hk : Rg kn 255) : WB (acW w nv dd kn) := by
  have h8 := hW.P8
  obtain ⟨g0, g1, g2, g4, g5, g6, g7, gp, ga, gd⟩ := hW
  refine ⟨by rw [acW_ne (by omega) (by omega)]; exact g0, by rw [acW_1]; exact ⟨cO' w + 1, by omega, rfl⟩, by rw [acW_ne (by omega) (by omega)]; exact g2, by rw [acW_ne (by omega) (by omega)]; exact g4, by rw [acW_ne (by omega) (by omega)]; exact g5, by rw [acW_ne (by omega) (by omega)]; exact g6, by rw [acW_ne (by omega) (by omega)]; exact g7, fun p hp => ?_, fun a ha => ?_, fun p q hpq hq e => ?_⟩
  · rw [acW_ne (by omega) (by omega), acW_ne (by omega) (by omega), acW_ne (by omega) (by omega), acW_ne (by omega) (by omega)]
    exact gp p hp
  · by_cases z : a = cO' w
    · subst z
      rw [acW_n.1, acW_n.2.1, acW_n.2.2.1, acW_n.2.2.2]
      exact ⟨hd, hn, hk, ⟨0, by omega, rfl⟩⟩
    · rw [acW_ne (by omega) (by omega), acW_ne (by omega) (by omega), acW_ne (by omega) (by omega), acW_ne (by omega) (by omega)]
      exact ga a ha
  · rw [acW_P] at hq
    rw [acW_ne (by omega) (by omega), acW_ne (by omega) (by omega)] at e
    rw [acW_ne (by omega) (by omega)]
    exact gd p q hpq hq e
theorem acW_law {lw : LW} (h : cO' w < 6) (hM : LawM w lw) : LawM (acW w nv dd kn) lw := hM.congr (fun k hk => acW_ne (by omega) (by omega))
end AW'
