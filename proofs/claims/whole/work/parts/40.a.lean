/-! somebody unknown: rides of strangers, what the tape tells -/
def cSt (w : Nat → Int32) (lw : LW) (nv d : Nat) : RPar := (w, lw, fun s => pin w (nI s), fun _ => false, nI nv, 0, nI d, false, true)
theorem cSt_ok {w : Nat → Int32} {lw : LW} (hW : WB w) (hM : LawM w lw) {nv : Nat} (hn : nv ≤ 60) (d : Nat) : ROK (cSt w lw nv d) := by
  refine ⟨hW, hM, fun s _ => ?_, ⟨nv, hn, rfl⟩⟩
  rcases pin_cases w (nI s) with ⟨h, _⟩ | ⟨q, h1, h2, h3⟩
  · exact Or.inl h
  · exact Or.inr ⟨q, h1, h2, h3⟩
/-- what a stranger is frighted by in a slot -/
def fgT (w : Nat → Int32) (lw : LW) (nv d s : Nat) : Int32 := fgS (cSt w lw nv d) (-1, 0, 0) s
theorem fgT_rg {w : Nat → Int32} {lw : LW} (hW : WB w) (hM : LawM w lw) {nv : Nat} (hn : nv ≤ 60) (d : Nat) {s : Nat} (hs : s < 10) : Rg (fgT w lw nv d s) 380 := by
  unfold fgT fgS
  split
  · rename_i h; exact rfr_rg (cSt_ok hW hM hn d) hs h.2 _
  · exact ⟨0, by omega, rfl⟩
section ST
variable {Θ : GP} {S S0 : PZ} {ω : OW} {n : Nat} {w : Nat → Int32} {lw : LW}
theorem x_strange (hW : WB w) (hM : LawM w lw) (hl : RLd Θ S ω w lw (fun s => pin w (nI s)) (fun _ => false)) {nv : Nat} (hn : nv ≤ 60) (d : Nat) : ∃ S1 S2, F_X6_boardStranger Θ (gb Θ + 202) (nI d) (nI nv) 0 (laz Θ S ω) n = some (.inl (none, laz Θ S1 ω, n)) ∧ F_X6_toTheEnd Θ (gb Θ + 202) (laz Θ S1 ω) n = some (.inl (none, laz Θ S2 ω, n)) ∧ XL 202 S S2 ∧ RLd Θ S2 ω w lw (fun s => pin w (nI s)) (fun _ => false) ∧ ∀ j, j < 10 → zA S2 206 j = fgT w lw nv d j := by
  have hR : isR 202 := Or.inl rfl
  have rx : RX Θ (uF (uF (uF S 202 3 (nI d)) 202 4 (nI nv)) 202 5 0) ω 202 (cSt w lw nv d) := by
    refine RLd.rx (((hl.nF (by decide)).nF (by decide)).nF (by decide)) (cSt_ok hW hM hn d) ?_ ?_ ?_
    · rw [zF_ne _ _ (by omega), zF_ne _ _ (by omega), zF_eq]; rfl
    · rw [zF_ne _ _ (by omega), zF_eq]; rfl
    · rw [zF_eq]; rfl
  obtain ⟨S', e, o⟩ := x_go (Θ := Θ) (n := n) hR rx
  have e : F_X6_go Θ (gb Θ + 202) 0 1 (laz Θ (uF (uF (uF S 202 3 (nI d)) 202 4 (nI nv)) 202 5 0) ω) n = _ := e
  refine ⟨uF (uF (uF S 202 3 (nI d)) 202 4 (nI nv)) 202 5 0, S', ?_, ?_, ((((XL.rf 202 S).nF).nF).nF).trans o.1.xl, (((hl.nF (by decide)).nF (by decide)).nF (by decide)).xr o.1, fun j hj => ?_⟩
  · unfold F_X6_boardStranger
    rw [b202_3, b202_4, b202_5]
  · unfold F_X6_toTheEnd
    rw [d202, e, kV_v]
  · have := o.2.2.2.2.2 j hj
    rw [fgS_nd rfl] at this
    exact this
theorem m_strange (hw : zA S 219 = w) (hW : WB w) (hM : LawM w lw) {nv : Nat} (hn : nv ≤ 60) (d : Nat) (h18 : zF S 218 18 = nI d) (h19 : zF S 218 19 = nI nv) (h20 : zF S 218 20 = 0) (h23 : zF S 218 23 = 0) (h24 : zF S 218 24 = 0) : ∃ S' x, F_X11_rides Θ (gb Θ + 218) 0 1 (laz Θ S ω) n = some (.inl (some (.int x), laz Θ S' ω, n)) ∧ XP S S' ∧ ∀ j, j < 10 → zA S' 228 j = fgT w lw nv d j := by
  subst hw
  have hP8 := hW.P8
  have hd : (cSt (zA S 219) lw nv d).2.2.2.2.2.2.2.1 = false := rfl
  have hmx : MX S (cSt (zA S 219) lw nv d) := by
    refine ⟨cSt_ok hW hM hn d, h18, h19, h20, fun s hs => ?_, fun p hp => ?_⟩
    · show pin (zA S 219) (nI s) = tkM (zA S 219) (zF S 218 23) s
      rw [h23, tkM_0 hP8.2]
    · show hasS (zF S 218 24) (nI p) = 1 ↔ false = true
      rw [h24, hasS_0 p hp]
      exact ⟨fun y => absurd y (by decide), fun y => by cases y⟩
  obtain ⟨S', e, k⟩ := m_rides (Θ := Θ) (ω := ω) (n := n) hmx rfl
  obtain ⟨k1, k2, k3, k4, k5, k6, k7⟩ := k
  have hx : zA S' 219 = zA S 219 := by
    rw [k4, rst_sd hd]
    exact w8_self _
  refine ⟨S', _, e, k1.xp hx, fun j hj => ?_⟩
  rw [(k5 j hj).2, fgS_nd hd]
  rfl
end ST
/-- numbers of the tape -/
def tbN (S : PZ) (i : Nat) : Nat := (zA S 2 i).toNatClampNeg
theorem tbN_eq {Θ : GP} {S : PZ} {ω : OW} (hC : Core Θ S ω) {i : Nat} (hi : i < 400) : zA S 2 i = nI (tbN S i) ∧ tbN S i ≤ 255 ∧ zA S 224 i = (if tbN S i < 128 then nI (tbN S i) else nI (tbN S i) - 256) := by
  obtain ⟨k, h1, h2, h3⟩ := hC.2.2.1 i hi
  have e : tbN S i = k := by unfold tbN; rw [h2]; exact nI_clamp (by omega)
  rw [e]; exact ⟨h2, h1, h3⟩
theorem by_and : ∀ k, k < 256 → (if k < 128 then nI k else nI k - 256) &&& 255 = nI k := by decide +kernel
theorem by_neg' : ∀ k, k < 128 → nI (k + 128) - 256 < 0 := by decide +kernel
theorem by_neg (k : Nat) (h1 : 128 ≤ k) (h2 : k < 256) : nI k - 256 < 0 := by
  have := by_neg' (k - 128) (by omega)
  rw [show k - 128 + 128 = k by omega] at this
  exact this
theorem by_slot {k : Nat} (h : k ≤ 255) (h10 : ¬ k < 10) : ¬ ∃ p, p < 10 ∧ (if k < 128 then nI k else nI k - 256) = nI p := by
  rintro ⟨p, hp, e⟩
  by_cases z : k < 128
  · rw [if_pos z] at e
    have := (nI_eq (by omega) (by omega)).mp e
    omega
  · rw [if_neg z] at e
    have := by_neg k (by omega) (by omega)
    rw [e] at this
    exact nI_pos (by omega) this
section TL
variable {Θ : GP} {S : PZ} {ω : OW} {n : Nat}
/-- slots from the j-th on are slots -/
def tdP (len : Nat) (b : Nat → Nat) (j : Nat) : Prop := ∀ k, j ≤ k → 2 * k < len → b (2 * k) < 10
theorem tdP_s {len : Nat} {b : Nat → Nat} {j : Nat} (h : 2 * j < len) : tdP len b j ↔ (b (2 * j) < 10 ∧ tdP len b (j + 1)) := by
  constructor
  · intro u; exact ⟨u j (Nat.le_refl _) h, fun k h1 h2 => u k (by omega) h2⟩
  · rintro ⟨u1, u2⟩ k h1 h2
    by_cases z : k = j
    · subst z; exact u1
    · exact u2 k (by omega) h2
theorem x_told_L {len : Nat} {b : Nat → Nat} (hl : zF S 1 0 = nI len) (h40 : len ≤ 40) (hb : ∀ i, i < len → zA S 2 i = nI (b i) ∧ b i ≤ 255) : ∀ (m j f : Nat), 2 * (j + m) = len → m < f → L_X8_tellsFrights_22 Θ f (gb Θ + 1) (nI (2 * j)) (laz Θ S ω) n = some (.inl (some (.int (b01 (dcC (tdP len b j)))), laz Θ S ω, n)) := by
  intro m
  induction m with
  | zero =>
    intro j f h1 h2
    obtain ⟨f, rfl⟩ : ∃ g, f = g + 1 := ⟨f - 1, by omega⟩
    unfold L_X8_tellsFrights_22 B_X8_tellsFrights_22
    rw [a1_0, hl, if_pos (nI_le (by omega) (by omega)), dcC_t (show tdP len b j from fun k h3 h4 => by omega)]
    rfl
  | succ m ih =>
    intro j f h1 h2
    obtain ⟨f, rfl⟩ : ∃ g, f = g + 1 := ⟨f - 1, by omega⟩
    unfold L_X8_tellsFrights_22 B_X8_tellsFrights_22
    rw [a1_0, hl, if_neg (nI_ge (by omega) (by omega)), a1_5, l_2 (by omega), (hb (2 * j) (by omega)).1, dcC_c (tdP_s (by omega))]
    by_cases z : b (2 * j) < 10
    · rw [if_pos (show nI (b (2 * j)) < 10 from nI_lt (b := 10) z (by omega)), show nI (2 * j) + 2 = nI (2 * (j + 1)) from nI_add (2 * j) 2, ih (j + 1) f (by omega) (by omega), dcC_c (P := b (2 * j) < 10 ∧ tdP len b (j + 1)) (Q := tdP len b (j + 1)) ⟨fun u => u.2, fun u => ⟨z, u⟩⟩]
    · rw [if_neg (show ¬ nI (b (2 * j)) < 10 from nI_nlt (b := 10) (by omega) (by have := (hb (2 * j) (by omega)).2; omega)), dcC_f (fun u => z u.1)]
      rfl
theorem x_told {len : Nat} {b : Nat → Nat} (hl : zF S 1 0 = nI len) (h4 : len ≤ 400) (hb : ∀ i, i < len → zA S 2 i = nI (b i) ∧ b i ≤ 255) : F_X8_tellsFrights Θ (gb Θ + 1) (laz Θ S ω) n = some (.inl (some (.int (b01 (dcC (len ≤ 40 ∧ len % 2 = 0 ∧ tdP len b 0)))), laz Θ S ω, n)) := by
  unfold F_X8_tellsFrights J_X8_tellsFrights_18
  rw [a1_0, hl]
  by_cases z : len ≤ 40
  · rw [if_neg (show ¬ (40 : Int32) < nI len from nI_nlt (a := 40) z (by omega)), a1_0, hl]
    have er : nI len - nI len / 2 * 2 = nI (len % 2) := nI_rem (k := 2) (by omega) (by decide)
    rw [er]
    by_cases y : len % 2 = 0
    · rw [y, if_pos (show nI 0 = 0 from rfl)]
      have e : L_X8_tellsFrights_22 Θ 5000 (gb Θ + 1) 0 (laz Θ S ω) n = _ := x_told_L (Θ := Θ) (ω := ω) (n := n) hl z hb (len / 2) 0 5000 (by omega) (by omega)
      rw [e, dcC_c (P := len ≤ 40 ∧ 0 = 0 ∧ tdP len b 0) (Q := tdP len b 0) ⟨fun u => u.2.2, fun u => ⟨z, rfl, u⟩⟩]
    · rw [if_neg (nI_ne0 (by omega) (by omega)), dcC_f (fun u => y u.2.1)]
      rfl
  · rw [if_pos (show (40 : Int32) < nI len from nI_lt (a := 40) (by omega) (by omega)), dcC_f (fun u => z u.1)]
    rfl
theorem m_told_L {len : Nat} {b : Nat → Nat} (hl : zF S 218 11 = nI len) (h40 : len ≤ 40) (hb : ∀ i, i < len → b i ≤ 255 ∧ zA S 224 i = (if b i < 128 then nI (b i) else nI (b i) - 256)) : ∀ (m j f : Nat), 2 * (j + m) = len → m + 1 < f → L_X11_isTold_36 Θ f (gb Θ + 218) 1 (nI (2 * j)) (laz Θ S ω) n = some (.inl (some (.int (b01 (dcC (tdP len b j)))), laz Θ S ω, n)) := by
  intro m
  induction m with
  | zero =>
    intro j f h1 h2
    obtain ⟨f, rfl⟩ : ∃ g, f = g + 1 := ⟨f - 1, by omega⟩
    unfold L_X11_isTold_36 B_X11_isTold_36 J_X11_isTold_72
    rw [a218_11, hl, if_pos (nI_le (by omega) (by omega)), dcC_t (show tdP len b j from fun k h3 h4 => by omega), bz_1]
    rfl
  | succ m ih =>
    intro j f h1 h2
    obtain ⟨f, rfl⟩ : ∃ g, f = g + 1 := ⟨f - 1, by omega⟩
    have hj := hb (2 * j) (by omega)
    rw [show L_X11_isTold_36 Θ (f + 1) (gb Θ + 218) 1 (nI (2 * j)) (laz Θ S ω) n = B_X11_isTold_36 Θ (L_X11_isTold_36 Θ f) (gb Θ + 218) 1 (nI (2 * j)) (laz Θ S ω) n from rfl]
    unfold B_X11_isTold_36 J_X11_isTold_65
    rw [a218_11, hl, if_neg (nI_ge (by omega) (by omega)), if_neg (show ¬ (1 : Int32) = 0 by decide), a218_8, l_224 (by omega), hj.2, dcC_c (tdP_s (by omega)), show nI (2 * j) + 2 = nI (2 * (j + 1)) from nI_add (2 * j) 2]
    by_cases z : b (2 * j) < 10
    · rw [if_pos (by omega), m_noSlot_y z, kI_v, if_pos rfl, ih (j + 1) f (by omega) (by omega), dcC_c (P := b (2 * j) < 10 ∧ tdP len b (j + 1)) (Q := tdP len b (j + 1)) ⟨fun u => u.2, fun u => ⟨z, u⟩⟩]
    · rw [m_noSlot_n (by_slot hj.1 z), kI_v, if_neg (show ¬ (1 : Int32) = 0 by decide), dcC_f (fun u => z u.1)]
      obtain ⟨f, rfl⟩ : ∃ g, f = g + 1 := ⟨f - 1, by omega⟩
      unfold L_X11_isTold_36 B_X11_isTold_36 J_X11_isTold_72
      rw [a218_11, hl, if_pos rfl, bz_0]
      split <;> rfl
theorem m_told {len : Nat} {v : Int32} {b : Nat → Nat} (hl : zF S 218 11 = nI len) (h4 : len ≤ 400) (hb : ∀ i, i < len → b i ≤ 255 ∧ zA S 224 i = (if b i < 128 then nI (b i) else nI (b i) - 256)) : F_X11_isTold Θ (gb Θ + 218) v (laz Θ S ω) n = some (.inl (some (.int (b01 (dcC ((len ≤ 40 ∧ len % 2 = 0 ∧ tdP len b 0) ∧ ¬ (v < 1 ∨ 60 < v))))), laz Θ S ω, n)) := by
  have zero : ∀ f, 0 < f → L_X11_isTold_36 Θ f (gb Θ + 218) 0 0 (laz Θ S ω) n = some (.inl (some (.int 0), laz Θ S ω, n)) := by
    intro f hf
    obtain ⟨f, rfl⟩ : ∃ g, f = g + 1 := ⟨f - 1, by omega⟩
    unfold L_X11_isTold_36 B_X11_isTold_36 J_X11_isTold_72
    rw [a218_11, hl, if_pos rfl, bz_0]
    split <;> rfl
  have er : nI len - nI len / 2 * 2 = nI (len % 2) := nI_rem (k := 2) (by omega) (by decide)
  unfold F_X11_isTold J_X11_isTold_32 J_X11_isTold_33
  rw [a218_11, hl, er, zero 5000 (by omega)]
  by_cases y : len % 2 = 0
  · rw [y, if_pos (show nI 0 = 0 from rfl), a218_11, hl]
    by_cases z : len ≤ 40
    · rw [if_neg (show ¬ (40 : Int32) < nI len from nI_nlt (a := 40) z (by omega)), m_in, kI_v]
      by_cases x : v < 1 ∨ 60 < v
      · rw [if_pos x, if_pos rfl, zero 5000 (by omega), dcC_f (fun u => u.2 x)]
        rfl
      · have e : L_X11_isTold_36 Θ 5000 (gb Θ + 218) 1 0 (laz Θ S ω) n = _ := m_told_L (Θ := Θ) (ω := ω) (n := n) hl z hb (len / 2) 0 5000 (by omega) (by omega)
        rw [if_neg x, if_neg (show ¬ (1 : Int32) = 0 by decide), e, dcC_c (P := (len ≤ 40 ∧ 0 = 0 ∧ tdP len b 0) ∧ ¬ (v < 1 ∨ 60 < v)) (Q := tdP len b 0) ⟨fun u => u.1.2.2, fun u => ⟨⟨z, rfl, u⟩, x⟩⟩]
    · rw [if_pos (show (40 : Int32) < nI len from nI_lt (a := 40) (by omega) (by omega)), dcC_f (fun u => z u.1.1)]
      rfl
  · rw [if_neg (nI_ne0 (by omega) (by omega)), dcC_f (fun u => y u.1.2.1)]
    rfl
end TL
/-- all is as told, from the j-th on -/
def ftP (len : Nat) (b : Nat → Nat) (g : Nat → Int32) (j : Nat) : Prop := ∀ k, j ≤ k → 2 * k < len → g (b (2 * k)) = nI (b (2 * k + 1))
theorem ftP_s {len : Nat} {b : Nat → Nat} {g : Nat → Int32} {j : Nat} (h : 2 * j < len) : ftP len b g j ↔ (g (b (2 * j)) = nI (b (2 * j + 1)) ∧ ftP len b g (j + 1)) := by
  constructor
  · intro u; exact ⟨u j (Nat.le_refl _) h, fun k h1 h2 => u k (by omega) h2⟩
  · rintro ⟨u1, u2⟩ k h1 h2
    by_cases z : k = j
    · subst z; exact u1
    · exact u2 k (by omega) h2
noncomputable def ftB (w : Nat → Int32) (lw : LW) (nv len : Nat) (b : Nat → Nat) (d : Nat) : Bool := dcC (ftP len b (fgT w lw nv d) 0)
section SF
variable {Θ : GP} {S S0 : PZ} {ω : OW} {n : Nat} {w : Nat → Int32} {lw : LW}
theorem nar0 : vp_nar .boolean 0 = 0 := by decide
theorem nar1 : vp_nar .boolean 1 = 1 := by decide
theorem x_byteAt {len : Nat} {b : Nat → Nat} (hl : zF S 1 0 = nI len) (h4 : len ≤ 400) (hb : ∀ i, i < len → zA S 2 i = nI (b i) ∧ b i ≤ 255) {i : Nat} (hi : i < len) : F_X8_byteAt Θ (gb Θ + 1) (nI i) (laz Θ S ω) n = some (.inl (some (.int (nI (b i))), laz Θ S ω, n)) := by
  unfold F_X8_byteAt J_X8_byteAt_22
  rw [if_neg (nI_pos (by omega)), a1_0, hl, if_neg (nI_ge (by omega) (by omega)), a1_5, l_2 (by omega), (hb i hi).1]
theorem x_sift52_L {K : Nat → Nat → Int32 → Nat → Int32 → OW → Nat → RO} {l2 : Int32} {d len : Nat} {b : Nat → Nat} {g : Nat → Int32} (hd : d < 64) (h4 : len ≤ 400) (ht : tdP len b 0) (hg : ∀ s, s < 10 → zA S 206 s = g s) (hl : zF S 1 0 = nI len) (hb : ∀ i, i < len → zA S 2 i = nI (b i) ∧ b i ≤ 255) : ∀ (m j f : Nat) (h : Nat → Int32), 2 * (j + m) = len → m < f → ∃ h', L_X7_sift_52 Θ K f (gb Θ + 3) (gb Θ + 202) l2 (gb Θ + 1) (nI d) (nI (2 * j)) (laz Θ (uA S 4 h) ω) n = K (gb Θ + 3) (gb Θ + 202) l2 (gb Θ + 1) (nI (d + 1)) (laz Θ (uA S 4 h') ω) n ∧ (∀ u, u ≠ d → h' u = h u) ∧ h' d = (if dcC (ftP len b g j) = true then h d else 0) := by
  intro m
  induction m with
  | zero =>
    intro j f h h1 h2
    obtain ⟨f, rfl⟩ : ∃ g, f = g + 1 := ⟨f - 1, by omega⟩
    refine ⟨h, ?_, fun _ _ => rfl, by rw [if_pos (dcC_t (show ftP len b g j from fun k h3 h4 => by omega))]⟩
    unfold L_X7_sift_52 B_X7_sift_52
    rw [a1_0, zF_uA, hl, nI_1, if_pos (nI_le (by omega) (by omega)), nI_1]
  | succ m ih =>
    intro j f h h1 h2
    obtain ⟨f, rfl⟩ : ∃ g, f = g + 1 := ⟨f - 1, by omega⟩
    have hs := ht j (by omega) (by omega)
    have hbt : ∀ {i : Nat} (h' : Nat → Int32), i < len → F_X8_byteAt Θ (gb Θ + 1) (nI i) (laz Θ (uA S 4 h') ω) n = some (.inl (some (.int (nI (b i))), laz Θ (uA S 4 h') ω, n)) := fun h' hi => x_byteAt (S := uA S 4 h') (by rw [zF_uA]; exact hl) h4 (by rw [zA_ne _ _ (show 2 ≠ 4 by decide)]; exact hb) hi
    rw [show L_X7_sift_52 Θ K (f + 1) (gb Θ + 3) (gb Θ + 202) l2 (gb Θ + 1) (nI d) (nI (2 * j)) (laz Θ (uA S 4 h) ω) n = B_X7_sift_52 Θ K (L_X7_sift_52 Θ K f) (gb Θ + 3) (gb Θ + 202) l2 (gb Θ + 1) (nI d) (nI (2 * j)) (laz Θ (uA S 4 h) ω) n from rfl]
    unfold B_X7_sift_52 J_X7_sift_101 J_X7_sift_109
    rw [a1_0, zF_uA, hl, nI_1, if_neg (nI_ge (by omega) (by omega)), d1, hbt h (by omega), kI_v, if_neg (nI_pos (by omega)), if_neg (show ¬ (10 : Int32) ≤ nI (b (2 * j)) from nI_ge (b := 10) hs (by omega)), a202_11, l_206 hs, zA_ne _ _ (show 206 ≠ 4 by decide), hg _ hs, d1, hbt h (by omega), kI_v, show nI (2 * j) + 2 = nI (2 * (j + 1)) from nI_add (2 * j) 2]
    by_cases z : g (b (2 * j)) = nI (b (2 * j + 1))
    · obtain ⟨h', e, q1, q2⟩ := ih (j + 1) f h (by omega) (by omega)
      refine ⟨h', by rw [if_pos z, e], q1, ?_⟩
      rw [q2, dcC_c (ftP_s (g := g) (b := b) (show 2 * j < len by omega)), dcC_c (P := g (b (2 * j)) = nI (b (2 * j + 1)) ∧ ftP len b g (j + 1)) (Q := ftP len b g (j + 1)) ⟨fun u => u.2, fun u => ⟨z, u⟩⟩]
    · obtain ⟨h', e, q1, q2⟩ := ih (j + 1) f (upd h d 0) (by omega) (by omega)
      refine ⟨h', by rw [if_neg z, a3_0, nar0, s_4 hd, uA_uA, zA_eq, e], fun u hu => by rw [q1 u hu, upd_ne _ _ hu], ?_⟩
      rw [q2, upd_same, dcC_c (ftP_s (g := g) (b := b) (show 2 * j < len by omega)), if_neg (show ¬ dcC (g (b (2 * j)) = nI (b (2 * j + 1)) ∧ ftP len b g (j + 1)) = true from fun u => z (dcC_iff.mp u).1)]
      split <;> rfl
/-- S' is as S but for the ride 202 and the rows 4, 5, 6 -/
def KS (S S' : PZ) : Prop := (∀ k j, k ≠ 202 → zF S' k j = zF S k j) ∧ (∀ k, ¬ (202 < k ∧ k < 208) → k ≠ 4 → k ≠ 5 → k ≠ 6 → zA S' k = zA S k) ∧ (∀ k j, zR S' k j = zR S k j) ∧ (∀ k, zL S' k = zL S k)
theorem KS.rf (S : PZ) : KS S S := ⟨fun _ _ _ => rfl, fun _ _ _ _ _ => rfl, fun _ _ => rfl, fun _ => rfl⟩
theorem KS.trans {S S' S'' : PZ} (h : KS S S') (g : KS S' S'') : KS S S'' := ⟨fun k j q => (g.1 k j q).trans (h.1 k j q), fun k a b c d => (g.2.1 k a b c d).trans (h.2.1 k a b c d), fun k j => (g.2.2.1 k j).trans (h.2.2.1 k j), fun k => (g.2.2.2 k).trans (h.2.2.2 k)⟩
theorem XL.ks {S S' : PZ} (h : XL 202 S S') : KS S S' := ⟨h.1, fun k a _ _ _ => h.2.1 k a, h.2.2.1, h.2.2.2⟩
theorem KS.nA {S S' : PZ} (h : KS S S') {k : Nat} {f : Nat → Int32} (q : k = 4 ∨ k = 5 ∨ k = 6) : KS S (uA S' k f) := ⟨h.1, fun i a b c d => by rw [zA_ne _ _ (by omega), h.2.1 i a b c d], h.2.2.1, h.2.2.2⟩
theorem RLd.n45 {tk : Nat → Int32} {es : Nat → Bool} (h : RLd Θ S ω w lw tk es) {k : Nat} {f : Nat → Int32} (q : k = 4 ∨ k = 5 ∨ k = 6) : RLd Θ (uA S k f) ω w lw tk es := by
  obtain ⟨h1, h2, h3, h4, h5⟩ := h
  refine ⟨h1, h2, fun p hp => ?_, fun s hs => ?_, h5⟩
  · rw [zA_ne _ _ (by omega), zA_ne _ _ (by omega), zA_ne _ _ (by omega)]; exact h3 p hp
  · rw [zA_ne _ _ (by omega)]; exact h4 s hs
theorem x_sift3_L (hW : WB w) (hM : LawM w lw) {nv len : Nat} (hn : nv ≤ 60) {b : Nat → Nat} (h40 : len ≤ 40) (hev : len % 2 = 0) (ht : tdP len b 0) (hl0 : zF S0 1 0 = nI len) (hb0 : ∀ i, i < len → zA S0 2 i = nI (b i) ∧ b i ≤ 255) : ∀ (m d f : Nat) (S : PZ), d + m = 64 → m < f → KS S0 S → RLd Θ S ω w lw (fun s => pin w (nI s)) (fun _ => false) → (∀ u, u < d → zA S 4 u = b01 (ftB w lw nv len b u) ∧ ∀ s, s < 10 → zA S 5 (10 * u + s) = fgT w lw nv u s) → ∃ S', L_X7_sift_3 Θ f (gb Θ + 3) (gb Θ + 202) (nI nv) (gb Θ + 1) (nI d) (laz Θ S ω) n = some (.inl (none, laz Θ S' ω, n)) ∧ KS S0 S' ∧ ∀ u, u < 64 → zA S' 4 u = b01 (ftB w lw nv len b u) ∧ ∀ s, s < 10 → zA S' 5 (10 * u + s) = fgT w lw nv u s := by
  intro m
  induction m with
  | zero =>
    intro d f S h1 h2 ks hl hA
    obtain ⟨f, rfl⟩ : ∃ g, f = g + 1 := ⟨f - 1, by omega⟩
    refine ⟨S, ?_, ks, fun u hu => hA u (by omega)⟩
    unfold L_X7_sift_3 B_X7_sift_3
    rw [if_pos (show (64 : Int32) ≤ nI d from nI_le (a := 64) (by omega) (by omega))]
  | succ m ih =>
    intro d f S h1 h2 ks hl hA
    obtain ⟨f, rfl⟩ : ∃ g, f = g + 1 := ⟨f - 1, by omega⟩
    have hd : d < 64 := by omega
    obtain ⟨S1, S2, e1, e2, x2, l2, r2⟩ := x_strange (Θ := Θ) (S := S) (ω := ω) (n := n) hW hM hl hn d
    have ec : ∀ (T : PZ) (kk : OW → RO), cpI (laz Θ T ω) (gI Θ) (gb Θ + 206) 0 (gb Θ + 5) (nI d * 10) 10 kk = kk (laz Θ (uA T 5 (va_cpy (zA T 206) (zA T 5) 0 (d * 10) 10)) ω) := fun T kk => by
      have := z_cp (Θ := Θ) (S := T) (ω := ω) (k1 := 206) (k2 := 5) (n := 10) (d := d * 10) (kk := kk) (by decide) (by decide) (by decide) (by show d * 10 + 10 ≤ 640; omega) (by omega)
      rw [show nI d * 10 = nI (d * 10) from nI_mul d 10]
      exact this
    have ks2 := ks.trans x2.ks
    obtain ⟨h', e3, q1, q2⟩ := x_sift52_L (Θ := Θ) (S := uA S2 5 (va_cpy (zA S2 206) (zA S2 5) 0 (d * 10) 10)) (ω := ω) (n := n) (K := L_X7_sift_3 Θ f) (l2 := nI nv) (d := d) (len := len) (b := b) (g := fgT w lw nv d) hd (by omega) ht (fun s hs => by rw [zA_ne _ _ (by decide)]; exact r2 s hs) (by rw [zF_uA, ks2.1 1 0 (by omega)]; exact hl0) (by rw [zA_ne _ _ (show 2 ≠ 5 by decide), ks2.2.1 2 (by omega) (by omega) (by omega) (by omega)]; exact hb0) (len / 2) 0 5000 (upd (zA (uA S2 5 (va_cpy (zA S2 206) (zA S2 5) 0 (d * 10) 10)) 4) d 1) (by omega) (by omega)
    have e3 : L_X7_sift_52 Θ (L_X7_sift_3 Θ f) 5000 (gb Θ + 3) (gb Θ + 202) (nI nv) (gb Θ + 1) (nI d) 0 (laz Θ (uA (uA S2 5 (va_cpy (zA S2 206) (zA S2 5) 0 (d * 10) 10)) 4 (upd (zA (uA S2 5 (va_cpy (zA S2 206) (zA S2 5) 0 (d * 10) 10)) 4) d 1)) ω) n = _ := e3
    obtain ⟨S4, e4, k4, a4⟩ := ih (d + 1) f (uA (uA S2 5 (va_cpy (zA S2 206) (zA S2 5) 0 (d * 10) 10)) 4 h') (by omega) (by omega) ((ks2.nA (by omega)).nA (by omega)) ((l2.n45 (by omega)).n45 (by omega)) (fun u hu => by
      have c5 : ∀ s, zA (uA (uA S2 5 (va_cpy (zA S2 206) (zA S2 5) 0 (d * 10) 10)) 4 h') 5 s = va_cpy (zA S2 206) (zA S2 5) 0 (d * 10) 10 s := fun s => by rw [zA_ne _ _ (show 5 ≠ 4 by decide), zA_eq]
      by_cases y : u = d
      · subst y
        refine ⟨?_, fun s hs => ?_⟩
        · rw [zA_eq, q2, upd_same]
          unfold ftB
          cases dcC (ftP len b (fgT w lw nv u) 0) <;> rfl
        · rw [c5]
          unfold va_cpy
          rw [if_pos (by omega), show 0 + (10 * u + s - u * 10) = s by omega]
          exact r2 s hs
      · obtain ⟨a1, a2⟩ := hA u (by omega)
        refine ⟨?_, fun s hs => ?_⟩
        · rw [zA_eq, q1 u y, upd_ne _ _ y, zA_ne _ _ (show 4 ≠ 5 by decide), x2.2.1 4 (by omega)]; exact a1
        · rw [c5]
          unfold va_cpy
          rw [if_neg (by omega), x2.2.1 5 (by omega)]; exact a2 s hs)
    refine ⟨S4, ?_, k4, a4⟩
    rw [show L_X7_sift_3 Θ (f + 1) (gb Θ + 3) (gb Θ + 202) (nI nv) (gb Θ + 1) (nI d) (laz Θ S ω) n = B_X7_sift_3 Θ (L_X7_sift_3 Θ f) (gb Θ + 3) (gb Θ + 202) (nI nv) (gb Θ + 1) (nI d) (laz Θ S ω) n from rfl]
    unfold B_X7_sift_3
    rw [if_neg (show ¬ (64 : Int32) ≤ nI d from nI_ge (b := 64) (by omega) (by omega)), d202, e1, kV_v, d202, e2, kV_v, a202_11, a3_1, ec, a3_0, nar1, s_4 hd, e3, e4]
end SF
