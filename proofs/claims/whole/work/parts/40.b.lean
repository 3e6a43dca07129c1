/-! promise 28: found -/
def foA (fit : Nat → Bool) : Nat → Nat → Nat × Int32 → Nat × Int32
  | 0, _, q => q
  | k + 1, p, q => foA fit k (p + 1) (if fit p = true then (q.1 + 1, q.2 &&& nI p) else q)
theorem foA_le (fit : Nat → Bool) : ∀ (k p : Nat) (q : Nat × Int32), (foA fit k p q).1 ≤ q.1 + k := by
  intro k
  induction k with
  | zero => intro p q; exact Nat.le_refl _
  | succ k ih =>
    intro p q
    show (foA fit k (p + 1) (if fit p = true then (q.1 + 1, q.2 &&& nI p) else q)).1 ≤ _
    by_cases z : fit p = true
    · rw [if_pos z]
      have h := ih (p + 1) (q.1 + 1, q.2 &&& nI p)
      have h : (foA fit k (p + 1) (q.1 + 1, q.2 &&& nI p)).1 ≤ q.1 + 1 + k := h
      omega
    · rw [if_neg z]
      have h := ih (p + 1) q
      omega
section FO
variable {Θ : GP} {S S0 : PZ} {ω : OW} {n : Nat} {w : Nat → Int32} {lw : LW} {fit : Nat → Bool}
theorem x_many_L (h4 : ∀ u, u < 64 → zA S 4 u = b01 (fit u)) : ∀ (k p f : Nat) (q : Nat × Int32), p + k = 64 → k < f → L_X7_howMany_4 Θ f (gb Θ + 3) (nI q.1) (nI p) (laz Θ S ω) n = some (.inl (some (.int (nI (foA fit k p q).1)), laz Θ S ω, n)) := by
  intro k
  induction k with
  | zero =>
    intro p f q h1 h2
    obtain ⟨f, rfl⟩ : ∃ g, f = g + 1 := ⟨f - 1, by omega⟩
    unfold L_X7_howMany_4 B_X7_howMany_4
    rw [if_pos (show (64 : Int32) ≤ nI p from nI_le (a := 64) (by omega) (by omega))]
    rfl
  | succ k ih =>
    intro p f q h1 h2
    obtain ⟨f, rfl⟩ : ∃ g, f = g + 1 := ⟨f - 1, by omega⟩
    rw [show L_X7_howMany_4 Θ (f + 1) (gb Θ + 3) (nI q.1) (nI p) (laz Θ S ω) n = B_X7_howMany_4 Θ (L_X7_howMany_4 Θ f) (gb Θ + 3) (nI q.1) (nI p) (laz Θ S ω) n from rfl, show foA fit (k + 1) p q = foA fit k (p + 1) (if fit p = true then (q.1 + 1, q.2 &&& nI p) else q) from rfl]
    unfold B_X7_howMany_4 J_X7_howMany_25
    rw [if_neg (show ¬ (64 : Int32) ≤ nI p from nI_ge (b := 64) (by omega) (by omega)), a3_0, l_4 (by omega), h4 p (by omega), nI_1]
    cases hf : fit p with
    | false =>
      rw [if_pos (show b01 false = 0 from rfl), if_neg (show ¬ false = true by decide), Int32.add_zero]
      exact ih (p + 1) f q (by omega) (by omega)
    | true =>
      rw [if_neg (show ¬ b01 true = 0 by decide), if_pos rfl, nI_1]
      exact ih (p + 1) f (q.1 + 1, q.2 &&& nI p) (by omega) (by omega)
theorem x_deeds_L (h4 : ∀ u, u < 64 → zA S 4 u = b01 (fit u)) : ∀ (k p f : Nat) (q : Nat × Int32), p + k = 64 → k < f → L_X7_deedsOfAll_7 Θ f (gb Θ + 3) q.2 (if q.1 = 0 then 0 else 1) (nI p) (laz Θ S ω) n = some (.inl (some (.int (if (foA fit k p q).1 = 0 then 0 else (foA fit k p q).2)), laz Θ S ω, n)) := by
  intro k
  induction k with
  | zero =>
    intro p f q h1 h2
    obtain ⟨f, rfl⟩ : ∃ g, f = g + 1 := ⟨f - 1, by omega⟩
    rw [show L_X7_deedsOfAll_7 Θ (f + 1) (gb Θ + 3) q.2 (if q.1 = 0 then 0 else 1) (nI p) (laz Θ S ω) n = B_X7_deedsOfAll_7 Θ (L_X7_deedsOfAll_7 Θ f) (gb Θ + 3) q.2 (if q.1 = 0 then 0 else 1) (nI p) (laz Θ S ω) n from rfl, show foA fit 0 p q = q from rfl]
    unfold B_X7_deedsOfAll_7 J_X7_deedsOfAll_43
    rw [if_pos (show (64 : Int32) ≤ nI p from nI_le (a := 64) (by omega) (by omega))]
    by_cases z : q.1 = 0
    · rw [if_pos z, if_pos rfl, if_pos z]
    · rw [if_neg z, if_neg (show ¬ (1 : Int32) = 0 by decide), if_neg z]
  | succ k ih =>
    intro p f q h1 h2
    obtain ⟨f, rfl⟩ : ∃ g, f = g + 1 := ⟨f - 1, by omega⟩
    rw [show L_X7_deedsOfAll_7 Θ (f + 1) (gb Θ + 3) q.2 (if q.1 = 0 then 0 else 1) (nI p) (laz Θ S ω) n = B_X7_deedsOfAll_7 Θ (L_X7_deedsOfAll_7 Θ f) (gb Θ + 3) q.2 (if q.1 = 0 then 0 else 1) (nI p) (laz Θ S ω) n from rfl, show foA fit (k + 1) p q = foA fit k (p + 1) (if fit p = true then (q.1 + 1, q.2 &&& nI p) else q) from rfl]
    unfold B_X7_deedsOfAll_7 J_X7_deedsOfAll_28
    rw [if_neg (show ¬ (64 : Int32) ≤ nI p from nI_ge (b := 64) (by omega) (by omega)), a3_0, l_4 (by omega), h4 p (by omega), nI_1]
    cases hf : fit p with
    | false =>
      rw [if_pos (show b01 false = 0 from rfl), if_neg (show ¬ false = true by decide)]
      exact ih (p + 1) f q (by omega) (by omega)
    | true =>
      rw [if_neg (show ¬ b01 true = 0 by decide), if_pos rfl]
      have := ih (p + 1) f (q.1 + 1, q.2 &&& nI p) (by omega) (by omega)
      rw [if_neg (show ¬ q.1 + 1 = 0 by omega)] at this
      exact this
theorem m_fits_L {len : Nat} {b : Nat → Nat} {g : Nat → Int32} (hl : zF S 218 11 = nI len) (h40 : len ≤ 40) (ht : tdP len b 0) (hb : ∀ i, i < len → b i ≤ 255 ∧ zA S 224 i = (if b i < 128 then nI (b i) else nI (b i) - 256)) (hg : ∀ s, s < 10 → zA S 228 s = g s) : ∀ (m j f : Nat) (is : Bool), 2 * (j + m) = len → m < f → L_X11_fits_27 Θ f (gb Θ + 218) (b01 is) (nI (2 * j)) (laz Θ S ω) n = some (.inl (some (.int (b01 (is && dcC (ftP len b g j)))), laz Θ S ω, n)) := by
  intro m
  induction m with
  | zero =>
    intro j f is h1 h2
    obtain ⟨f, rfl⟩ : ∃ g, f = g + 1 := ⟨f - 1, by omega⟩
    unfold L_X11_fits_27 B_X11_fits_27
    rw [a218_11, hl, if_pos (nI_le (by omega) (by omega)), dcC_t (show ftP len b g j from fun k h3 h4 => by omega), Bool.and_true, bz_b]
  | succ m ih =>
    intro j f is h1 h2
    obtain ⟨f, rfl⟩ : ∃ g, f = g + 1 := ⟨f - 1, by omega⟩
    have hs := ht j (by omega) (by omega)
    have h0 := hb (2 * j) (by omega)
    have h3 := hb (2 * j + 1) (by omega)
    rw [if_pos (by omega)] at h0
    rw [show L_X11_fits_27 Θ (f + 1) (gb Θ + 218) (b01 is) (nI (2 * j)) (laz Θ S ω) n = B_X11_fits_27 Θ (L_X11_fits_27 Θ f) (gb Θ + 218) (b01 is) (nI (2 * j)) (laz Θ S ω) n from rfl]
    unfold B_X11_fits_27 J_X11_fits_72 J_X11_fits_73
    rw [a218_11, hl, if_neg (nI_ge (by omega) (by omega)), show nI (2 * j) + 2 = nI (2 * (j + 1)) from nI_add (2 * j) 2, nI_1]
    cases is with
    | false =>
      have e := ih (j + 1) f false (by omega) (by omega)
      rw [Bool.false_and] at e
      rw [if_pos (show b01 false = 0 from rfl), Bool.false_and]
      exact e
    | true =>
      rw [if_neg (show ¬ b01 true = 0 by decide), Bool.true_and, a218_26, a218_8, l_224 (by omega), h0.2, l_228 hs, hg _ hs, a218_8, l_224 (by omega), h3.2, by_and _ (by omega), dcC_c (ftP_s (g := g) (b := b) (show 2 * j < len by omega))]
      by_cases z : g (b (2 * j)) = nI (b (2 * j + 1))
      · have e := ih (j + 1) f true (by omega) (by omega)
        rw [Bool.true_and] at e
        rw [if_pos z, dcC_c (P := g (b (2 * j)) = nI (b (2 * j + 1)) ∧ ftP len b g (j + 1)) (Q := ftP len b g (j + 1)) ⟨fun u => u.2, fun u => ⟨z, u⟩⟩]
        exact e
      · have e := ih (j + 1) f false (by omega) (by omega)
        rw [Bool.false_and] at e
        rw [if_neg z, dcC_f (fun u => z u.1)]
        exact e
/-- the reference as found stands: world, tape -/
def FT (S : PZ) (w : Nat → Int32) (len : Nat) (b : Nat → Nat) : Prop := zA S 219 = w ∧ zF S 218 11 = nI len ∧ zF S 218 23 = 0 ∧ zF S 218 24 = 0 ∧ ∀ i, i < len → b i ≤ 255 ∧ zA S 224 i = (if b i < 128 then nI (b i) else nI (b i) - 256)
theorem FT.xp {len : Nat} {b : Nat → Nat} {S' : PZ} (h : FT S w len b) (x : XP S S') : FT S' w len b := by
  obtain ⟨h1, h2, h3, h4, h5⟩ := h
  exact ⟨by rw [x.2.1 219 (by decide) (by decide) (by decide) (by decide)]; exact h1, by rw [x.1 218 11 (by omega)]; exact h2, by rw [x.1 218 23 (by omega)]; exact h3, by rw [x.1 218 24 (by omega)]; exact h4, by rw [x.2.1 224 (by decide) (by decide) (by decide) (by decide)]; exact h5⟩
theorem m_fits (hW : WB w) (hM : LawM w lw) {nv len d : Nat} (hn : nv ≤ 60) {b : Nat → Nat} (h40 : len ≤ 40) (hev : len % 2 = 0) (ht : tdP len b 0) (hf : FT S w len b) : ∃ S', F_X11_fits Θ (gb Θ + 218) (nI d) (nI nv) (laz Θ S ω) n = some (.inl (some (.int (b01 (ftB w lw nv len b d))), laz Θ S' ω, n)) ∧ XP S S' ∧ ∀ j, j < 10 → zA S' 228 j = fgT w lw nv d j := by
  have x0 : XP S (uF (uF (uF S 218 18 (nI d)) 218 19 (nI nv)) 218 20 0) := (((XP.rf S).nF (by omega)).nF (by omega)).nF (by omega)
  have f0 := hf.xp x0
  obtain ⟨S', x, e, xp, r⟩ := m_strange (Θ := Θ) (S := uF (uF (uF S 218 18 (nI d)) 218 19 (nI nv)) 218 20 0) (ω := ω) (n := n) (lw := lw) f0.1 hW hM hn d (by rw [zF_ne _ _ (by omega), zF_ne _ _ (by omega), zF_eq]) (by rw [zF_ne _ _ (by omega), zF_eq]) (by rw [zF_eq]) f0.2.2.1 f0.2.2.2.1
  have f1 := f0.xp xp
  refine ⟨S', ?_, x0.trans xp, r⟩
  have e2 := m_fits_L (Θ := Θ) (S := S') (ω := ω) (n := n) (b := b) (g := fgT w lw nv d) f1.2.1 h40 ht f1.2.2.2.2 r (len / 2) 0 5000 true (by omega) (by omega)
  have e2 : L_X11_fits_27 Θ 5000 (gb Θ + 218) 1 0 (laz Θ S' ω) n = _ := e2
  unfold F_X11_fits
  rw [b218_18, b218_19, b218_20, d218, e, kI_v, e2, Bool.true_and]
  rfl
theorem m_found_L (hW : WB w) (hM : LawM w lw) {nv len : Nat} (hn : nv ≤ 60) {b : Nat → Nat} (h40 : len ≤ 40) (hev : len % 2 = 0) (ht : tdP len b 0) {l2 : Int32} : ∀ (k p f : Nat) (q : Nat × Int32) (S : PZ), p + k = 64 → k < f → q.1 ≤ p → FT S w len b → ∃ S', L_X11_found_36 Θ f (gb Θ + 218) (nI nv) l2 (nI q.1) q.2 (nI p) (laz Θ S ω) n = some (.inl (some (.int (if l2 = 0 then nI (foA (ftB w lw nv len b) k p q).1 else if (foA (ftB w lw nv len b) k p q).1 = 0 then 0 else (foA (ftB w lw nv len b) k p q).2)), laz Θ S' ω, n)) ∧ XP S S' := by
  intro k
  induction k with
  | zero =>
    intro p f q S h1 h2 hq hf
    obtain ⟨f, rfl⟩ : ∃ g, f = g + 1 := ⟨f - 1, by omega⟩
    refine ⟨S, ?_, XP.rf S⟩
    unfold L_X11_found_36 B_X11_found_36 J_X11_found_90
    rw [if_pos (show (64 : Int32) ≤ nI p from nI_le (a := 64) (by omega) (by omega)), show foA (ftB w lw nv len b) 0 p q = q from rfl]
    by_cases z : l2 = 0
    · rw [if_pos z, if_pos z]
    · rw [if_neg z, if_neg z]
      by_cases y : q.1 = 0
      · rw [y, if_pos (show nI 0 = 0 from rfl), if_pos rfl]
      · rw [if_neg (nI_ne0 (by omega) (by omega)), if_neg y]
  | succ k ih =>
    intro p f q S h1 h2 hq hf
    obtain ⟨f, rfl⟩ : ∃ g, f = g + 1 := ⟨f - 1, by omega⟩
    obtain ⟨S1, e1, x1, _⟩ := m_fits (Θ := Θ) (S := S) (ω := ω) (n := n) (lw := lw) (d := p) hW hM hn h40 hev ht hf
    rw [show L_X11_found_36 Θ (f + 1) (gb Θ + 218) (nI nv) l2 (nI q.1) q.2 (nI p) (laz Θ S ω) n = B_X11_found_36 Θ (L_X11_found_36 Θ f) (gb Θ + 218) (nI nv) l2 (nI q.1) q.2 (nI p) (laz Θ S ω) n from rfl, show foA (ftB w lw nv len b) (k + 1) p q = foA (ftB w lw nv len b) k (p + 1) (if ftB w lw nv len b p = true then (q.1 + 1, q.2 &&& nI p) else q) from rfl]
    unfold B_X11_found_36 J_X11_found_66
    rw [if_neg (show ¬ (64 : Int32) ≤ nI p from nI_ge (b := 64) (by omega) (by omega)), d218, e1, kI_v, nI_1]
    cases hf' : ftB w lw nv len b p with
    | false =>
      obtain ⟨S2, e2, x2⟩ := ih (p + 1) f q S1 (by omega) (by omega) (by omega) (hf.xp x1)
      rw [if_pos (show b01 false = 0 from rfl), if_neg (show ¬ false = true by decide)]
      exact ⟨S2, e2, x1.trans x2⟩
    | true =>
      obtain ⟨S2, e2, x2⟩ := ih (p + 1) f (q.1 + 1, q.2 &&& nI p) S1 (by omega) (by omega) (by show q.1 + 1 ≤ _; omega) (hf.xp x1)
      rw [if_neg (show ¬ b01 true = 0 by decide), if_pos rfl, nI_1]
      exact ⟨S2, e2, x1.trans x2⟩
/-- the class's sifting -/
theorem x_sift_y (hC : Core Θ S ω) (hL : LawR Θ ω (zR S 14 17) (zA S 219) lw) {nv len : Nat} (h1 : 1 ≤ nv) (hn : nv ≤ 60) {b : Nat → Nat} (hl : zF S 1 0 = nI len) (hb : ∀ i, i < len → zA S 2 i = nI (b i) ∧ b i ≤ 255) (h40 : len ≤ 40) (hev : len % 2 = 0) (ht : tdP len b 0) : ∃ S', F_X10_sift Θ (gb Θ) (nI nv) (laz Θ S ω) n = some (.inl (some (.int 1), laz Θ (uF S' 1 0 0) ω, n)) ∧ KS S S' ∧ ∀ u, u < 64 → zA S' 4 u = b01 (ftB (zA S 219) lw nv len b u) ∧ ∀ s, s < 10 → zA S' 5 (10 * u + s) = fgT (zA S 219) lw nv u s := by
  have hR : isR 202 := Or.inl rfl
  obtain ⟨xl, ld⟩ := x_laidN hC.1.1 hC.1.2.1 hL
  obtain ⟨S', e, ks, o⟩ := x_sift3_L (Θ := Θ) (S0 := S) (ω := ω) (n := n) hC.1.1 hL.2 hn h40 hev ht hl hb 64 0 5000 _ (by omega) (by omega) xl.ks ld (fun u hu => by omega)
  refine ⟨S', ?_, ks, o⟩
  unfold F_X10_sift J_X10_sift_26 J_X10_sift_54 F_X7_sift
  have e : L_X7_sift_3 Θ 5000 (gb Θ + 3) (gb Θ + 202) (nI nv) (gb Θ + 1) 0 _ n = _ := e
  rw [r10_5, d1, x_told hl (by omega) hb, kI_v, dcC_t (⟨h40, hev, ht⟩ : len ≤ 40 ∧ len % 2 = 0 ∧ tdP len b 0), if_neg (show ¬ b01 true = 0 by decide), if_neg (show ¬ nI nv < 1 from nI_nlt (b := 1) h1 (by omega)), if_neg (show ¬ (60 : Int32) < nI nv from nI_nlt (a := 60) hn (by omega)), if_neg (show ¬ (1 : Int32) = 0 by decide), r10_8, d202, x_lay hR, kV_v, r10_11, r10_8, r10_5, d3, e, kV_v, r10_5, b1_0, bz_1]
theorem x_sift_n {v : Int32} {len : Nat} {b : Nat → Nat} (hl : zF S 1 0 = nI len) (h4 : len ≤ 400) (hb : ∀ i, i < len → zA S 2 i = nI (b i) ∧ b i ≤ 255) (hno : ¬ ((len ≤ 40 ∧ len % 2 = 0 ∧ tdP len b 0) ∧ ¬ (v < 1 ∨ 60 < v))) : F_X10_sift Θ (gb Θ) v (laz Θ S ω) n = some (.inl (some (.int 0), laz Θ (uF S 1 0 0) ω, n)) := by
  unfold F_X10_sift J_X10_sift_25 J_X10_sift_26 J_X10_sift_54
  rw [r10_5, d1, x_told hl h4 hb, kI_v]
  by_cases z : len ≤ 40 ∧ len % 2 = 0 ∧ tdP len b 0
  · rw [dcC_t z, if_neg (show ¬ b01 true = 0 by decide)]
    have hv : v < 1 ∨ 60 < v := Classical.byContradiction fun u => hno ⟨z, u⟩
    by_cases y : v < 1
    · rw [if_pos y, if_pos rfl, r10_5, b1_0, bz_0]
    · rw [if_neg y, if_pos (hv.resolve_left y), if_pos rfl, r10_5, b1_0, bz_0]
  · rw [dcC_f z, if_pos (show b01 false = 0 from rfl), if_pos rfl, r10_5, b1_0, bz_0]
theorem nv_of {v : Int32} (h : ¬ (v < 1 ∨ 60 < v)) : ∃ nv, 1 ≤ nv ∧ nv ≤ 60 ∧ v = nI nv := by
  have h1 : ¬ v < 1 := fun u => h (Or.inl u)
  have h2 : ¬ 60 < v := fun u => h (Or.inr u)
  have e1 : (1 : Int32).toInt = 1 := by decide
  have e60 : (60 : Int32).toInt = 60 := by decide
  rw [Int32.lt_iff_toInt_lt, e1] at h1
  rw [Int32.lt_iff_toInt_lt, e60] at h2
  obtain ⟨j, hj, rfl⟩ := nI_of (x := v) (by rw [Int32.lt_iff_toInt_lt, Int32.toInt_zero]; omega)
  rw [nI_toInt hj] at h1 h2
  exact ⟨j, by omega, by omega, rfl⟩
theorem KS.kt {S' : PZ} (h : KS S S') : Kp S S' := by
  obtain ⟨h1, h2, h3, h4⟩ := h
  refine ⟨fun k j q => h1 k j ?_, fun k q => h2 k ?_ ?_ ?_ ?_, fun k j a b => h3 k j⟩
  · rintro rfl; simp [kpF] at q
  · rintro ⟨a, b⟩; simp [kpA] at q; omega
  · rintro rfl; simp [kpA] at q
  · rintro rfl; simp [kpA] at q
  · rintro rfl; simp [kpA] at q
theorem KS.idle {S' : PZ} (h : KS S S') (hI : Idle Θ S) : Idle Θ S' := by
  obtain ⟨h1, h2, h3, h4⟩ := h
  obtain ⟨i1, i2, i3, i4⟩ := hI
  exact ⟨by rw [h3, h3]; exact i1, by rw [h2 216 (by omega) (by omega) (by omega) (by omega), h2 217 (by omega) (by omega) (by omega) (by omega), h2 200 (by omega) (by omega) (by omega) (by omega)]; exact i2, by rw [h1 218 23 (by omega)]; exact i3, by rw [h1 218 24 (by omega)]; exact i4⟩
/-- the reference's tape is used up -/
theorem m_uses : F_X11_uses Θ (gb Θ + 218) (laz Θ S ω) n = some (.inl (none, laz Θ (uF (uF (uF (uF S 218 0 0) 218 11 (zF S 218 9)) 218 9 0) 218 10 0) ω, n)) := by
  unfold F_X11_uses
  rw [b218_0, a218_9, zF_ne _ _ (by omega), b218_11, b218_9, b218_10]
/-- both tapes are used up: at one still -/
theorem Core.used (hC : Core Θ S ω) : Core Θ (uF (uF (uF (uF (uF S 1 0 0) 218 0 0) 218 11 (zF S 218 9)) 218 9 0) 218 10 0) ω := by
  refine hC.kt ((((((KK.rf S).nF (by decide)).nF (by decide)).nF (by decide)).nF (by decide)).nF (by decide)) ⟨0, by omega, ?_, ?_⟩ hC.2.2.1 hC.2.2.2.1
  · rw [zF_ne _ _ (by omega), zF_ne _ _ (by omega), zF_ne _ _ (by omega), zF_ne _ _ (by omega), zF_eq]; rfl
  · rw [zF_ne _ _ (by omega), zF_eq]; rfl
end FO
theorem pc26 (Θ : GP) : PC_26 Θ (gb Θ) (gb Θ + 218) (gb Θ + 234) (Inv Θ) := by
  intro v xs i hI
  obtain ⟨S, ω, rfl, hC, hI⟩ := hI
  obtain ⟨lw, hL⟩ := hC.lw
  obtain ⟨len, h4, hl, hm⟩ := hC.2.1
  have hbb := fun i (hi : i < len) => tbN_eq hC (i := i) (by omega)
  have hbX : ∀ i, i < len → zA S 2 i = nI (tbN S i) ∧ tbN S i ≤ 255 := fun i hi => ⟨(hbb i hi).1, (hbb i hi).2.1⟩
  have hbM : ∀ i, i < len → tbN S i ≤ 255 ∧ zA S 224 i = (if tbN S i < 128 then nI (tbN S i) else nI (tbN S i) - 256) := fun i hi => (hbb i hi).2
  show stW Θ _ _ (fun ω n => W_found Θ (gb Θ) (xs (i + 1)) (bI (xs (i + 2))) (gb Θ + 234) ω n) (fun ω n => F_X11_found Θ (gb Θ + 218) (xs (i + 1)) (bI (xs (i + 2))) ω n) _ _
  generalize xs (i + 1) = v
  generalize bI (xs (i + 2)) = l2
  by_cases hv : (len ≤ 40 ∧ len % 2 = 0 ∧ tdP len (tbN S) 0) ∧ ¬ (v < 1 ∨ 60 < v)
  · obtain ⟨nv, n1, n60, rfl⟩ := nv_of hv.2
    obtain ⟨⟨h40, hev, ht⟩, hv2⟩ := hv
    refine fin_W fun n _ => ?_
    obtain ⟨S1, e1, ks, o⟩ := x_sift_y (n := n) hC hL n1 n60 hl hbX h40 hev ht
    have h4' : ∀ u, u < 64 → zA (uF S1 1 0 0) 4 u = b01 (ftB (zA S 219) lw nv len (tbN S) u) := fun u hu => (o u hu).1
    have em : L_X7_howMany_4 Θ 5000 (gb Θ + 3) 0 0 (laz Θ (uF S1 1 0 0) ω) n = _ := x_many_L (Θ := Θ) (ω := ω) (n := n) h4' 64 0 5000 (0, 63) (by omega) (by omega)
    have ed : L_X7_deedsOfAll_7 Θ 5000 (gb Θ + 3) 63 0 0 (laz Θ (uF S1 1 0 0) ω) n = _ := x_deeds_L (Θ := Θ) (ω := ω) (n := n) h4' 64 0 5000 (0, 63) (by omega) (by omega)
    have ef : ∀ r : Int32, r = (if l2 = 0 then nI (foA (ftB (zA S 219) lw nv len (tbN S)) 64 0 (0, 63)).1 else if (foA (ftB (zA S 219) lw nv len (tbN S)) 64 0 (0, 63)).1 = 0 then 0 else (foA (ftB (zA S 219) lw nv len (tbN S)) 64 0 (0, 63)).2) → W_found Θ (gb Θ) (nI nv) l2 (gb Θ + 234) (laz Θ S ω) n = some (0, laz Θ (uL (uF S1 1 0 0) 234 r.toInt64) ω) := by
      intro r hr
      unfold W_found F_X10_found J_X10_found_40 F_X7_howMany F_X7_deedsOfAll
      rw [c10w, c10, e1, kI_v, if_neg (show ¬ (1 : Int32) = 0 by decide), hr]
      by_cases z : l2 = 0
      · rw [if_pos z, if_pos z, r10_11, d3, em, kI_v, wrJ_v]
      · rw [if_neg z, if_neg z, r10_11, d3, ed, kI_v, wrJ_v]
    generalize hr : (if l2 = 0 then nI (foA (ftB (zA S 219) lw nv len (tbN S)) 64 0 (0, 63)).1 else if (foA (ftB (zA S 219) lw nv len (tbN S)) 64 0 (0, 63)).1 = 0 then 0 else (foA (ftB (zA S 219) lw nv len (tbN S)) 64 0 (0, 63)).2) = r at ef
    refine ⟨0, uL (uF S1 1 0 0) 234 r.toInt64, ω, ef r rfl, fun n2 => ?_⟩
    have hC1 : Core Θ (uL S1 234 r.toInt64) ω := (hC.kp ks.kt).nL
    have hI1 : Idle Θ (uL S1 234 r.toInt64) := (ks.idle hI).nL
    have hCu := hC1.used
    have hIu : Idle Θ (uF (uF (uF (uF (uF (uL S1 234 r.toInt64) 1 0 0) 218 0 0) 218 11 (zF (uL S1 234 r.toInt64) 218 9)) 218 9 0) 218 10 0) := ((((hI1.nF (by omega)).nF (by omega)).nF (by omega)).nF (by omega)).nF (by omega)
    have eu := m_uses (Θ := Θ) (S := uL (uF S1 1 0 0) 234 r.toInt64) (ω := ω) (n := n2)
    have eu : F_X11_uses Θ (gb Θ + 218) (laz Θ (uL (uF S1 1 0 0) 234 r.toInt64) ω) n2 = some (.inl (none, laz Θ (uF (uF (uF (uF (uF (uL S1 234 r.toInt64) 1 0 0) 218 0 0) 218 11 (zF (uL S1 234 r.toInt64) 218 9)) 218 9 0) 218 10 0) ω, n2)) := eu
    have hL11 : zF (uF (uF (uF (uF (uF (uL S1 234 r.toInt64) 1 0 0) 218 0 0) 218 11 (zF (uL S1 234 r.toInt64) 218 9)) 218 9 0) 218 10 0) 218 11 = nI len := by
      rw [zF_ne _ _ (by omega), zF_ne _ _ (by omega), zF_eq]
      exact (ks.1 218 9 (by omega)).trans hm
    have h00 : zF (uF (uF (uF (uF (uF (uL S1 234 r.toInt64) 1 0 0) 218 0 0) 218 11 (zF (uL S1 234 r.toInt64) 218 9)) 218 9 0) 218 10 0) 218 0 = 0 := by
      rw [zF_ne _ _ (by omega), zF_ne _ _ (by omega), zF_ne _ _ (by omega), zF_eq]
    have hLL : zL (uF (uF (uF (uF (uF (uL S1 234 r.toInt64) 1 0 0) 218 0 0) 218 11 (zF (uL S1 234 r.toInt64) 218 9)) 218 9 0) 218 10 0) 234 = r.toInt64 := rfl
    have hA19 : zA (uF (uF (uF (uF (uF (uL S1 234 r.toInt64) 1 0 0) 218 0 0) 218 11 (zF (uL S1 234 r.toInt64) 218 9)) 218 9 0) 218 10 0) 219 = zA S 219 := ks.2.1 219 (by omega) (by omega) (by omega) (by omega)
    have hA24 : zA (uF (uF (uF (uF (uF (uL S1 234 r.toInt64) 1 0 0) 218 0 0) 218 11 (zF (uL S1 234 r.toInt64) 218 9)) 218 9 0) 218 10 0) 224 = zA S 224 := ks.2.1 224 (by omega) (by omega) (by omega) (by omega)
    generalize uF (uF (uF (uF (uF (uL S1 234 r.toInt64) 1 0 0) 218 0 0) 218 11 (zF (uL S1 234 r.toInt64) 218 9)) 218 9 0) 218 10 0 = T at *
    have hft : FT T (zA S 219) len (tbN S) := ⟨hA19, hL11, hIu.2.2.1, hIu.2.2.2, by rw [hA24]; exact hbM⟩
    obtain ⟨S2, e2, x2⟩ := m_found_L (Θ := Θ) (ω := ω) (n := n2) (lw := lw) (l2 := l2) hC.1.1 hL.2 n60 h40 hev ht 64 0 5000 (0, 63) T (by omega) (by omega) (by omega) hft
    rw [hr] at e2
    have e2 : L_X11_found_36 Θ 5000 (gb Θ + 218) (nI nv) l2 0 63 0 (laz Θ T ω) n2 = _ := e2
    refine ⟨r, S2, n2, ?_, (x2.1 218 0 (by omega)).trans h00, fun _ => (x2.2.2.2 234).trans hLL, hCu.kp x2.kp, x2.idle hIu⟩
    show F_X11_found Θ (gb Θ + 218) (nI nv) l2 (laz Θ (uL (uF S1 1 0 0) 234 r.toInt64) ω) n2 = _
    unfold F_X11_found J_X11_found_18
    rw [d218, eu, kV_v, d218, m_told hL11 h4 hft.2.2.2.2, kI_v, dcC_t (⟨⟨h40, hev, ht⟩, hv2⟩ : (len ≤ 40 ∧ len % 2 = 0 ∧ tdP len (tbN S) 0) ∧ ¬ (nI nv < 1 ∨ 60 < nI nv)), if_neg (show ¬ b01 true = 0 by decide), d218, m_throwsIf0, kI_v, if_pos rfl, e2]
  · refine fin_W fun n _ => ⟨1, uF S 1 0 0, ω, ?_, fun n2 => ⟨0, uF (uF (uF (uF (uF (uF S 1 0 0) 218 0 0) 218 11 (zF S 218 9)) 218 9 0) 218 10 0) 218 0 1, n2, ?_, zF_eq _ _ _ _, fun h => absurd h (by decide), hC.used.thr, (((((hI.nF (by omega)).nF (by omega)).nF (by omega)).nF (by omega)).nF (by omega)).thr⟩⟩
    · show W_found Θ (gb Θ) v l2 (gb Θ + 234) (laz Θ S ω) n = _
      unfold W_found F_X10_found
      rw [c10w, c10, x_sift_n hl h4 hbX hv, kI_v, if_pos rfl, wrJ_x]
    · show F_X11_found Θ (gb Θ + 218) v l2 (laz Θ (uF S 1 0 0) ω) n2 = _
      unfold F_X11_found J_X11_found_18
      rw [d218, m_uses, kV_v, d218, m_told (S := uF (uF (uF (uF (uF S 1 0 0) 218 0 0) 218 11 (zF (uF S 1 0 0) 218 9)) 218 9 0) 218 10 0) (len := len) (b := tbN S) (by rw [zF_ne _ _ (by omega), zF_ne _ _ (by omega), zF_eq]; exact hm) h4 hbM, kI_v, dcC_f hv, if_pos (show b01 false = 0 from rfl), d218, m_throwsIf1, kI_v, if_neg (show ¬ (1 : Int32) = 0 by decide)]
      rfl
