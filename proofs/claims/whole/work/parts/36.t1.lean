def lvX (G : Nat → Bool) : Nat → Nat → Nat → Nat
  | 0, _, b => b
  | k + 1, s, b => lvX G k (s + 1) (if G s = true ∧ cnt8 s < cnt8 b then s else b)
def lvM (G : Nat → Bool) : Nat → Nat → Nat
  | 0, b => b
  | k + 1, b => lvM G k (if G k = true ∧ cnt8 k ≤ cnt8 b then k else b)
/-- b is best of those below e, or M -/
theorem lvX_spec {G : Nat → Bool} {M : Nat} (hG : ∀ s, G s = true → s ≤ M ∧ cnt8 s ≤ cnt8 M ∧ (cnt8 s = cnt8 M → s = M)) : ∀ (k s b : Nat), (b = M ∨ (G b = true ∧ b < s)) → (∀ t, t < s → G t = true → cnt8 b < cnt8 t ∨ (cnt8 b = cnt8 t ∧ b ≤ t)) → (lvX G k s b = M ∨ G (lvX G k s b) = true) ∧ ∀ t, t < s + k → G t = true → cnt8 (lvX G k s b) < cnt8 t ∨ (cnt8 (lvX G k s b) = cnt8 t ∧ lvX G k s b ≤ t) := by
  intro k
  induction k with
  | zero => intro s b h1 h2; exact ⟨h1.imp id (fun h => h.1), fun t ht => h2 t (by omega)⟩
  | succ k ih =>
    intro s b h1 h2
    have e : lvX G (k + 1) s b = lvX G k (s + 1) (if G s = true ∧ cnt8 s < cnt8 b then s else b) := rfl
    rw [e, show s + (k + 1) = s + 1 + k by omega]
    by_cases z : G s = true ∧ cnt8 s < cnt8 b
    · rw [if_pos z]
      refine ih (s + 1) s (Or.inr ⟨z.1, by omega⟩) (fun t ht hg => ?_)
      by_cases y : t = s
      · subst y; exact Or.inr ⟨rfl, Nat.le_refl _⟩
      · have := h2 t (by omega) hg; omega
    · rw [if_neg z]
      refine ih (s + 1) b (h1.imp id (fun h => ⟨h.1, by omega⟩)) (fun t ht hg => ?_)
      by_cases y : t = s
      · subst y
        have hz : ¬ cnt8 t < cnt8 b := fun u => z ⟨hg, u⟩
        have := hG t hg
        rcases h1 with rfl | h1
        · omega
        · omega
      · exact h2 t (by omega) hg
theorem lvM_spec {G : Nat → Bool} {M : Nat} : ∀ (k b : Nat), (b = M ∨ G b = true) → cnt8 b ≤ cnt8 M → (∀ t, k ≤ t → t ≤ M → G t = true → cnt8 b < cnt8 t ∨ (cnt8 b = cnt8 t ∧ b ≤ t)) → (lvM G k b = M ∨ G (lvM G k b) = true) ∧ cnt8 (lvM G k b) ≤ cnt8 M ∧ ∀ t, t ≤ M → G t = true → cnt8 (lvM G k b) < cnt8 t ∨ (cnt8 (lvM G k b) = cnt8 t ∧ lvM G k b ≤ t) := by
  intro k
  induction k with
  | zero => intro b h1 h2 h3; exact ⟨h1, h2, fun t ht => h3 t (by omega) ht⟩
  | succ k ih =>
    intro b h1 h2 h3
    have e : lvM G (k + 1) b = lvM G k (if G k = true ∧ cnt8 k ≤ cnt8 b then k else b) := rfl
    rw [e]
    by_cases z : G k = true ∧ cnt8 k ≤ cnt8 b
    · rw [if_pos z]
      refine ih k (Or.inr z.1) (by omega) (fun t ht hM hg => ?_)
      by_cases y : t = k
      · subst y; exact Or.inr ⟨rfl, Nat.le_refl _⟩
      · have := h3 t (by omega) hM hg; omega
    · rw [if_neg z]
      refine ih b h1 h2 (fun t ht hM hg => ?_)
      by_cases y : t = k
      · subst y
        have hz : ¬ cnt8 t ≤ cnt8 b := fun u => z ⟨hg, u⟩
        omega
      · exact h3 t (by omega) hM hg
theorem lv_eq {G : Nat → Bool} {M : Nat} (hM : M < 256) (hG : ∀ s, G s = true → s ≤ M ∧ cnt8 s ≤ cnt8 M ∧ (cnt8 s = cnt8 M → s = M)) : lvX G 256 0 M = lvM G (M + 1) M := by
  obtain ⟨x1, x2⟩ := lvX_spec hG 256 0 M (Or.inl rfl) (fun t ht => by omega)
  obtain ⟨m1, m2, m3⟩ := lvM_spec (G := G) (M := M) (M + 1) M (Or.inl rfl) (Nat.le_refl _) (fun t h1 h2 => by omega)
  generalize lvX G 256 0 M = X at *
  generalize lvM G (M + 1) M = Y at *
  rcases x1 with rfl | x1
  · rcases m1 with m1 | m1
    · exact m1.symm
    · have a1 := x2 Y (by have := hG Y m1; omega) m1
      have a2 := hG Y m1
      omega
  · have b1 := hG X x1
    rcases m1 with rfl | m1
    · have a1 := m3 X (by omega) x1
      have a2 := hG X x1
      omega
    · have b2 := hG Y m1
      have a1 := x2 Y (by omega) m1
      have a2 := m3 X (by omega) x1
      omega
theorem lvX_lt {G : Nat → Bool} : ∀ (k s b : Nat), b < 256 → s + k ≤ 256 → lvX G k s b < 256 := by
  intro k
  induction k with
  | zero => intro s b h _; exact h
  | succ k ih =>
    intro s b h h2
    refine ih (s + 1) _ ?_ (by omega)
    split <;> omega
theorem orL_rg {g : Nat → Int32} : ∀ (k p : Nat) (a : Int32), (∀ q, p ≤ q → q < p + k → Rg (g q) 255) → Rg a 255 → Rg (orL g k p a) 255 := by
  intro k
  induction k with
  | zero => intro p a _ ha; exact ha
  | succ k ih =>
    intro p a hg ha
    exact ih (p + 1) _ (fun q h1 h2 => hg q (by omega) (by omega)) (ha.or (hg p (by omega) (by omega)))
theorem gna_rg {w : Nat → Int32} {P : Nat} (hP : P ≤ 8) : Rg (orL (gna w) P 0 0) 255 := by
  refine orL_rg P 0 0 (fun q _ h => ?_) ⟨0, by omega, rfl⟩
  unfold gna
  split
  · exact ⟨0, by omega, rfl⟩
  · have := Nat.pow_le_pow_right (show 0 < 2 by omega) (show q ≤ 7 by omega)
    exact ⟨2 ^ q, by omega, bit_rg _ (by omega)⟩
theorem cnt8_le (s : Nat) : cnt8 s ≤ 8 := by
  unfold cnt8
  have h0 := Nat.mod_lt s (show 0 < 2 by omega)
  have h1 := Nat.mod_lt (s / 2) (show 0 < 2 by omega)
  have h2 := Nat.mod_lt (s / 4) (show 0 < 2 by omega)
  have h3 := Nat.mod_lt (s / 8) (show 0 < 2 by omega)
  have h4 := Nat.mod_lt (s / 16) (show 0 < 2 by omega)
  have h5 := Nat.mod_lt (s / 32) (show 0 < 2 by omega)
  have h6 := Nat.mod_lt (s / 64) (show 0 < 2 by omega)
  have h7 := Nat.mod_lt (s / 128) (show 0 < 2 by omega)
  generalize s % 2 = a0 at *
  generalize s / 2 % 2 = a1 at *
  generalize s / 4 % 2 = a2 at *
  generalize s / 8 % 2 = a3 at *
  generalize s / 16 % 2 = a4 at *
  generalize s / 32 % 2 = a5 at *
  generalize s / 64 % 2 = a6 at *
  generalize s / 128 % 2 = a7 at *
  omega
/-- S' is as S but for what the reference writes in rides with some taken away or eased -/
def XV (S S' : PZ) : Prop := (∀ k j, ¬ (k = 218 ∧ ((18 ≤ j ∧ j ≤ 24) ∨ (28 ≤ j ∧ j ≤ 30))) → zF S' k j = zF S k j) ∧ (∀ k, k ≠ 226 → k ≠ 227 → k ≠ 228 → k ≠ 229 → zA S' k = zA S k) ∧ (∀ k j, zR S' k j = zR S k j) ∧ (∀ k, zL S' k = zL S k)
theorem XV.rf (S : PZ) : XV S S := ⟨fun _ _ _ => rfl, fun _ _ _ _ _ => rfl, fun _ _ => rfl, fun _ => rfl⟩
theorem XV.xp {S S' S'' : PZ} (h : XV S S') (g : XP S' S'') : XV S S'' := ⟨fun k j q => (g.1 k j (by omega)).trans (h.1 k j q), fun k a b c d => (g.2.1 k a b c d).trans (h.2.1 k a b c d), fun k j => (g.2.2.1 k j).trans (h.2.2.1 k j), fun k => (g.2.2.2 k).trans (h.2.2.2 k)⟩
theorem XV.nF {S S' : PZ} (h : XV S S') {j : Nat} {v : Int32} (q : 18 ≤ j ∧ j ≤ 24) : XV S (uF S' 218 j v) := ⟨fun k i z => by rw [zF_ne _ _ (by omega), h.1 k i z], h.2.1, h.2.2.1, h.2.2.2⟩
theorem XV.back {S S' : PZ} (h : XV S S') (h1 : zF S' 218 23 = zF S 218 23) (h2 : zF S' 218 24 = zF S 218 24) : XP S S' := ⟨fun k j q => by
  by_cases z : k = 218 ∧ (j = 23 ∨ j = 24)
  · obtain ⟨rfl, rfl | rfl⟩ := z
    · exact h1
    · exact h2
  · exact h.1 k j (by omega), h.2⟩
noncomputable def gdS (w : Nat → Int32) (lw : LW) (M : Nat) (s : Nat) : Bool := decide (nI s &&& (nI M ^^^ -1) = 0) && (decide (¬ qtF w lw (nI s) (cO' w) 0 = 0) && decide (s < 256))
section LV
variable {Θ : GP} {S S0 : PZ} {ω : OW} {n : Nat} {w : Nat → Int32} {lw : LW}
theorem x_leave_L (hC : Core Θ S0 ω) (hL : LawR Θ ω (zR S0 14 17) (zA S0 219) lw) {M : Nat} : ∀ (k s f b : Nat) (S : PZ), s + k = 256 → k < f → XL 202 S0 S → b < 256 → ∃ S', L_X10_leave_15 Θ f (gb Θ) (nI M) (nI b) (nI (cnt8 b)) (nI s) (laz Θ S ω) n = some (.inl (some (.int (nI (lvX (gdS (zA S0 219) lw M) k s b))), laz Θ S' ω, n)) ∧ XL 202 S0 S' := by
  intro k
  induction k with
  | zero =>
    intro s f b S h1 h2 xl hb
    obtain ⟨f, rfl⟩ : ∃ g, f = g + 1 := ⟨f - 1, by omega⟩
    refine ⟨S, ?_, xl⟩
    unfold L_X10_leave_15 B_X10_leave_15
    rw [if_pos (show (256 : Int32) ≤ nI s from nI_le (a := 256) (by omega) (by omega))]
    rfl
  | succ k ih =>
    intro s f b S h1 h2 xl hb
    obtain ⟨f, rfl⟩ : ∃ g, f = g + 1 := ⟨f - 1, by omega⟩
    have p1 := cnt8_le s
    have p2 := cnt8_le b
    rw [show L_X10_leave_15 Θ (f + 1) (gb Θ) (nI M) (nI b) (nI (cnt8 b)) (nI s) (laz Θ S ω) n = B_X10_leave_15 Θ (L_X10_leave_15 Θ f) (gb Θ) (nI M) (nI b) (nI (cnt8 b)) (nI s) (laz Θ S ω) n from rfl, show lvX (gdS (zA S0 219) lw M) (k + 1) s b = lvX (gdS (zA S0 219) lw M) k (s + 1) (if gdS (zA S0 219) lw M s = true ∧ cnt8 s < cnt8 b then s else b) from rfl]
    unfold B_X10_leave_15 J_X10_leave_45 J_X10_leave_46 J_X10_leave_71
    rw [if_neg (show ¬ (256 : Int32) ≤ nI s from nI_ge (b := 256) (by omega) (by omega)), nI_1]
    by_cases z : nI s &&& (nI M ^^^ -1) = 0
    · rw [if_pos z, e_bc, kI_v, bc_tab s (by omega)]
      by_cases y : cnt8 s < cnt8 b
      · rw [if_neg (show ¬ nI (cnt8 b) ≤ nI (cnt8 s) from nI_ge y (by omega)), if_neg (show ¬ (1 : Int32) = 0 by decide)]
        obtain ⟨S1, e1, x1⟩ := x_isQuietWithout (n := n) hC hL xl (nI s)
        rw [c10, e1, kI_v]
        by_cases v : qtF (zA S0 219) lw (nI s) (cO' (zA S0 219)) 0 = 0
        · rw [if_pos v, if_neg (show ¬ (gdS (zA S0 219) lw M s = true ∧ cnt8 s < cnt8 b) from fun u => by
            have := u.1
            unfold gdS at this
            exact of_decide_eq_true ((Bool.and_eq_true _ _).mp ((Bool.and_eq_true _ _).mp this).2).1 v)]
          exact ih (s + 1) f b S1 (by omega) (by omega) x1 hb
        · rw [if_neg v, e_bc, kI_v, bc_tab s (by omega), if_pos (show gdS (zA S0 219) lw M s = true ∧ cnt8 s < cnt8 b from ⟨by unfold gdS; rw [decide_eq_true z, decide_eq_true v, decide_eq_true (by omega)]; rfl, y⟩)]
          exact ih (s + 1) f s S1 (by omega) (by omega) x1 (by omega)
      · rw [if_pos (show nI (cnt8 b) ≤ nI (cnt8 s) from nI_le (by omega) (by omega)), if_pos rfl, if_neg (fun u => y u.2)]
        exact ih (s + 1) f b S (by omega) (by omega) xl hb
    · rw [if_neg z, if_pos rfl, if_neg (show ¬ (gdS (zA S0 219) lw M s = true ∧ cnt8 s < cnt8 b) from fun u => by
        have := u.1
        unfold gdS at this
        rw [decide_eq_false z, Bool.false_and] at this
        cases this)]
      exact ih (s + 1) f b S (by omega) (by omega) xl hb
theorem m_leave_L (hW : WB w) (hM : LawM w lw) {M : Nat} : ∀ (k f b : Nat) (S : PZ), k ≤ 256 → k < f → b < 256 → XV S0 S → zA S 219 = w → zF S 218 24 = 0 → ∃ S', L_X11_leave_14 Θ f (gb Θ + 218) (nI M) (nI b) (nI k + (-1)) (laz Θ S ω) n = some (.inl (some (.int (nI (lvM (gdS w lw M) k b))), laz Θ S' ω, n)) ∧ XV S0 S' ∧ zF S' 218 23 = 0 ∧ zF S' 218 24 = 0 := by
  intro k
  induction k with
  | zero =>
    intro f b S h1 h2 hb xv hw h24
    obtain ⟨f, rfl⟩ : ∃ g, f = g + 1 := ⟨f - 1, by omega⟩
    refine ⟨uF S 218 23 0, ?_, xv.nF (by omega), zF_eq _ _ _ _, by rw [zF_ne _ _ (by omega)]; exact h24⟩
    unfold L_X11_leave_14 B_X11_leave_14
    rw [if_pos (by decide), b218_23]
    rfl
  | succ k ih =>
    intro f b S h1 h2 hb xv hw h24
    obtain ⟨f, rfl⟩ : ∃ g, f = g + 1 := ⟨f - 1, by omega⟩
    have p1 := cnt8_le k
    have p2 := cnt8_le b
    have hw2 : zA (uF S 218 23 (nI k)) 219 = w := hw
    have h242 : zF (uF S 218 23 (nI k)) 218 24 = 0 := by rw [zF_ne _ _ (by omega)]; exact h24
    have xv2 : XV S0 (uF S 218 23 (nI k)) := xv.nF (by omega)
    rw [m1_add (by omega), show k + 1 - 1 = k by omega, show L_X11_leave_14 Θ (f + 1) (gb Θ + 218) (nI M) (nI b) (nI k) (laz Θ S ω) n = B_X11_leave_14 Θ (L_X11_leave_14 Θ f) (gb Θ + 218) (nI M) (nI b) (nI k) (laz Θ S ω) n from rfl, show lvM (gdS w lw M) (k + 1) b = lvM (gdS w lw M) k (if gdS w lw M k = true ∧ cnt8 k ≤ cnt8 b then k else b) from rfl]
    unfold B_X11_leave_14 J_X11_leave_53 J_X11_leave_54
    rw [if_neg (nI_pos (by omega)), b218_23]
    by_cases z : nI k &&& (nI M ^^^ -1) = 0
    · rw [if_pos z, e_bc, kI_v, e_bc, kI_v, bc_tab k (by omega), bc_tab b hb]
      by_cases y : cnt8 k ≤ cnt8 b
      · obtain ⟨S1, e1, x1⟩ := m_isQuiet (Θ := Θ) (ω := ω) (n := n) hw2 hW hM (zF_eq _ _ _ _) h242
        have hw3 := (x1.2.1 219 (by decide) (by decide) (by decide) (by decide)).trans hw2
        have h243 := (x1.1 218 24 (by omega)).trans h242
        rw [if_neg (show ¬ nI (cnt8 b) < nI (cnt8 k) from nI_nlt (by omega) (by omega)), d218, e1, kI_v]
        by_cases v : qtF w lw (nI k) (cO' w) 0 = 0
        · rw [if_pos v, if_neg (show ¬ (gdS w lw M k = true ∧ cnt8 k ≤ cnt8 b) from fun u => by
            have := u.1
            unfold gdS at this
            exact of_decide_eq_true ((Bool.and_eq_true _ _).mp ((Bool.and_eq_true _ _).mp this).2).1 v)]
          exact ih f b S1 (by omega) (by omega) hb (xv2.xp x1) hw3 h243
        · rw [if_neg v, if_pos (show gdS w lw M k = true ∧ cnt8 k ≤ cnt8 b from ⟨by unfold gdS; rw [decide_eq_true z, decide_eq_true v, decide_eq_true (by omega)]; rfl, y⟩)]
          exact ih f k S1 (by omega) (by omega) (by omega) (xv2.xp x1) hw3 h243
      · rw [if_pos (show nI (cnt8 b) < nI (cnt8 k) from nI_lt (by omega) (by omega)), if_neg (fun u => y u.2)]
        exact ih f b _ (by omega) (by omega) hb xv2 hw2 h242
    · rw [if_neg z, if_neg (show ¬ (gdS w lw M k = true ∧ cnt8 k ≤ cnt8 b) from fun u => by
        have := u.1
        unfold gdS at this
        rw [decide_eq_false z, Bool.false_and] at this
        cases this)]
      exact ih f b _ (by omega) (by omega) hb xv2 hw2 h242
end LV
theorem pc31 (Θ : GP) : PC_31 Θ (gb Θ) (gb Θ + 218) (gb Θ + 234) (Inv Θ) := by
  intro v xs i hI
  obtain ⟨S, ω, rfl, hC, hI⟩ := hI
  have hP := hC.P
  have hR : isR 202 := Or.inl rfl
  obtain ⟨lw, hL⟩ := hC.lw
  show stI (gb Θ) (gb Θ + 218) (fun ω n => F_X10_leave Θ (gb Θ) ω n) (fun ω n => F_X11_leave Θ (gb Θ + 218) ω n) (Inv Θ) _
  obtain ⟨M, hM, hN⟩ := gna_rg (w := zA S 219) hP.2.1
  have hM : M < 256 := by omega
  refine fin_I fun n _ => ?_
  obtain ⟨S1, e1, x1⟩ := x_leave_L (Θ := Θ) (n := n) (M := M) hC hL 256 0 5000 M S (by omega) (by omega) (XL.rf 202 S) hM
  have h9 : zA S1 219 = zA S 219 := x1.2.1 219 (by omega)
  have hC1 := hC.kp (x1.kp hR)
  have hI1 := x1.idle hR hI
  refine ⟨nI (lvX (gdS (zA S 219) lw M) 256 0 M), S1, ω, n, ?_, fun n2 => ?_⟩
  · show F_X10_leave Θ (gb Θ) (laz Θ S ω) n = _
    unfold F_X10_leave
    rw [c10, x_nailedProps hC.1.2.1 hP.2.2 hP.2.1 rfl hC.1.1, kI_v, hN, e_bc, kI_v, bc_tab M hM]
    exact e1
  · obtain ⟨S2, e2, x2, h23, h24⟩ := m_leave_L (Θ := Θ) (S0 := uF S1 218 0 0) (ω := ω) (n := n2) (lw := lw) (M := M) hC.1.1 hL.2 (M + 1) 5000 M (uF S1 218 0 0) (by omega) (by omega) hM (XV.rf _) h9 (by rw [zF_ne _ _ (by omega)]; exact hI1.2.2.2)
    have xp : XP (uF S1 218 0 0) S2 := x2.back (h23.trans (hI1.thr (v := 0)).2.2.1.symm) (h24.trans (hI1.thr (v := 0)).2.2.2.symm)
    refine ⟨S2, n2, ?_, hC1.thr.kp xp.kp, xp.idle hI1.thr⟩
    show F_X11_leave Θ (gb Θ + 218) (laz Θ S1 ω) n2 = _
    unfold F_X11_leave
    have h9' : zA (uF S1 218 0 0) 219 = zA S 219 := h9
    rw [b218_0, d218, m_nailedOnes (P := cP (zA S 219)) (by rw [h9']; exact hP.1) hP.2.1, kI_v, h9', hN]
    have e2 : L_X11_leave_14 Θ 5000 (gb Θ + 218) (nI M) (nI M) (nI (M + 1) + (-1)) (laz Θ (uF S1 218 0 0) ω) n2 = _ := e2
    rw [m1_add (by omega), show M + 1 - 1 = M by omega] at e2
    rw [e2, lv_eq hM]
    intro s hs
    unfold gdS at hs
    have hs2 := (Bool.and_eq_true _ _).mp hs
    have hs3 := of_decide_eq_true hs2.1
    have hs4 := of_decide_eq_true ((Bool.and_eq_true _ _).mp hs2.2).2
    exact sub_le hs4 hM hs3
