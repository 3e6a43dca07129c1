/-! promises 34, 40: bravest, loudest -/
noncomputable def br1 (w : Nat → Int32) (lw : LW) (a : Nat) (q : Int32 × Int32) : Int32 × Int32 := if w (4 * a + 44) = 0 ∧ nI (odN (cPar w lw a false false)) < q.2 then (nI a, nI (odN (cPar w lw a false false))) else q
noncomputable def brS (w : Nat → Int32) (lw : LW) : Nat → Nat → Int32 × Int32 → Int32
  | 0, _, q => q.1
  | k + 1, a, q => brS w lw k (a + 1) (br1 w lw a q)
def brI (q : Int32 × Int32) : Prop := (q.1 = -1 ∧ q.2 = 100000000) ∨ (¬ q.1 = -1 ∧ ∃ m, m ≤ 10000 ∧ q.2 = nI m)
theorem br1_I {w : Nat → Int32} {lw : LW} (hW : WB w) (hM : LawM w lw) {a : Nat} (ha : a < 6) {q : Int32 × Int32} (h : brI q) : brI (br1 w lw a q) := by
  unfold br1
  split
  · exact Or.inr ⟨fun u => ((q_m1 (by omega)).mp u).elim, _, od_lt hW hM ha, rfl⟩
  · exact h
theorem brI_lt {q : Int32 × Int32} (h : brI q) {m : Nat} (hm : m ≤ 10000) (h1 : q.1 = -1) : nI m < q.2 := by
  rcases h with ⟨_, h⟩ | ⟨h, _⟩
  · rw [h]; exact nI_lt (b := 100000000) (by omega) (by omega)
  · exact absurd h1 h
theorem brI_le {q : Int32 × Int32} (h : brI q) : q.2 ≤ 100000000 ∧ ¬ (100000000 : Int32) < q.2 := by
  rcases h with ⟨_, h⟩ | ⟨_, m, hm, h⟩
  · rw [h]; decide
  · rw [h]; exact ⟨nI_le (b := 100000000) (by omega) (by omega), nI_nlt (a := 100000000) (by omega) (by omega)⟩
section BR
variable {Θ : GP} {S S0 : PZ} {ω : OW} {n : Nat} {w : Nat → Int32} {lw : LW}
theorem x_br_L (hC : Core Θ S0 ω) (hM : LawM (zA S0 219) lw) : ∀ (k a f : Nat) (q : Int32 × Int32) (S : PZ), a + k = cO' (zA S0 219) → k < f → brI q → XKw S0 S → RLd Θ S ω (zA S0 219) lw (fun s => pin (zA S0 219) (nI s)) (fun _ => false) → IdW Θ S → ∃ S', L_X10_bravest_13 Θ f (gb Θ) q.1 (if q.1 = -1 then 0 else q.2) (nI a) (laz Θ S ω) n = some (.inl (some (.int (brS (zA S0 219) lw k a q)), laz Θ S' ω, n)) ∧ XKw S0 S' ∧ IdW Θ S' := by
  have hO := hC.O
  intro k
  induction k with
  | zero =>
    intro a f q S h1 h2 hq xk hl hi
    obtain ⟨f, rfl⟩ : ∃ g, f = g + 1 := ⟨f - 1, by omega⟩
    refine ⟨S, ?_, xk, hi⟩
    unfold L_X10_bravest_13 B_X10_bravest_13
    rw [r10_0, a14_1, xk.1 14 1 (by omega) (by omega), hO.2.2, if_pos (nI_le (by omega) (by omega))]
    rfl
  | succ k ih =>
    intro a f q S h1 h2 hq xk hl hi
    obtain ⟨f, rfl⟩ : ∃ g, f = g + 1 := ⟨f - 1, by omega⟩
    have ha : a < cO' (zA S0 219) := by omega
    have ho := od_lt (a := a) hC.1.1 hM (by omega)
    have hq' := br1_I hC.1.1 hM (show a < 6 by omega) hq
    have hna : ¬ nI a = -1 := by rw [q_m1 (by omega)]; exact id
    rw [show L_X10_bravest_13 Θ (f + 1) (gb Θ) q.1 (if q.1 = -1 then 0 else q.2) (nI a) (laz Θ S ω) n = B_X10_bravest_13 Θ (L_X10_bravest_13 Θ f) (gb Θ) q.1 (if q.1 = -1 then 0 else q.2) (nI a) (laz Θ S ω) n from rfl, show brS (zA S0 219) lw (k + 1) a q = brS (zA S0 219) lw k (a + 1) (br1 (zA S0 219) lw a q) from rfl]
    unfold B_X10_bravest_13 J_X10_bravest_56 J_X10_bravest_61
    rw [r10_0, a14_1, xk.1 14 1 (by omega) (by omega), hO.2.2, if_neg (nI_ge (by omega) (by omega)), r10_0, d14, x_waits hC (xk.2.1 23 (by omega) (by omega) (by omega) (by omega)) ha, kI_v, nI_1]
    by_cases z : zA S0 219 (4 * a + 44) = 0
    · obtain ⟨S1, e1, x1, i1⟩ := x_oddsOf (Θ := Θ) (S := S) (ω := ω) (n := n) hC.1.1 hM (show a < 6 by omega) hl (x_bd hC xk (SmO.rf _) ha) hi
      have xk1 := xk.trans x1.xk
      rw [if_pos z, if_neg (show ¬ (1 : Int32) = 0 by decide), r10_10, d214, e1, kI_v]
      have upd' : nI (odN (cPar (zA S0 219) lw a false false)) < q.2 → ∃ S', L_X10_bravest_13 Θ f (gb Θ) (nI a) (nI (odN (cPar (zA S0 219) lw a false false))) (nI (a + 1)) (laz Θ S1 ω) n = some (.inl (some (.int (brS (zA S0 219) lw k (a + 1) (br1 (zA S0 219) lw a q))), laz Θ S' ω, n)) ∧ XKw S0 S' ∧ IdW Θ S' := by
        intro hlt
        have e : br1 (zA S0 219) lw a q = (nI a, nI (odN (cPar (zA S0 219) lw a false false))) := if_pos ⟨z, hlt⟩
        rw [e] at hq' ⊢
        have := ih (a + 1) f (nI a, nI (odN (cPar (zA S0 219) lw a false false))) S1 (by omega) (by omega) hq' xk1 (hl.xw x1) i1
        rw [if_neg hna] at this
        exact this
      by_cases y : q.1 = -1
      · rw [if_pos y]
        exact upd' (brI_lt hq ho y)
      · rw [if_neg y, if_neg y]
        by_cases v : q.2 ≤ nI (odN (cPar (zA S0 219) lw a false false))
        · have e : br1 (zA S0 219) lw a q = q := if_neg (fun u => q_nlt.mpr v u.2)
          rw [if_pos v, e]
          have := ih (a + 1) f q S1 (by omega) (by omega) hq xk1 (hl.xw x1) i1
          rw [if_neg y] at this
          exact this
        · rw [if_neg v]
          exact upd' (Classical.byContradiction fun u => v (q_nlt.mp u))
    · have e : br1 (zA S0 219) lw a q = q := if_neg (fun u => z u.1)
      rw [if_neg z, if_pos rfl, e]
      exact ih (a + 1) f q S (by omega) (by omega) hq xk hl hi
theorem m_br_L (hW : WB w) (hM : LawM w lw) : ∀ (k a f : Nat) (q : Int32 × Int32) (S : PZ), a + k = cO' w → k < f → brI q → zA S 219 = w → ∃ S', L_X11_bravest_13 Θ f (gb Θ + 218) q.1 q.2 (nI a) (laz Θ S ω) n = some (.inl (some (.int (brS w lw k a q)), laz Θ S' ω, n)) ∧ XY S S' := by
  have h6 := hW.O6
  intro k
  induction k with
  | zero =>
    intro a f q S h1 h2 hq hw
    obtain ⟨f, rfl⟩ : ∃ g, f = g + 1 := ⟨f - 1, by omega⟩
    refine ⟨S, ?_, XY.rf S⟩
    unfold L_X11_bravest_13 B_X11_bravest_13
    rw [d218, m_oneCount, kI_v, hw, h6.1, if_pos (nI_le (by omega) (by omega))]
    rfl
  | succ k ih =>
    intro a f q S h1 h2 hq hw
    obtain ⟨f, rfl⟩ : ∃ g, f = g + 1 := ⟨f - 1, by omega⟩
    have hq' := br1_I hW hM (show a < 6 by omega) hq
    rw [show L_X11_bravest_13 Θ (f + 1) (gb Θ + 218) q.1 q.2 (nI a) (laz Θ S ω) n = B_X11_bravest_13 Θ (L_X11_bravest_13 Θ f) (gb Θ + 218) q.1 q.2 (nI a) (laz Θ S ω) n from rfl, show brS w lw (k + 1) a q = brS w lw k (a + 1) (br1 w lw a q) from rfl]
    unfold B_X11_bravest_13 J_X11_bravest_40 J_X11_bravest_53
    rw [d218, m_oneCount, kI_v, hw, h6.1, if_neg (nI_ge (by omega) (by omega)), d218, m_waits (by omega), kI_v, hw, nI_1]
    by_cases z : w (4 * a + 44) = 0
    · obtain ⟨S1, e1, x1⟩ := m_oddsOf (Θ := Θ) (ω := ω) (n := n) (a := a) hw hW hM (by omega)
      have w1 := (x1.2.1 219 (by decide) (by decide) (by decide) (by decide)).trans hw
      rw [if_pos z, if_neg (show ¬ (1 : Int32) = 0 by decide), d218, e1, kI_v]
      by_cases v : q.2 ≤ nI (odN (cPar w lw a false false))
      · have hn : ¬ nI (odN (cPar w lw a false false)) < q.2 := q_nlt.mpr v
        have e : br1 w lw a q = q := if_neg (fun u => hn u.2)
        rw [if_pos v, if_neg hn, e]
        obtain ⟨S2, e2, x2⟩ := ih (a + 1) f q S1 (by omega) (by omega) hq w1
        exact ⟨S2, e2, x1.trans x2⟩
      · have hn : nI (odN (cPar w lw a false false)) < q.2 := Classical.byContradiction fun u => v (q_nlt.mp u)
        have e : br1 w lw a q = (nI a, nI (odN (cPar w lw a false false))) := if_pos ⟨z, hn⟩
        rw [e] at hq'
        rw [if_neg v, if_pos hn, e]
        obtain ⟨S2, e2, x2⟩ := ih (a + 1) f (nI a, nI (odN (cPar w lw a false false))) S1 (by omega) (by omega) hq' w1
        exact ⟨S2, e2, x1.trans x2⟩
    · have e : br1 w lw a q = q := if_neg (fun u => z u.1)
      rw [if_neg z, if_pos rfl, e, if_pos (brI_le hq).1, if_neg (brI_le hq).2]
      exact ih (a + 1) f q S (by omega) (by omega) hq hw
end BR
theorem pc32 (Θ : GP) : PC_32 Θ (gb Θ) (gb Θ + 218) (gb Θ + 234) (Inv Θ) := by
  intro v xs i hI
  obtain ⟨S, ω, rfl, hC, hI⟩ := hI
  have hO := hC.O
  obtain ⟨lw, hL⟩ := hC.lw
  have hq : brI (-1, 100000000) := Or.inl ⟨rfl, rfl⟩
  show stI (gb Θ) (gb Θ + 218) (fun ω n => F_X10_bravest Θ (gb Θ) ω n) (fun ω n => F_X11_bravest Θ (gb Θ + 218) ω n) (Inv Θ) _
  refine fin_I fun n _ => ?_
  obtain ⟨S1, e1, x1, z1, i1⟩ := x_ldy (n := n) hC hI hL
  obtain ⟨S2, e2, xk, i2⟩ := x_br_L (Θ := Θ) (n := n) hC hL.2 (cO' (zA S 219)) 0 5000 (-1, 100000000) S1 (by omega) (by omega) hq x1.xk z1 i1
  rw [if_pos rfl] at e2
  have e2 : L_X10_bravest_13 Θ 5000 (gb Θ) (-1) 0 0 (laz Θ S1 ω) n = _ := e2
  have hI2 := xk.idle hI i2
  refine ⟨brS (zA S 219) lw (cO' (zA S 219)) 0 (-1, 100000000), S2, ω, n, ?_, fun n2 => ?_⟩
  · show F_X10_bravest Θ (gb Θ) (laz Θ S ω) n = _
    unfold F_X10_bravest
    rw [r10_8, d202, e1, kV_v, e2]
  · obtain ⟨S3, e3, x3⟩ := m_br_L (Θ := Θ) (ω := ω) (n := n2) hC.1.1 hL.2 (cO' (zA S 219)) 0 5000 (-1, 100000000) (uF S2 218 0 0) (by omega) (by omega) hq xk.w
    have e3 : L_X11_bravest_13 Θ 5000 (gb Θ + 218) (-1) 100000000 0 (laz Θ (uF S2 218 0 0) ω) n2 = _ := e3
    refine ⟨S3, n2, ?_, ((hC.kp xk.kp).thr).kp x3.kp, x3.idle (hI2.thr)⟩
    show F_X11_bravest Θ (gb Θ + 218) (laz Θ S2 ω) n2 = _
    unfold F_X11_bravest
    rw [b218_0, e3]
/-- screams of one who waits in slot s -/
noncomputable def loI (w : Nat → Int32) (lw : LW) (s : Nat) : Nat → Nat := fun a => if w (4 * a + 44) = 0 then wyA (cPar w lw a false false) s else 0
noncomputable def lo1 (w : Nat → Int32) (lw : LW) (p : Nat) (q : Int32 × Nat) : Int32 × Nat := if w (4 * p + 12) = -1 then q else if q.2 < sPf (loI w lw (w (4 * p + 12)).toNatClampNeg) (cO' w) then (nI p, sPf (loI w lw (w (4 * p + 12)).toNatClampNeg) (cO' w)) else q
noncomputable def loS (w : Nat → Int32) (lw : LW) : Nat → Nat → Int32 × Nat → Int32
  | 0, _, q => q.1
  | k + 1, p, q => loS w lw k (p + 1) (lo1 w lw p q)
theorem wyA_le {c : RPar} (h : nvN c ≤ 60) {s : Nat} (hs : s < 10) : wyA c s ≤ 3 ^ npS c ten := by
  have := wyT_le h (s := s + 1) (by omega)
  have e : wyT c (s + 1) = wyT c s + wyA c s := rfl
  omega
theorem loI_le {w : Nat → Int32} {lw : LW} (hW : WB w) (hM : LawM w lw) {s : Nat} (hs : s < 10) : ∀ k, k ≤ 6 → sPf (loI w lw s) k ≤ 6561 * k := by
  intro k
  induction k with
  | zero => intro _; exact Nat.le_refl _
  | succ k ih =>
    intro hk
    have h1 := ih (by omega)
    have h2 : loI w lw s k ≤ 6561 := by
      unfold loI
      split
      · have h8 := np_le8 hW (c := cPar w lw k false false) (fun s _ => rfl)
        have := wyA_le (cPar_ok hW hM (show k < 6 by omega) false false).nv.2 hs
        have := p3_le h8
        omega
      · omega
    show sPf (loI w lw s) k + loI w lw s k ≤ _
    omega
/-- S' is as S but for the ride, the counting and the row 7 -/
def XN (S S' : PZ) : Prop := (∀ k j, k ≠ 202 → k ≠ 214 → zF S' k j = zF S k j) ∧ (∀ k, ¬ (202 < k ∧ k < 208) → k ≠ 7 → k ≠ 215 → k ≠ 216 → k ≠ 217 → zA S' k = zA S k) ∧ (∀ k j, ¬ (k = 214 ∧ (j = 4 ∨ j = 5)) → zR S' k j = zR S k j) ∧ (∀ k, zL S' k = zL S k)
theorem XN.trans {S S' S'' : PZ} (h : XN S S') (g : XN S' S'') : XN S S'' := ⟨fun k j q r => (g.1 k j q r).trans (h.1 k j q r), fun k a b c d e => (g.2.1 k a b c d e).trans (h.2.1 k a b c d e), fun k j q => (g.2.2.1 k j q).trans (h.2.2.1 k j q), fun k => (g.2.2.2 k).trans (h.2.2.2 k)⟩
theorem XKw.xn {S S' : PZ} (h : XKw S S') : XN S S' := ⟨h.1, fun k a _ c d e => h.2.1 k a c d e, h.2.2.1, h.2.2.2⟩
theorem XN.nA {S S' : PZ} (h : XN S S') {f : Nat → Int32} : XN S (uA S' 7 f) := ⟨h.1, fun k a b c d e => by rw [zA_ne _ _ b, h.2.1 k a b c d e], h.2.2.1, h.2.2.2⟩
theorem XN.kp {S S' : PZ} (h : XN S S') : Kp S S' := by
  obtain ⟨h1, h2, h3, h4⟩ := h
  refine ⟨fun k j q => h1 k j ?_ ?_, fun k q => h2 k ?_ ?_ ?_ ?_ ?_, fun k j a b => h3 k j (by omega)⟩
  · rintro rfl; simp [kpF] at q
  · rintro rfl; simp [kpF] at q
  · rintro ⟨a, b⟩; simp [kpA] at q; omega
  · rintro rfl; simp [kpA] at q
  · rintro rfl; simp [kpA] at q
  · rintro rfl; simp [kpA] at q
  · rintro rfl; simp [kpA] at q
section LO
variable {Θ : GP} {S S0 : PZ} {ω : OW} {n : Nat} {w : Nat → Int32} {lw : LW}
theorem RLd.n7 {tk : Nat → Int32} {es : Nat → Bool} (h : RLd Θ S ω w lw tk es) {f : Nat → Int32} : RLd Θ (uA S 7 f) ω w lw tk es := by
  obtain ⟨h1, h2, h3, h4, h5⟩ := h
  exact ⟨h1, h2, h3, h4, h5⟩
theorem IdW.n7 (h : IdW Θ S) {f : Nat → Int32} : IdW Θ (uA S 7 f) := by
  obtain ⟨a, b, e, z⟩ := h
  obtain ⟨k1, k2, k3, k4, k5, k6, k7⟩ := e.1.kd
  refine ⟨a, b, ⟨e.1, e.2.1, e.2.2⟩, ?_⟩
  rw [zA_ne _ _ (by omega), zA_ne _ _ (by omega)]
  exact z
/-- ends are added to the row 7 -/
theorem x_lo49_L {K : Nat → Int32 → OW → Nat → RO} {l1 : Int32} : ∀ (m s f : Nat) (g : Nat → Int32), s + m = 10 → m < f → ∃ g', L_X10_loudest_49 Θ K f (gb Θ) l1 (nI s) (laz Θ (uA S 7 g) ω) n = K (gb Θ) (l1 + 1) (laz Θ (uA S 7 g') ω) n ∧ ∀ u, u < 10 → g' u = if u < s then g u else g u + zA S 215 u := by
  intro m
  induction m with
  | zero =>
    intro s f g h1 h2
    obtain ⟨f, rfl⟩ : ∃ g, f = g + 1 := ⟨f - 1, by omega⟩
    refine ⟨g, ?_, fun u hu => by rw [if_pos (by omega)]⟩
    unfold L_X10_loudest_49 B_X10_loudest_49 J_X10_loudest_79
    rw [if_pos (show (10 : Int32) ≤ nI s from nI_le (a := 10) (by omega) (by omega))]
  | succ m ih =>
    intro s f g h1 h2
    obtain ⟨f, rfl⟩ : ∃ g, f = g + 1 := ⟨f - 1, by omega⟩
    obtain ⟨g', e, hg⟩ := ih (s + 1) f (upd g s (g s + zA S 215 s)) (by omega) (by omega)
    refine ⟨g', ?_, fun u hu => ?_⟩
    · rw [show L_X10_loudest_49 Θ K (f + 1) (gb Θ) l1 (nI s) (laz Θ (uA S 7 g) ω) n = B_X10_loudest_49 Θ K (L_X10_loudest_49 Θ K f) (gb Θ) l1 (nI s) (laz Θ (uA S 7 g) ω) n from rfl]
      unfold B_X10_loudest_49
      rw [if_neg (show ¬ (10 : Int32) ≤ nI s from nI_ge (b := 10) (by omega) (by omega)), r10_12, l_7 (by omega), zA_eq, r10_10, a214_1, l_215 (by omega), zA_ne _ _ (show 215 ≠ 7 by decide), s_7 (by omega), uA_uA, zA_eq, nI_1, e]
    · rw [hg u hu]
      by_cases z : u = s
      · subst z; rw [if_pos (by omega), if_neg (by omega), upd_same]
      · by_cases y : u < s
        · rw [if_pos (by omega), if_pos y, upd_ne _ _ z]
        · rw [if_neg (by omega), if_neg y, upd_ne _ _ z]
theorem x_lo17_L (hC : Core Θ S0 ω) (hM : LawM (zA S0 219) lw) : ∀ (k a f : Nat) (S : PZ), a + k = cO' (zA S0 219) → k < f → XN S0 S → RLd Θ S ω (zA S0 219) lw (fun s => pin (zA S0 219) (nI s)) (fun _ => false) → IdW Θ S → (∀ s, s < 10 → zA S 7 s = nI (sPf (loI (zA S0 219) lw s) a)) → ∃ S', L_X10_loudest_17 Θ f (gb Θ) (nI a) (laz Θ S ω) n = L_X10_loudest_91 Θ 5000 (gb Θ) (-1) 0 0 (laz Θ S' ω) n ∧ XN S0 S' ∧ IdW Θ S' ∧ ∀ s, s < 10 → zA S' 7 s = nI (sPf (loI (zA S0 219) lw s) (cO' (zA S0 219))) := by
  have hO := hC.O
  intro k
  induction k with
  | zero =>
    intro a f S h1 h2 xk hl hi h7
    obtain ⟨f, rfl⟩ : ∃ g, f = g + 1 := ⟨f - 1, by omega⟩
    have ha : a = cO' (zA S0 219) := by omega
    refine ⟨S, ?_, xk, hi, by rw [← ha]; exact h7⟩
    unfold L_X10_loudest_17 B_X10_loudest_17
    rw [r10_0, a14_1, xk.1 14 1 (by omega) (by omega), hO.2.2, if_pos (nI_le (by omega) (by omega))]
  | succ k ih =>
    intro a f S h1 h2 xk hl hi h7
    obtain ⟨f, rfl⟩ : ∃ g, f = g + 1 := ⟨f - 1, by omega⟩
    have ha : a < cO' (zA S0 219) := by omega
    rw [show L_X10_loudest_17 Θ (f + 1) (gb Θ) (nI a) (laz Θ S ω) n = B_X10_loudest_17 Θ (L_X10_loudest_17 Θ f) (gb Θ) (nI a) (laz Θ S ω) n from rfl]
    unfold B_X10_loudest_17 J_X10_loudest_79
    rw [r10_0, a14_1, xk.1 14 1 (by omega) (by omega), hO.2.2, if_neg (nI_ge (by omega) (by omega)), r10_0, d14, x_waits hC (xk.2.1 23 (by omega) (by omega) (by omega) (by omega) (by omega)) ha, kI_v, nI_1]
    by_cases z : zA S0 219 (4 * a + 44) = 0
    · have hb : zA S 20 a = zA S0 219 (4 * a + 41) ∧ zA S 21 a = zA S0 219 (4 * a + 42) ∧ zA S 22 a = zA S0 219 (4 * a + 43) := by
        have h := CRa hC.1.2.1 ha
        rw [xk.2.1 20 (by omega) (by omega) (by omega) (by omega) (by omega), xk.2.1 21 (by omega) (by omega) (by omega) (by omega) (by omega), xk.2.1 22 (by omega) (by omega) (by omega) (by omega) (by omega)]
        exact ⟨h.1, h.2.1, h.2.2.1⟩
      obtain ⟨S1, e1, x1, i1, _, _, d1⟩ := x_countOf (Θ := Θ) (S := S) (ω := ω) (n := n) hC.1.1 hM (show a < 6 by omega) hl hb hi
      obtain ⟨g, e2, hg⟩ := x_lo49_L (Θ := Θ) (S := S1) (ω := ω) (n := n) (K := L_X10_loudest_17 Θ f) (l1 := nI a) 10 0 5000 (zA S1 7) (by omega) (by omega)
      rw [uA_self, nI_1] at e2
      have e2 : L_X10_loudest_49 Θ (L_X10_loudest_17 Θ f) 5000 (gb Θ) (nI a) 0 (laz Θ S1 ω) n = _ := e2
      rw [if_pos z, if_neg (show ¬ (1 : Int32) = 0 by decide), r10_10, d214, e1, kV_v, e2]
      refine ih (a + 1) f (uA S1 7 g) (by omega) (by omega) (xk.trans x1.xk.xn).nA (hl.xw x1).n7 i1.n7 (fun s hs => ?_)
      rw [zA_eq, hg s hs, if_neg (by omega), d1 s hs, x1.2.1 7 (by omega) (by omega) (by omega) (by omega), h7 s hs, nI_add]
      congr 1
      show _ = sPf (loI (zA S0 219) lw s) a + loI (zA S0 219) lw s a
      unfold loI
      rw [if_pos z]
    · rw [if_neg z, if_pos rfl]
      refine ih (a + 1) f S (by omega) (by omega) xk hl hi (fun s hs => ?_)
      rw [h7 s hs]
      congr 1
      show _ = sPf (loI (zA S0 219) lw s) a + loI (zA S0 219) lw s a
      have : loI (zA S0 219) lw s a = 0 := if_neg z
      rw [this, Nat.add_zero]
theorem x_lo91_L (hC : Core Θ S0 ω) (hM : LawM (zA S0 219) lw) (xk : XN S0 S) (h7 : ∀ s, s < 10 → zA S 7 s = nI (sPf (loI (zA S0 219) lw s) (cO' (zA S0 219)))) : ∀ (k p f : Nat) (q : Int32 × Nat), p + k = cP (zA S0 219) → k < f → q.2 ≤ 100000 → L_X10_loudest_91 Θ f (gb Θ) q.1 (nI q.2) (nI p) (laz Θ S ω) n = some (.inl (some (.int (loS (zA S0 219) lw k p q)), laz Θ S ω, n)) := by
  have hP := hC.P
  have hO := hC.O
  intro k
  induction k with
  | zero =>
    intro p f q h1 h2 hq
    obtain ⟨f, rfl⟩ : ∃ g, f = g + 1 := ⟨f - 1, by omega⟩
    unfold L_X10_loudest_91 B_X10_loudest_91
    rw [r10_0, a14_0, xk.1 14 0 (by omega) (by omega), hP.2.2, if_pos (nI_le (by omega) (by omega))]
    rfl
  | succ k ih =>
    intro p f q h1 h2 hq
    obtain ⟨f, rfl⟩ : ∃ g, f = g + 1 := ⟨f - 1, by omega⟩
    have hp : p < cP (zA S0 219) := by omega
    have hwh : zA S 18 p = zA S0 219 (4 * p + 12) := by rw [xk.2.1 18 (by omega) (by omega) (by omega) (by omega) (by omega)]; exact (CRp hC.1.2.1 hp).2.2.2
    rw [show L_X10_loudest_91 Θ (f + 1) (gb Θ) q.1 (nI q.2) (nI p) (laz Θ S ω) n = B_X10_loudest_91 Θ (L_X10_loudest_91 Θ f) (gb Θ) q.1 (nI q.2) (nI p) (laz Θ S ω) n from rfl, show loS (zA S0 219) lw (k + 1) p q = loS (zA S0 219) lw k (p + 1) (lo1 (zA S0 219) lw p q) from rfl]
    unfold B_X10_loudest_91 J_X10_loudest_139
    rw [r10_0, a14_0, xk.1 14 0 (by omega) (by omega), hP.2.2, if_neg (nI_ge (by omega) (by omega)), r10_0, a14_10, l_18 (by omega), hwh, nI_1]
    unfold lo1
    rcases (hC.1.1.2.2.2.2.2.2.2.1 p (by omega)).2.2.2 with z | ⟨s, g1, g2⟩
    · rw [z, if_pos (by decide), if_pos rfl]
      exact ih (p + 1) f q (by omega) (by omega) hq
    · have hl := loI_le hC.1.1 hM (show s < 10 by omega) (cO' (zA S0 219)) (by omega)
      rw [g2, if_neg (nI_pos (by omega)), r10_12, l_7 (by omega), h7 s (by omega), if_neg (show ¬ nI s = -1 by rw [q_m1 (by omega)]; exact id), nI_clamp (by omega)]
      by_cases y : q.2 < sPf (loI (zA S0 219) lw s) (cO' (zA S0 219))
      · rw [if_neg (nI_ge y (by omega)), r10_12, l_7 (by omega), h7 s (by omega), if_pos y]
        exact ih (p + 1) f (nI p, sPf (loI (zA S0 219) lw s) (cO' (zA S0 219))) (by omega) (by omega) (by show sPf _ _ ≤ _; omega)
      · rw [if_pos (nI_le (by omega) (by omega)), if_neg y]
        exact ih (p + 1) f q (by omega) (by omega) hq
theorem m_lo25_L (hW : WB w) (hM : LawM w lw) {K : Nat → Int32 → Int32 → Int32 → OW → Nat → RO} {l1 l2 : Int32} {p s : Nat} (hp : p < 8) (hs : s < 10) (hws : w (4 * p + 12) = nI s) : ∀ (k a f : Nat) (S : PZ), a + k = cO' w → k < f → zA S 219 = w → ∃ S', L_X11_loudest_25 Θ K f (gb Θ + 218) l1 l2 (nI p) (nI (sPf (loI w lw s) a)) (nI a) (laz Θ S ω) n = J_X11_loudest_82 Θ K (gb Θ + 218) l1 l2 (nI p) (nI (sPf (loI w lw s) (cO' w))) (laz Θ S' ω) n ∧ XY S S' := by
  have h6 := hW.O6
  intro k
  induction k with
  | zero =>
    intro a f S h1 h2 hw
    obtain ⟨f, rfl⟩ : ∃ g, f = g + 1 := ⟨f - 1, by omega⟩
    have ha : a = cO' w := by omega
    refine ⟨S, ?_, XY.rf S⟩
    unfold L_X11_loudest_25 B_X11_loudest_25
    rw [d218, m_oneCount, kI_v, hw, h6.1, if_pos (nI_le (by omega) (by omega)), ha]
  | succ k ih =>
    intro a f S h1 h2 hw
    obtain ⟨f, rfl⟩ : ∃ g, f = g + 1 := ⟨f - 1, by omega⟩
    have hn : ¬ w (4 * p + 12) = -1 := by rw [hws, q_m1 (by omega)]; exact id
    rw [show L_X11_loudest_25 Θ K (f + 1) (gb Θ + 218) l1 l2 (nI p) (nI (sPf (loI w lw s) a)) (nI a) (laz Θ S ω) n = B_X11_loudest_25 Θ K (L_X11_loudest_25 Θ K f) (gb Θ + 218) l1 l2 (nI p) (nI (sPf (loI w lw s) a)) (nI a) (laz Θ S ω) n from rfl]
    unfold B_X11_loudest_25 J_X11_loudest_76
    rw [d218, m_oneCount, kI_v, hw, h6.1, if_neg (nI_ge (by omega) (by omega)), d218, m_isNailed hp, kI_v, hw, if_neg hn, if_neg (show ¬ (1 : Int32) = 0 by decide), d218, m_waits (by omega), kI_v, hw, nI_1]
    by_cases z : w (4 * a + 44) = 0
    · obtain ⟨S1, e1, x1, _, a1⟩ := m_laysRows (Θ := Θ) (S := S) (ω := ω) (n := n) (a := a) hw hW hM (by omega)
      have w1 := (x1.2.1 219 (by decide) (by decide) (by decide) (by decide)).trans hw
      obtain ⟨S2, e2, x2⟩ := ih (a + 1) f S1 (by omega) (by omega) w1
      refine ⟨S2, ?_, x1.trans x2⟩
      have es : sPf (loI w lw s) (a + 1) = sPf (loI w lw s) a + wyA (cPar w lw a false false) s := by
        show sPf (loI w lw s) a + loI w lw s a = _
        unfold loI; rw [if_pos z]
      rw [if_pos z, if_neg (show ¬ (1 : Int32) = 0 by decide), d218, e1, kV_v, a218_35, d218, m_ofProp3 hp, kI_v, w1, hws, l_232 hs, a1 s hs, nI_add, ← e2, es]
    · obtain ⟨S2, e2, x2⟩ := ih (a + 1) f S (by omega) (by omega) hw
      have es : sPf (loI w lw s) (a + 1) = sPf (loI w lw s) a := by
        show sPf (loI w lw s) a + loI w lw s a = _
        have : loI w lw s a = 0 := if_neg z
        rw [this, Nat.add_zero]
      refine ⟨S2, ?_, x2⟩
      rw [if_neg z, if_pos rfl, ← e2, es]
theorem m_lo11_L (hW : WB w) (hM : LawM w lw) : ∀ (k p f : Nat) (q : Int32 × Nat) (S : PZ), p + k = cP w → k < f → q.2 ≤ 100000 → zA S 219 = w → ∃ S', L_X11_loudest_11 Θ f (gb Θ + 218) q.1 (nI q.2) (nI p) (laz Θ S ω) n = some (.inl (some (.int (loS w lw k p q)), laz Θ S' ω, n)) ∧ XY S S' := by
  have h8 := hW.P8
  have h6 := hW.O6
  intro k
  induction k with
  | zero =>
    intro p f q S h1 h2 hq hw
    obtain ⟨f, rfl⟩ : ∃ g, f = g + 1 := ⟨f - 1, by omega⟩
    refine ⟨S, ?_, XY.rf S⟩
    unfold L_X11_loudest_11 B_X11_loudest_11
    rw [d218, m_props, kI_v, hw, h8.1, if_pos (nI_le (by omega) (by omega))]
    rfl
  | succ k ih =>
    intro p f q S h1 h2 hq hw
    obtain ⟨f, rfl⟩ : ∃ g, f = g + 1 := ⟨f - 1, by omega⟩
    rw [show L_X11_loudest_11 Θ (f + 1) (gb Θ + 218) q.1 (nI q.2) (nI p) (laz Θ S ω) n = B_X11_loudest_11 Θ (L_X11_loudest_11 Θ f) (gb Θ + 218) q.1 (nI q.2) (nI p) (laz Θ S ω) n from rfl, show loS w lw (k + 1) p q = loS w lw k (p + 1) (lo1 w lw p q) from rfl]
    unfold B_X11_loudest_11 lo1
    rw [d218, m_props, kI_v, hw, h8.1, if_neg (nI_ge (by omega) (by omega))]
    rcases (hW.2.2.2.2.2.2.2.1 p (by omega)).2.2.2 with z | ⟨s, g1, g2⟩
    · rw [if_pos z]
      have e0 : L_X11_loudest_25 Θ (L_X11_loudest_11 Θ f) 5000 (gb Θ + 218) q.1 (nI q.2) (nI p) 0 0 (laz Θ S ω) n = J_X11_loudest_82 Θ (L_X11_loudest_11 Θ f) (gb Θ + 218) q.1 (nI q.2) (nI p) 0 (laz Θ S ω) n := by
        show B_X11_loudest_25 Θ (L_X11_loudest_11 Θ f) (L_X11_loudest_25 Θ (L_X11_loudest_11 Θ f) 4999) (gb Θ + 218) q.1 (nI q.2) (nI p) 0 0 (laz Θ S ω) n = _
        unfold B_X11_loudest_25
        rw [d218, m_oneCount, kI_v, hw, h6.1, d218, m_isNailed (by omega), kI_v, hw, if_pos z, if_pos rfl]
        split <;> rfl
      rw [e0]
      unfold J_X11_loudest_82 J_X11_loudest_93
      rw [if_pos (nI_pos' (by omega)), if_neg (nI_pos (by omega)), nI_1]
      exact ih (p + 1) f q S (by omega) (by omega) hq hw
    · have hl := loI_le hW hM (show s < 10 by omega) (cO' w) (by omega)
      obtain ⟨S1, e1, x1⟩ := m_lo25_L (Θ := Θ) (ω := ω) (n := n) hW hM (K := L_X11_loudest_11 Θ f) (l1 := q.1) (l2 := nI q.2) (show p < 8 by omega) (show s < 10 by omega) g2 (cO' w) 0 5000 S (by omega) (by omega) hw
      have e1 : L_X11_loudest_25 Θ (L_X11_loudest_11 Θ f) 5000 (gb Θ + 218) q.1 (nI q.2) (nI p) 0 0 (laz Θ S ω) n = _ := e1
      have w1 := (x1.2.1 219 (by decide) (by decide) (by decide) (by decide)).trans hw
      rw [e1, g2, if_neg (show ¬ nI s = -1 by rw [q_m1 (by omega)]; exact id), nI_clamp (by omega)]
      unfold J_X11_loudest_82 J_X11_loudest_93
      by_cases y : q.2 < sPf (loI w lw s) (cO' w)
      · rw [if_neg (nI_ge y (by omega)), if_pos (nI_lt y (by omega)), if_pos y, nI_1]
        obtain ⟨S2, e2, x2⟩ := ih (p + 1) f (nI p, sPf (loI w lw s) (cO' w)) S1 (by omega) (by omega) (by show sPf _ _ ≤ _; omega) w1
        exact ⟨S2, e2, x1.trans x2⟩
      · rw [if_pos (nI_le (by omega) (by omega)), if_neg (nI_nlt (by omega) (by omega)), if_neg y, nI_1]
        obtain ⟨S2, e2, x2⟩ := ih (p + 1) f q S1 (by omega) (by omega) hq w1
        exact ⟨S2, e2, x1.trans x2⟩
end LO
theorem pc38 (Θ : GP) : PC_38 Θ (gb Θ) (gb Θ + 218) (gb Θ + 234) (Inv Θ) := by
  intro v xs i hI
  obtain ⟨S, ω, rfl, hC, hI⟩ := hI
  have hO := hC.O
  have hP := hC.P
  obtain ⟨lw, hL⟩ := hC.lw
  show stI (gb Θ) (gb Θ + 218) (fun ω n => F_X10_loudest Θ (gb Θ) ω n) (fun ω n => F_X11_loudest Θ (gb Θ + 218) ω n) (Inv Θ) _
  refine fin_I fun n _ => ?_
  obtain ⟨S1, e1, x1, z1, i1⟩ := x_ldy (n := n) hC hI hL
  have ef := x_fill (Θ := Θ) (S := S1) (ω := ω) (n := n) (k := 7) (by decide) (by decide) 0
  obtain ⟨S2, e2, xn, i2, a2⟩ := x_lo17_L (Θ := Θ) (n := n) hC hL.2 (cO' (zA S 219)) 0 5000 (uA S1 7 (fun j => if 0 ≤ j ∧ j < alz 7 then 0 else zA S1 7 j)) (by omega) (by omega) x1.xk.xn.nA z1.n7 i1.n7 (fun s hs => by
    rw [zA_eq, if_pos ⟨by omega, by show s < 10; omega⟩]; rfl)
  have e2 : L_X10_loudest_17 Θ 5000 (gb Θ) 0 (laz Θ (uA S1 7 (fun j => if 0 ≤ j ∧ j < alz 7 then 0 else zA S1 7 j)) ω) n = _ := e2
  have e3 : L_X10_loudest_91 Θ 5000 (gb Θ) (-1) 0 0 (laz Θ S2 ω) n = _ := x_lo91_L (Θ := Θ) (S := S2) (ω := ω) (n := n) hC hL.2 xn a2 (cP (zA S 219)) 0 5000 (-1, 0) (by omega) (by omega) (by decide)
  have hI2 : Idle Θ S2 := i2.idle ((congrFun (xn.2.1 200 (by omega) (by omega) (by omega) (by omega) (by omega)) 0).trans (hI.2.1 0 (by omega)).2.2) ((xn.1 218 23 (by omega) (by omega)).trans hI.2.2.1) ((xn.1 218 24 (by omega) (by omega)).trans hI.2.2.2)
  have h9 : zA S2 219 = zA S 219 := xn.2.1 219 (by omega) (by omega) (by omega) (by omega) (by omega)
  refine ⟨loS (zA S 219) lw (cP (zA S 219)) 0 (-1, 0), S2, ω, n, ?_, fun n2 => ?_⟩
  · show F_X10_loudest Θ (gb Θ) (laz Θ S ω) n = _
    unfold F_X10_loudest
    rw [r10_8, d202, e1, kV_v, r10_12, ef, kV_v, e2, e3]
  · obtain ⟨S3, e4, x4⟩ := m_lo11_L (Θ := Θ) (ω := ω) (n := n2) hC.1.1 hL.2 (cP (zA S 219)) 0 5000 (-1, 0) (uF S2 218 0 0) (by omega) (by omega) (by decide) h9
    have e4 : L_X11_loudest_11 Θ 5000 (gb Θ + 218) (-1) 0 0 (laz Θ (uF S2 218 0 0) ω) n2 = _ := e4
    refine ⟨S3, n2, ?_, ((hC.kp xn.kp).thr).kp x4.kp, x4.idle (hI2.thr)⟩
    show F_X11_loudest Θ (gb Θ + 218) (laz Θ S2 ω) n2 = _
    unfold F_X11_loudest
    rw [b218_0, e4]
