/-! promises 41, 42: trials, spans -/
/-- the ride 202 is laid -/
def RLd (Θ : GP) (S : PZ) (ω : OW) (w : Nat → Int32) (lw : LW) (tk : Nat → Int32) (es : Nat → Bool) : Prop := (∃ told, LawX Θ ω (zR S 14 17) told lw) ∧ zF S 14 3 = w 5 ∧ (∀ p, p < cP w → zA S 15 p = w (4 * p + 9) ∧ zA S 16 p = w (4 * p + 10) ∧ zA S 204 p = w (4 * p + 11)) ∧ (∀ s, s < 10 → zA S 203 s = tk s) ∧ (∀ p, p < 8 → (nI p = zF S 202 6 ↔ es p = true))
theorem RLd.xr {Θ : GP} {S S' : PZ} {ω : OW} {w : Nat → Int32} {lw : LW} {tk : Nat → Int32} {es : Nat → Bool} (h : RLd Θ S ω w lw tk es) (x : XR 202 S S') : RLd Θ S' ω w lw tk es := by
  obtain ⟨h1, h2, h3, h4, h5⟩ := h
  obtain ⟨x1, x2, x3, x4⟩ := x
  exact ⟨by rw [x3]; exact h1, by rw [x1 _ _ (by omega)]; exact h2, by rw [x2 15 (by omega) (by omega) (by omega), x2 16 (by omega) (by omega) (by omega), x2 204 (by omega) (by omega) (by omega)]; exact h3, by rw [x2 203 (by omega) (by omega) (by omega)]; exact h4, by rw [x1 _ _ (by omega)]; exact h5⟩
theorem RLd.nF {Θ : GP} {S : PZ} {ω : OW} {w : Nat → Int32} {lw : LW} {tk : Nat → Int32} {es : Nat → Bool} (h : RLd Θ S ω w lw tk es) {j : Nat} {v : Int32} (hj : j ≠ 6) : RLd Θ (uF S 202 j v) ω w lw tk es := by
  obtain ⟨h1, h2, h3, h4, h5⟩ := h
  exact ⟨h1, by rw [zF_ne _ _ (by omega)]; exact h2, h3, h4, by rw [zF_ne _ _ (by omega)]; exact h5⟩
theorem RLd.rx {Θ : GP} {S : PZ} {ω : OW} {c : RPar} (h : RLd Θ S ω c.1 c.2.1 c.2.2.1 c.2.2.2.1) (hO : ROK c) (h3 : zF S 202 3 = c.2.2.2.2.2.2.1) (h4 : zF S 202 4 = c.2.2.2.2.1) (h5 : zF S 202 5 = c.2.2.2.2.2.1) : RX Θ S ω 202 c := ⟨hO, h.1, h.2.1, h.2.2.1, h.2.2.2.1, h3, h4, h5, h.2.2.2.2⟩
section TR
variable {Θ : GP} {S S0 : PZ} {ω : OW} {n : Nat}
/-- laid as the court is -/
theorem x_laid (hC : Core Θ S ω) {lw : LW} (hL : LawR Θ ω (zR S 14 17) (zA S 219) lw) : XL 202 S (uF (uA (uA S (202 + 1) (va_cpy (zA S 19) (zA S (202 + 1)) 0 0 10)) (202 + 2) (va_cpy (zA S 17) (zA S (202 + 2)) 0 0 8)) 202 6 (-1)) ∧ RLd Θ (uF (uA (uA S (202 + 1) (va_cpy (zA S 19) (zA S (202 + 1)) 0 0 10)) (202 + 2) (va_cpy (zA S 17) (zA S (202 + 2)) 0 0 8)) 202 6 (-1)) ω (zA S 219) lw (fun s => pin (zA S 219) (nI s)) (fun _ => false) := by
  have hP := hC.P
  have xl : XL 202 S (uF (uA (uA S (202 + 1) (va_cpy (zA S 19) (zA S (202 + 1)) 0 0 10)) (202 + 2) (va_cpy (zA S 17) (zA S (202 + 2)) 0 0 8)) 202 6 (-1)) := (((XL.rf 202 S).nA (by omega)).nA (by omega)).nF
  refine ⟨xl, ⟨_, hL.1⟩, ?_, fun p hp => ?_, fun s hs => ?_, fun p hp => ?_⟩
  · rw [xl.1 14 3 (by omega)]; exact hC.1.2.1.1.2.2.2.1
  · have hr' := CRp hC.1.2.1 hp
    rw [xl.2.1 15 (by omega), xl.2.1 16 (by omega)]
    refine ⟨hr'.1, hr'.2.1, ?_⟩
    rw [zA_uF, zA_eq, cpy_at, if_pos (by omega)]
    exact hr'.2.2.1
  · rw [zA_uF, zA_ne _ _ (by omega), zA_eq, cpy_at, if_pos hs]
    exact CRt hC.1.2.1 hs
  · rw [zF_eq, q_m1 (by omega)]
    exact ⟨False.elim, fun z => by cases z⟩
/-- one boards and rides -/
theorem x_boardGo (hC : Core Θ S0 ω) (xl : XL 202 S0 S) {w : Nat → Int32} {lw : LW} {tk : Nat → Int32} {es : Nat → Bool} (h : RLd Θ S ω w lw tk es) {a : Nat} (ha : a < cO' (zA S0 219)) {dr te : Bool} (hO : ROK (w, lw, tk, es, zA S0 219 (4 * a + 42), zA S0 219 (4 * a + 43), zA S0 219 (4 * a + 41), dr, te)) : ∃ S1 S', F_X6_board Θ (gb Θ + 202) (nI a) (laz Θ S ω) n = some (.inl (none, laz Θ S1 ω, n)) ∧ F_X6_go Θ (gb Θ + 202) (b01 dr) (b01 te) (laz Θ S1 ω) n = some (.inl (none, laz Θ S' ω, n)) ∧ XL 202 S0 S' ∧ RLd Θ S' ω w lw tk es ∧ XO 202 S1 S' (w, lw, tk, es, zA S0 219 (4 * a + 42), zA S0 219 (4 * a + 43), zA S0 219 (4 * a + 41), dr, te) (-1, 0, zF S 202 7) ∧ RX Θ S' ω 202 (w, lw, tk, es, zA S0 219 (4 * a + 42), zA S0 219 (4 * a + 43), zA S0 219 (4 * a + 41), dr, te) := by
  have hR : isR 202 := Or.inl rfl
  have h6 := hC.O
  have hr := CRa hC.1.2.1 ha
  have rx : RX Θ (uF (uF (uF S 202 3 (zA S 20 a)) 202 4 (zA S 21 a)) 202 5 (zA S 22 a)) ω 202 (w, lw, tk, es, zA S0 219 (4 * a + 42), zA S0 219 (4 * a + 43), zA S0 219 (4 * a + 41), dr, te) := by
    refine RLd.rx (((h.nF (by decide)).nF (by decide)).nF (by decide)) hO ?_ ?_ ?_
    · rw [zF_ne _ _ (by omega), zF_ne _ _ (by omega), zF_eq, xl.2.1 20 (by omega)]; exact hr.1
    · rw [zF_ne _ _ (by omega), zF_eq, xl.2.1 21 (by omega)]; exact hr.2.1
    · rw [zF_eq, xl.2.1 22 (by omega)]; exact hr.2.2.1
  obtain ⟨S', e, o⟩ := x_go (Θ := Θ) (n := n) hR rx
  refine ⟨_, S', x_board hR (by omega), e, (((xl.nF).nF).nF).trans o.1.xl, (((h.nF (by decide)).nF (by decide)).nF (by decide)).xr o.1, ?_, rx.xr hR o.1⟩
  have e7 : zF (uF (uF (uF S 202 3 (zA S 20 a)) 202 4 (zA S 21 a)) 202 5 (zA S 22 a)) 202 7 = zF S 202 7 := by
    rw [zF_ne _ _ (by omega), zF_ne _ _ (by omega), zF_ne _ _ (by omega)]
  rw [e7] at o
  exact o
theorem x_waits (hC : Core Θ S0 ω) (h9 : zA S 23 = zA S0 23) {a : Nat} (ha : a < cO' (zA S0 219)) : F_X0_waits Θ (gb Θ + 14) (nI a) (laz Θ S ω) n = some (.inl (some (.int (if zA S0 219 (4 * a + 44) = 0 then 1 else 0)), laz Θ S ω, n)) := by
  have h6 := hC.O
  unfold F_X0_waits J_X0_waits_14
  rw [a14_15, l_23 (by omega), h9, (CRa hC.1.2.1 ha).2.2.2]
  split
  · rw [bz_1]
  · rw [bz_0]
theorem x_isInnocent (hC : Core Θ S0 ω) (h9 : zA S 20 = zA S0 20) {a : Nat} (ha : a < cO' (zA S0 219)) : F_X0_isInnocent Θ (gb Θ + 14) (nI a) (laz Θ S ω) n = some (.inl (some (.int (if zA S0 219 (4 * a + 41) = 0 then 1 else 0)), laz Θ S ω, n)) := by
  have h6 := hC.O
  unfold F_X0_isInnocent J_X0_isInnocent_14
  rw [a14_12, l_20 (by omega), h9, (CRa hC.1.2.1 ha).1]
  split
  · rw [bz_1]
  · rw [bz_0]
/-- one of a trial: screams, seed -/
def tr1 (w : Nat → Int32) (lw : LW) (a : Nat) (q : Int32 × Int32) : Int32 × Int32 := if w (4 * a + 44) = 0 then (q.1 + (if (rst (cPar w lw a true false) (-1, 0, q.2) 10).1 = -1 then 0 else 1), (rst (cPar w lw a true false) (-1, 0, q.2) 10).2.2) else q
def trA (w : Nat → Int32) (lw : LW) : Nat → Nat → Int32 × Int32 → Int32 × Int32
  | 0, _, q => q
  | k + 1, a, q => trA w lw k (a + 1) (tr1 w lw a q)
def trR (w : Nat → Int32) (lw : LW) (O : Nat) : Nat → Int32 × Int32 → Int32 × Int32
  | 0, q => q
  | k + 1, q => trR w lw O k (trA w lw O 0 q)
theorem x_tr_I (hC : Core Θ S0 ω) {lw : LW} (hL : LawR Θ ω (zR S0 14 17) (zA S0 219) lw) (k20 : Nat → Int32 → Int32 → Int32 → OW → Nat → RO) (N l4 : Int32) : ∀ (k a f : Nat) (q : Int32 × Int32) (S : PZ), a + k = cO' (zA S0 219) → k < f → XL 202 S0 S → RLd Θ S ω (zA S0 219) lw (fun s => pin (zA S0 219) (nI s)) (fun _ => false) → zF S 202 7 = q.2 → ∃ S', L_X10_screamsOfTrials_29 Θ k20 f (gb Θ) N q.1 l4 (nI a) (laz Θ S ω) n = k20 (gb Θ) N (trA (zA S0 219) lw k a q).1 (l4 + 1) (laz Θ S' ω) n ∧ XL 202 S0 S' ∧ RLd Θ S' ω (zA S0 219) lw (fun s => pin (zA S0 219) (nI s)) (fun _ => false) ∧ zF S' 202 7 = (trA (zA S0 219) lw k a q).2 := by
  have h6 := hC.O
  intro k
  induction k with
  | zero =>
    intro a f q S h1 h2 xl h h7
    obtain ⟨f, rfl⟩ : ∃ g, f = g + 1 := ⟨f - 1, by omega⟩
    refine ⟨S, ?_, xl, h, h7⟩
    unfold L_X10_screamsOfTrials_29 B_X10_screamsOfTrials_29
    rw [r10_0, a14_1, xl.1 14 1 (by omega), h6.2.2, if_pos (nI_le (by omega) (by omega))]
    rfl
  | succ k ih =>
    intro a f q S h1 h2 xl h h7
    obtain ⟨f, rfl⟩ : ∃ g, f = g + 1 := ⟨f - 1, by omega⟩
    have ha : a < cO' (zA S0 219) := by omega
    have pre : ∀ r, L_X10_screamsOfTrials_29 Θ k20 (f + 1) (gb Θ) N q.1 l4 (nI a) (laz Θ S ω) n = r ↔ (if (if zA S0 219 (4 * a + 44) = 0 then (1 : Int32) else 0) = 0 then L_X10_screamsOfTrials_29 Θ k20 f (gb Θ) N q.1 l4 (nI a + 1) (laz Θ S ω) n else kV (F_X6_board Θ (gb Θ + 202) (nI a) (laz Θ S ω) n) (fun ω n => rA ω (gb Θ) 10 8 (fun a9 => cO ω a9 6 (kV (F_X6_byDraws Θ a9 ω n) (fun ω n => rA ω (gb Θ) 10 8 (fun a11 => rI ω a11 6 8 (fun x12 => if x12 = (-1) then (L_X10_screamsOfTrials_29 Θ k20 f (gb Θ) N (q.1 + 0) l4 (nI a + 1) ω n) else (L_X10_screamsOfTrials_29 Θ k20 f (gb Θ) N (q.1 + 1) l4 (nI a + 1) ω n)))))))) = r := by
      intro r
      rw [show L_X10_screamsOfTrials_29 Θ k20 (f + 1) (gb Θ) N q.1 l4 (nI a) (laz Θ S ω) n = B_X10_screamsOfTrials_29 Θ k20 (L_X10_screamsOfTrials_29 Θ k20 f) (gb Θ) N q.1 l4 (nI a) (laz Θ S ω) n from rfl]
      unfold B_X10_screamsOfTrials_29 J_X10_screamsOfTrials_86 J_X10_screamsOfTrials_88
      rw [r10_0, a14_1, xl.1 14 1 (by omega), h6.2.2, if_neg (nI_ge (by omega) (by omega)), r10_0, d14, x_waits hC (xl.2.1 23 (by omega)) ha, kI_v, r10_8, d202]
    by_cases z : zA S0 219 (4 * a + 44) = 0
    · obtain ⟨S1, S', e1, e2, x2, r2, o, _⟩ := x_boardGo (n := n) hC xl h ha (dr := true) (te := false) (cPar_ok hC.1.1 hL.2 (by omega) true false)
      rw [h7] at o
      have o : XO 202 S1 S' (cPar (zA S0 219) lw a true false) (-1, 0, q.2) := o
      have et : tr1 (zA S0 219) lw a q = (q.1 + (if (rst (cPar (zA S0 219) lw a true false) (-1, 0, q.2) 10).1 = -1 then 0 else 1), (rst (cPar (zA S0 219) lw a true false) (-1, 0, q.2) 10).2.2) := if_pos z
      obtain ⟨S2, e3, y1, y2, y3⟩ := ih (a + 1) f (tr1 (zA S0 219) lw a q) S' (by omega) (by omega) x2 r2 (by rw [et]; dsimp only; exact o.2.2.2.1)
      refine ⟨S2, (pre _).mpr ?_, y1, y2, y3⟩
      rw [if_pos z, if_neg (by decide), e1, kV_v, r10_8, d202]
      unfold F_X6_byDraws
      rw [d202]
      have e2' : F_X6_go Θ (gb Θ + 202) 1 0 (laz Θ S1 ω) n = some (.inl (none, laz Θ S' ω, n)) := e2
      rw [e2', kV_v, kV_v, r10_8, a202_8, o.2.1]
      rw [et] at e3
      rw [show trA (zA S0 219) lw (k + 1) a q = trA (zA S0 219) lw k (a + 1) (tr1 (zA S0 219) lw a q) from rfl, et, ← e3]
      by_cases y : (rst (cPar (zA S0 219) lw a true false) (-1, 0, q.2) 10).1 = -1
      · rw [if_pos y, nI_1, if_pos y]
      · rw [if_neg y, nI_1, if_neg y]
    · have et : tr1 (zA S0 219) lw a q = q := if_neg z
      obtain ⟨S2, e3, y1, y2, y3⟩ := ih (a + 1) f q S (by omega) (by omega) xl h h7
      rw [show trA (zA S0 219) lw (k + 1) a q = trA (zA S0 219) lw k (a + 1) (tr1 (zA S0 219) lw a q) from rfl, et]
      refine ⟨S2, (pre _).mpr ?_, y1, y2, y3⟩
      rw [if_neg z, if_pos rfl, nI_1, e3]
theorem x_tr_O (hC : Core Θ S0 ω) {lw : LW} (hL : LawR Θ ω (zR S0 14 17) (zA S0 219) lw) {N : Nat} (hN : N ≤ 20) : ∀ (k r f : Nat) (q : Int32 × Int32) (S : PZ), r + k = N → k < f → XL 202 S0 S → RLd Θ S ω (zA S0 219) lw (fun s => pin (zA S0 219) (nI s)) (fun _ => false) → zF S 202 7 = q.2 → ∃ S', L_X10_screamsOfTrials_20 Θ f (gb Θ) (nI N) q.1 (nI r) (laz Θ S ω) n = some (.inl (some (.int (trR (zA S0 219) lw (cO' (zA S0 219)) k q).1), laz Θ S' ω, n)) ∧ XL 202 S0 S' := by
  have h6 := hC.O
  intro k
  induction k with
  | zero =>
    intro r f q S h1 h2 xl h h7
    obtain ⟨f, rfl⟩ : ∃ g, f = g + 1 := ⟨f - 1, by omega⟩
    refine ⟨S, ?_, xl⟩
    unfold L_X10_screamsOfTrials_20 B_X10_screamsOfTrials_20
    rw [if_pos (nI_le (by omega) (by omega))]
    rfl
  | succ k ih =>
    intro r f q S h1 h2 xl h h7
    obtain ⟨f, rfl⟩ : ∃ g, f = g + 1 := ⟨f - 1, by omega⟩
    obtain ⟨S1, e1, y1, y2, y3⟩ := x_tr_I (n := n) hC hL (L_X10_screamsOfTrials_20 Θ f) (nI N) (nI r) (cO' (zA S0 219)) 0 5000 q S (by omega) (by omega) xl h h7
    obtain ⟨S', e2, z1⟩ := ih (r + 1) f (trA (zA S0 219) lw (cO' (zA S0 219)) 0 q) S1 (by omega) (by omega) y1 y2 y3
    refine ⟨S', ?_, z1⟩
    unfold L_X10_screamsOfTrials_20 B_X10_screamsOfTrials_20
    rw [if_neg (nI_ge (by omega) (by omega))]
    refine e1.trans ?_
    rw [nI_1, e2]
    rfl
/-- the screams of N trials from a seed -/
theorem x_trials (hC : Core Θ S0 ω) {lw : LW} (hL : LawR Θ ω (zR S0 14 17) (zA S0 219) lw) {N : Nat} (hN : N ≤ 20) (sd : Int32) (xl : XL 202 S0 S) : ∃ S', F_X10_screamsOfTrials Θ (gb Θ) (nI N) sd (laz Θ S ω) n = some (.inl (some (.int (trR (zA S0 219) lw (cO' (zA S0 219)) N (0, sd)).1), laz Θ S' ω, n)) ∧ XL 202 S0 S' := by
  have hR : isR 202 := Or.inl rfl
  have hC' : Core Θ S ω := hC.kp (xl.kp hR)
  have e9 : zA S 219 = zA S0 219 := xl.2.1 219 (by omega)
  have hL' : LawR Θ ω (zR S 14 17) (zA S 219) lw := by rw [xl.2.2.1, e9]; exact hL
  obtain ⟨x1, r1⟩ := x_laid hC' hL'
  rw [e9] at r1
  unfold F_X10_screamsOfTrials
  rw [r10_8, d202, x_lay hR, kV_v, r10_8, b202_7]
  exact x_tr_O hC hL hN N 0 5000 (0, sd) _ (by omega) (by omega) ((xl.trans x1).nF) (r1.nF (by decide)) (zF_eq _ _ _ _)
end TR
