/-! promises 21 to 25: ways, at, odds, gap, errors -/
section LY
variable {Θ : GP} {S : PZ} {ω : OW} {n : Nat} {lw : LW}
theorem x_ldy (hC : Core Θ S ω) (hI : Idle Θ S) (hL : LawR Θ ω (zR S 14 17) (zA S 219) lw) : ∃ S1, F_X6_lay Θ (gb Θ + 202) (laz Θ S ω) n = some (.inl (none, laz Θ S1 ω, n)) ∧ XL 202 S S1 ∧ RLd Θ S1 ω (zA S 219) lw (fun s => pin (zA S 219) (nI s)) (fun _ => false) ∧ IdW Θ S1 := by
  have hR : isR 202 := Or.inl rfl
  obtain ⟨x1, l1⟩ := x_laidN hC.1.1 hC.1.2.1 hL
  exact ⟨_, x_lay hR, x1, l1, hI.w.xl x1⟩
theorem XKw.idle {S' : PZ} (h : XKw S S') (hI : Idle Θ S) (i : IdW Θ S') : Idle Θ S' := i.idle ((congrFun (h.2.1 200 (by omega) (by omega) (by omega) (by omega)) 0).trans (hI.2.1 0 (by omega)).2.2) ((h.1 218 23 (by omega) (by omega)).trans hI.2.2.1) ((h.1 218 24 (by omega) (by omega)).trans hI.2.2.2)
theorem XKw.w {S' : PZ} (h : XKw S S') : zA S' 219 = zA S 219 := h.2.1 219 (by omega) (by omega) (by omega) (by omega)
end LY
theorem pc19 (Θ : GP) : PC_19 Θ (gb Θ) (gb Θ + 218) (gb Θ + 234) (Inv Θ) := by
  intro v xs i hI
  obtain ⟨S, ω, rfl, hC, hI⟩ := hI
  have hO := hC.O
  obtain ⟨lw, hL⟩ := hC.lw
  show stW Θ _ _ (fun ω n => W_ways Θ (gb Θ) (xs (i + 1)) (gb Θ + 234) ω n) (fun ω n => F_X11_ways Θ (gb Θ + 218) (xs (i + 1)) ω n) _ _
  generalize xs (i + 1) = v
  by_cases hv : ∃ s, s < cO' (zA S 219) ∧ v = nI s
  · obtain ⟨a, ha, rfl⟩ := hv
    refine fin_W fun n _ => ?_
    obtain ⟨S1, e1, x1, l1, i1⟩ := x_ldy (n := n) hC hI hL
    obtain ⟨S2, e2, x2, i2, a2, _, _⟩ := x_countOf (Θ := Θ) (S := S1) (ω := ω) (n := n) hC.1.1 hL.2 (show a < 6 by omega) l1 (x_bd hC x1.xk (SmO.rf _) ha) i1
    have xk := x1.xk.trans x2.xk
    have hI2 := xk.idle hI i2
    refine ⟨0, uL S2 234 (nI (wyT (cPar (zA S 219) lw a false false) ten)).toInt64, ω, ?_, fun n2 => ?_⟩
    · show W_ways Θ (gb Θ) (nI a) (gb Θ + 234) (laz Θ S ω) n = _
      unfold W_ways F_X10_ways
      rw [c10w, c10, x_needOne_y hC ha, kV_v, r10_8, d202, e1, kV_v, r10_10, d214, e2, kV_v, r10_10, a214_0, a2, wrJ_v]
    · obtain ⟨S3, e3, x3, _⟩ := m_waysOf (Θ := Θ) (S := uF (uL S2 234 (nI (wyT (cPar (zA S 219) lw a false false) ten)).toInt64) 218 0 0) (ω := ω) (n := n2) (a := a) (lw := lw) xk.w hC.1.1 hL.2 (by omega)
      refine ⟨_, S3, n2, ?_, (x3.1 218 0 (by omega)).trans rfl, fun _ => (x3.2.2.2 234).trans rfl, (((hC.kp xk.kp).nL).thr).kp x3.kp, x3.idle (hI2.nL.thr)⟩
      show F_X11_ways Θ (gb Θ + 218) (nI a) (laz Θ _ ω) n2 = _
      unfold F_X11_ways J_X11_ways_27
      rw [b218_0, d218, m_noOne_y (P := cO' (zA S 219)) (by rw [← hO.1]; exact congrFun xk.w 1) hO.2.1 ha, kI_v, d218, m_throwsIf0, kI_v, if_pos rfl, d218, e3, kI_v]
  · refine one_n hC hI hv (fun n => ?_) (fun n => ?_)
    · show W_ways Θ (gb Θ) v (gb Θ + 234) (laz Θ S ω) n = _
      unfold W_ways F_X10_ways
      rw [c10w, c10, x_needOne_n hC hv, kV_x, wrJ_x]
    · show F_X11_ways Θ (gb Θ + 218) v (laz Θ S ω) n = _
      unfold F_X11_ways J_X11_ways_27
      rw [b218_0, d218, m_noOne_n (by exact hO.1) hO.2.1 hv, kI_v, d218, m_throwsIf1, kI_v, if_neg (by decide)]
theorem pc21 (Θ : GP) : PC_21 Θ (gb Θ) (gb Θ + 218) (gb Θ + 234) (Inv Θ) := by
  intro v xs i hI
  obtain ⟨S, ω, rfl, hC, hI⟩ := hI
  have hO := hC.O
  obtain ⟨lw, hL⟩ := hC.lw
  show stW Θ _ _ (fun ω n => W_odds Θ (gb Θ) (xs (i + 1)) (gb Θ + 234) ω n) (fun ω n => F_X11_odds Θ (gb Θ + 218) (xs (i + 1)) ω n) _ _
  generalize xs (i + 1) = v
  by_cases hv : ∃ s, s < cO' (zA S 219) ∧ v = nI s
  · obtain ⟨a, ha, rfl⟩ := hv
    refine fin_W fun n _ => ?_
    obtain ⟨S1, e1, x1, l1, i1⟩ := x_ldy (n := n) hC hI hL
    obtain ⟨S2, e2, x2, i2⟩ := x_oddsOf (Θ := Θ) (S := S1) (ω := ω) (n := n) hC.1.1 hL.2 (show a < 6 by omega) l1 (x_bd hC x1.xk (SmO.rf _) ha) i1
    have xk := x1.xk.trans x2.xk
    have hI2 := xk.idle hI i2
    refine ⟨0, uL S2 234 (nI (odN (cPar (zA S 219) lw a false false))).toInt64, ω, ?_, fun n2 => ?_⟩
    · show W_odds Θ (gb Θ) (nI a) (gb Θ + 234) (laz Θ S ω) n = _
      unfold W_odds F_X10_odds
      rw [c10w, c10, x_needOne_y hC ha, kV_v, r10_8, d202, e1, kV_v, r10_10, d214, e2, kI_v, wrJ_v]
    · obtain ⟨S3, e3, x3⟩ := m_oddsOf (Θ := Θ) (S := uF (uL S2 234 (nI (odN (cPar (zA S 219) lw a false false))).toInt64) 218 0 0) (ω := ω) (n := n2) (a := a) (lw := lw) xk.w hC.1.1 hL.2 (by omega)
      refine ⟨_, S3, n2, ?_, (x3.1 218 0 (by omega)).trans rfl, fun _ => (x3.2.2.2 234).trans rfl, (((hC.kp xk.kp).nL).thr).kp x3.kp, x3.idle (hI2.nL.thr)⟩
      show F_X11_odds Θ (gb Θ + 218) (nI a) (laz Θ _ ω) n2 = _
      unfold F_X11_odds J_X11_odds_27
      rw [b218_0, d218, m_noOne_y (P := cO' (zA S 219)) (by rw [← hO.1]; exact congrFun xk.w 1) hO.2.1 ha, kI_v, d218, m_throwsIf0, kI_v, if_pos rfl, d218, e3, kI_v]
  · refine one_n hC hI hv (fun n => ?_) (fun n => ?_)
    · show W_odds Θ (gb Θ) v (gb Θ + 234) (laz Θ S ω) n = _
      unfold W_odds F_X10_odds
      rw [c10w, c10, x_needOne_n hC hv, kV_x, wrJ_x]
    · show F_X11_odds Θ (gb Θ + 218) v (laz Θ S ω) n = _
      unfold F_X11_odds J_X11_odds_27
      rw [b218_0, d218, m_noOne_n (by exact hO.1) hO.2.1 hv, kI_v, d218, m_throwsIf1, kI_v, if_neg (by decide)]
theorem pc20 (Θ : GP) : PC_20 Θ (gb Θ) (gb Θ + 218) (gb Θ + 234) (Inv Θ) := by
  intro v xs i hI
  obtain ⟨S, ω, rfl, hC, hI⟩ := hI
  have hO := hC.O
  obtain ⟨lw, hL⟩ := hC.lw
  show stW Θ _ _ (fun ω n => W_at Θ (gb Θ) (xs (i + 1)) (xs (i + 2)) (gb Θ + 234) ω n) (fun ω n => F_X11_at Θ (gb Θ + 218) (xs (i + 1)) (xs (i + 2)) ω n) _ _
  generalize xs (i + 1) = v
  generalize xs (i + 2) = u
  by_cases hv : ∃ s, s < cO' (zA S 219) ∧ v = nI s
  · obtain ⟨a, ha, rfl⟩ := hv
    by_cases hu : ∃ s, s < 10 ∧ u = nI s
    · obtain ⟨s, hs, rfl⟩ := hu
      refine fin_W fun n _ => ?_
      obtain ⟨S1, e1, x1, l1, i1⟩ := x_ldy (n := n) hC hI hL
      obtain ⟨S2, e2, x2, i2, _, _, a2⟩ := x_countOf (Θ := Θ) (S := S1) (ω := ω) (n := n) hC.1.1 hL.2 (show a < 6 by omega) l1 (x_bd hC x1.xk (SmO.rf _) ha) i1
      have xk := x1.xk.trans x2.xk
      have hI2 := xk.idle hI i2
      refine ⟨0, uL S2 234 (nI (wyA (cPar (zA S 219) lw a false false) s)).toInt64, ω, ?_, fun n2 => ?_⟩
      · show W_at Θ (gb Θ) (nI a) (nI s) (gb Θ + 234) (laz Θ S ω) n = _
        unfold W_at F_X10_at
        rw [c10w, c10, x_needOne_y hC ha, kV_v, c10, x_needSlot_y hs, kV_v, r10_8, d202, e1, kV_v, r10_10, d214, e2, kV_v, r10_10, a214_1, l_215 hs, a2 s hs, wrJ_v]
      · obtain ⟨S3, e3, x3, _, a3⟩ := m_laysRows (Θ := Θ) (S := uF (uL S2 234 (nI (wyA (cPar (zA S 219) lw a false false) s)).toInt64) 218 0 0) (ω := ω) (n := n2) (a := a) (lw := lw) xk.w hC.1.1 hL.2 (by omega)
        refine ⟨_, S3, n2, ?_, (x3.1 218 0 (by omega)).trans rfl, fun _ => (x3.2.2.2 234).trans rfl, (((hC.kp xk.kp).nL).thr).kp x3.kp, x3.idle (hI2.nL.thr)⟩
        show F_X11_at Θ (gb Θ + 218) (nI a) (nI s) (laz Θ _ ω) n2 = _
        unfold F_X11_at J_X11_at_26
        rw [b218_0, d218, m_noOne_y (P := cO' (zA S 219)) (by rw [← hO.1]; exact congrFun xk.w 1) hO.2.1 ha, kI_v, if_pos rfl, m_noSlot_y hs, kI_v, if_pos rfl, d218, m_throwsIf0, kI_v, if_pos rfl, d218, e3, kV_v, a218_35, l_232 hs, a3 s hs]
    · refine fin_W fun n _ => ⟨1, S, ω, ?_, fun n2 => ⟨0, uF (uF S 218 0 0) 218 0 1, n2, ?_, rfl, fun h => absurd h (by decide), hC.thr.thr, hI.thr.thr⟩⟩
      · show W_at Θ (gb Θ) (nI a) u (gb Θ + 234) (laz Θ S ω) n = _
        unfold W_at F_X10_at
        rw [c10w, c10, x_needOne_y hC ha, kV_v, c10, x_needSlot_n hu, kV_x, wrJ_x]
      · show F_X11_at Θ (gb Θ + 218) (nI a) u (laz Θ S ω) n2 = _
        unfold F_X11_at J_X11_at_21 J_X11_at_26
        rw [b218_0, d218, m_noOne_y (by exact hO.1) hO.2.1 ha, kI_v, if_pos rfl, m_noSlot_n hu, kI_v, if_neg (by decide), d218, m_throwsIf1, kI_v, if_neg (by decide)]
  · refine one_n hC hI hv (fun n => ?_) (fun n => ?_)
    · show W_at Θ (gb Θ) v u (gb Θ + 234) (laz Θ S ω) n = _
      unfold W_at F_X10_at
      rw [c10w, c10, x_needOne_n hC hv, kV_x, wrJ_x]
    · show F_X11_at Θ (gb Θ + 218) v u (laz Θ S ω) n = _
      unfold F_X11_at J_X11_at_21 J_X11_at_26
      rw [b218_0, d218, m_noOne_n (by exact hO.1) hO.2.1 hv, kI_v, if_neg (by decide), d218, m_throwsIf1, kI_v, if_neg (by decide)]
theorem pc22 (Θ : GP) : PC_22 Θ (gb Θ) (gb Θ + 218) (gb Θ + 234) (Inv Θ) := by
  intro v xs i hI
  obtain ⟨S, ω, rfl, hC, hI⟩ := hI
  obtain ⟨lw, hL⟩ := hC.lw
  show stI (gb Θ) (gb Θ + 218) (fun ω n => F_X10_gap Θ (gb Θ) ω n) (fun ω n => F_X11_gap Θ (gb Θ + 218) ω n) (Inv Θ) _
  refine fin_I fun n _ => ?_
  obtain ⟨S1, e1, x1, l1, i1⟩ := x_ldy (n := n) hC hI hL
  obtain ⟨S2, e2, x2, i2⟩ := x_gapAsLaid (Θ := Θ) (n := n) hC hC.1.1 hL.2 (SmO.rf _) x1.xk l1 i1
  have xk := x1.xk.trans x2.xk
  have hI2 := xk.idle hI i2
  refine ⟨gpW (zA S 219) lw, S2, ω, n, ?_, fun n2 => ?_⟩
  · show F_X10_gap Θ (gb Θ) (laz Θ S ω) n = _
    unfold F_X10_gap
    rw [r10_8, d202, e1, kV_v, c10, e2, kI_v]
  · obtain ⟨S3, e3, x3⟩ := m_gapNow (Θ := Θ) (S := uF S2 218 0 0) (ω := ω) (n := n2) (w := zA S 219) (lw := lw) xk.w hC.1.1 hL.2
    refine ⟨S3, n2, ?_, ((hC.kp xk.kp).thr).kp x3.kp, x3.idle (hI2.thr)⟩
    show F_X11_gap Θ (gb Θ + 218) (laz Θ S2 ω) n2 = _
    unfold F_X11_gap
    rw [b218_0, d218, e3, kI_v]
/-- one more error, or none -/
noncomputable def erI (w : Nat → Int32) (lw : LW) (l1 : Int32) : Nat → Int32 := fun a => if w (4 * a + 44) = 0 ∧ (if w (4 * a + 41) = 0 then (1 : Int32) else 0) = l1 ∧ (if odN (cPar w lw a false false) < 5000 then (1 : Int32) else 0) = l1 then 1 else 0
section ER
variable {Θ : GP} {S S0 : PZ} {ω : OW} {n : Nat} {w : Nat → Int32} {lw : LW} {l1 : Int32}
theorem od_lt {w : Nat → Int32} {lw : LW} {a : Nat} (hW : WB w) (hM : LawM w lw) (ha : a < 6) : odN (cPar w lw a false false) ≤ 10000 := odN_le (np_le8 hW (c := cPar w lw a false false) (fun s _ => rfl)) (cPar_ok hW hM ha false false).nv.2
theorem x_err_L (hC : Core Θ S0 ω) (hM : LawM (zA S0 219) lw) (hl1 : l1 = 0 ∨ l1 = 1) : ∀ (k a f : Nat) (x : Int32) (S : PZ), a + k = cO' (zA S0 219) → k < f → XKw S0 S → RLd Θ S ω (zA S0 219) lw (fun s => pin (zA S0 219) (nI s)) (fun _ => false) → IdW Θ S → ∃ S', L_X10_errors_11 Θ f (gb Θ) l1 x (nI a) (laz Θ S ω) n = some (.inl (some (.int (adL (erI (zA S0 219) lw l1) k a x)), laz Θ S' ω, n)) ∧ XKw S0 S' ∧ IdW Θ S' := by
  have hO := hC.O
  intro k
  induction k with
  | zero =>
    intro a f x S h1 h2 xk hl hi
    obtain ⟨f, rfl⟩ : ∃ g, f = g + 1 := ⟨f - 1, by omega⟩
    refine ⟨S, ?_, xk, hi⟩
    unfold L_X10_errors_11 B_X10_errors_11
    rw [r10_0, a14_1, xk.1 14 1 (by omega) (by omega), hO.2.2, if_pos (nI_le (by omega) (by omega))]
    rfl
  | succ k ih =>
    intro a f x S h1 h2 xk hl hi
    obtain ⟨f, rfl⟩ : ∃ g, f = g + 1 := ⟨f - 1, by omega⟩
    have ha : a < cO' (zA S0 219) := by omega
    have ho := od_lt (a := a) hC.1.1 hM (by omega)
    rw [show L_X10_errors_11 Θ (f + 1) (gb Θ) l1 x (nI a) (laz Θ S ω) n = B_X10_errors_11 Θ (L_X10_errors_11 Θ f) (gb Θ) l1 x (nI a) (laz Θ S ω) n from rfl, show adL (erI (zA S0 219) lw l1) (k + 1) a x = adL (erI (zA S0 219) lw l1) k (a + 1) (x + erI (zA S0 219) lw l1 a) from rfl]
    unfold B_X10_errors_11 J_X10_errors_64 J_X10_errors_78 J_X10_errors_80
    rw [r10_0, a14_1, xk.1 14 1 (by omega) (by omega), hO.2.2, if_neg (nI_ge (by omega) (by omega)), r10_0, d14, x_waits hC (xk.2.1 23 (by omega) (by omega) (by omega) (by omega)) ha, kI_v, nI_1]
    by_cases z : zA S0 219 (4 * a + 44) = 0
    · rw [if_pos z, if_neg (show ¬ (1 : Int32) = 0 by decide), r10_0, d14, x_isInnocent hC (xk.2.1 20 (by omega) (by omega) (by omega) (by omega)) ha, kI_v]
      by_cases y : (if zA S0 219 (4 * a + 41) = 0 then (1 : Int32) else 0) = l1
      · obtain ⟨S1, e1, x1, i1⟩ := x_oddsOf (Θ := Θ) (S := S) (ω := ω) (n := n) hC.1.1 hM (show a < 6 by omega) hl (x_bd hC xk (SmO.rf _) ha) hi
        have xk1 := xk.trans x1.xk
        rw [if_pos y, r10_10, d214, e1, kI_v]
        by_cases v : odN (cPar (zA S0 219) lw a false false) < 5000
        · rw [if_pos (show nI (odN (cPar (zA S0 219) lw a false false)) < 5000 from nI_lt (b := 5000) v (by omega))]
          by_cases q : l1 = 0
          · have e : erI (zA S0 219) lw l1 a = 0 := by unfold erI; rw [if_neg]; rintro ⟨_, _, g⟩; rw [if_pos v, q] at g; exact absurd g (by decide)
            rw [if_pos q.symm, e]
            exact ih (a + 1) f _ S1 (by omega) (by omega) xk1 (hl.xw x1) i1
          · have q1 : l1 = 1 := hl1.resolve_left q
            have e : erI (zA S0 219) lw l1 a = 1 := by unfold erI; exact if_pos ⟨z, y, by rw [if_pos v, q1]⟩
            rw [if_neg (fun g => q g.symm), e]
            exact ih (a + 1) f _ S1 (by omega) (by omega) xk1 (hl.xw x1) i1
        · rw [if_neg (show ¬ nI (odN (cPar (zA S0 219) lw a false false)) < 5000 from nI_nlt (b := 5000) (by omega) (by omega))]
          by_cases q : l1 = 0
          · have e : erI (zA S0 219) lw l1 a = 1 := by unfold erI; exact if_pos ⟨z, y, by rw [if_neg v, q]⟩
            rw [if_neg (by rw [q]; decide), e]
            exact ih (a + 1) f _ S1 (by omega) (by omega) xk1 (hl.xw x1) i1
          · have q1 : l1 = 1 := hl1.resolve_left q
            have e : erI (zA S0 219) lw l1 a = 0 := by unfold erI; rw [if_neg]; rintro ⟨_, _, g⟩; rw [if_neg v, q1] at g; exact absurd g (by decide)
            rw [if_pos q1.symm, e]
            exact ih (a + 1) f _ S1 (by omega) (by omega) xk1 (hl.xw x1) i1
      · have e : erI (zA S0 219) lw l1 a = 0 := if_neg (fun g => y g.2.1)
        rw [if_neg y, e, Int32.add_zero]
        exact ih (a + 1) f x S (by omega) (by omega) xk hl hi
    · have e : erI (zA S0 219) lw l1 a = 0 := if_neg (fun g => z g.1)
      rw [if_neg z, if_pos rfl, e, Int32.add_zero]
      exact ih (a + 1) f x S (by omega) (by omega) xk hl hi
theorem m_err_L (hW : WB w) (hM : LawM w lw) : ∀ (k a f : Nat) (x : Int32) (S : PZ), a + k = cO' w → k < f → zA S 219 = w → ∃ S', L_X11_errors_9 Θ f (gb Θ + 218) l1 x (nI a) (laz Θ S ω) n = some (.inl (some (.int (adL (erI w lw l1) k a x)), laz Θ S' ω, n)) ∧ XY S S' := by
  have h6 := hW.O6
  intro k
  induction k with
  | zero =>
    intro a f x S h1 h2 hw
    obtain ⟨f, rfl⟩ : ∃ g, f = g + 1 := ⟨f - 1, by omega⟩
    refine ⟨S, ?_, XY.rf S⟩
    unfold L_X11_errors_9 B_X11_errors_9
    rw [d218, m_oneCount, kI_v, hw, h6.1, if_pos (nI_le (by omega) (by omega))]
    rfl
  | succ k ih =>
    intro a f x S h1 h2 hw
    obtain ⟨f, rfl⟩ : ∃ g, f = g + 1 := ⟨f - 1, by omega⟩
    have ho := od_lt (a := a) hW hM (by omega)
    rw [show L_X11_errors_9 Θ (f + 1) (gb Θ + 218) l1 x (nI a) (laz Θ S ω) n = B_X11_errors_9 Θ (L_X11_errors_9 Θ f) (gb Θ + 218) l1 x (nI a) (laz Θ S ω) n from rfl, show adL (erI w lw l1) (k + 1) a x = adL (erI w lw l1) k (a + 1) (x + erI w lw l1 a) from rfl]
    unfold B_X11_errors_9 J_X11_errors_51 J_X11_errors_60 J_X11_errors_62
    rw [d218, m_oneCount, kI_v, hw, h6.1, if_neg (nI_ge (by omega) (by omega)), d218, m_waits (by omega), kI_v, hw, nI_1]
    by_cases z : w (4 * a + 44) = 0
    · rw [if_pos z, if_neg (show ¬ (1 : Int32) = 0 by decide), d218, m_isInnocent (by omega), kI_v, hw]
      by_cases y : (if w (4 * a + 41) = 0 then (1 : Int32) else 0) = l1
      · obtain ⟨S1, e1, x1⟩ := m_oddsOf (Θ := Θ) (ω := ω) (n := n) (a := a) hw hW hM (by omega)
        have w1 := (x1.2.1 219 (by decide) (by decide) (by decide) (by decide)).trans hw
        have go : ∀ d, ∃ S', L_X11_errors_9 Θ f (gb Θ + 218) l1 (x + d) (nI (a + 1)) (laz Θ S1 ω) n = some (.inl (some (.int (adL (erI w lw l1) k (a + 1) (x + d))), laz Θ S' ω, n)) ∧ XY S S' := fun d => by
          obtain ⟨S2, e2, x2⟩ := ih (a + 1) f (x + d) S1 (by omega) (by omega) w1
          exact ⟨S2, e2, x1.trans x2⟩
        rw [if_pos y, d218, e1, kI_v]
        by_cases v : odN (cPar w lw a false false) < 5000
        · rw [if_neg (show ¬ 5000 ≤ nI (odN (cPar w lw a false false)) from nI_ge (b := 5000) v (by omega))]
          by_cases q : 1 = l1
          · have e : erI w lw l1 a = 1 := by unfold erI; exact if_pos ⟨z, y, by rw [if_pos v]; exact q⟩
            rw [if_pos q, e]; exact go 1
          · have e : erI w lw l1 a = 0 := by unfold erI; rw [if_neg]; rintro ⟨_, _, g⟩; rw [if_pos v] at g; exact q g
            rw [if_neg q, e]; exact go 0
        · rw [if_pos (show 5000 ≤ nI (odN (cPar w lw a false false)) from nI_le (a := 5000) (by omega) (by omega))]
          by_cases q : 0 = l1
          · have e : erI w lw l1 a = 1 := by unfold erI; exact if_pos ⟨z, y, by rw [if_neg v]; exact q⟩
            rw [if_pos q, e]; exact go 1
          · have e : erI w lw l1 a = 0 := by unfold erI; rw [if_neg]; rintro ⟨_, _, g⟩; rw [if_neg v] at g; exact q g
            rw [if_neg q, e]; exact go 0
      · have e : erI w lw l1 a = 0 := if_neg (fun g => y g.2.1)
        rw [if_neg y, e, Int32.add_zero]
        exact ih (a + 1) f x S (by omega) (by omega) hw
    · have e : erI w lw l1 a = 0 := if_neg (fun g => z g.1)
      rw [if_neg z, if_pos rfl, e, Int32.add_zero]
      exact ih (a + 1) f x S (by omega) (by omega) hw
end ER
theorem pc23 (Θ : GP) : PC_23 Θ (gb Θ) (gb Θ + 218) (gb Θ + 234) (Inv Θ) := by
  intro v xs i hI
  obtain ⟨S, ω, rfl, hC, hI⟩ := hI
  have hO := hC.O
  obtain ⟨lw, hL⟩ := hC.lw
  have hb := bI_01 (xs (i + 1))
  show stI (gb Θ) (gb Θ + 218) (fun ω n => F_X10_errors Θ (gb Θ) (bI (xs (i + 1))) ω n) (fun ω n => F_X11_errors Θ (gb Θ + 218) (bI (xs (i + 1))) ω n) (Inv Θ) _
  generalize bI (xs (i + 1)) = l1 at hb ⊢
  refine fin_I fun n _ => ?_
  obtain ⟨S1, e1, x1, z1, i1⟩ := x_ldy (n := n) hC hI hL
  obtain ⟨S2, e2, xk, i2⟩ := x_err_L (Θ := Θ) (n := n) (l1 := l1) hC hL.2 hb (cO' (zA S 219)) 0 5000 0 S1 (by omega) (by omega) x1.xk z1 i1
  have e2 : L_X10_errors_11 Θ 5000 (gb Θ) l1 0 0 (laz Θ S1 ω) n = _ := e2
  have hI2 := xk.idle hI i2
  refine ⟨adL (erI (zA S 219) lw l1) (cO' (zA S 219)) 0 0, S2, ω, n, ?_, fun n2 => ?_⟩
  · show F_X10_errors Θ (gb Θ) l1 (laz Θ S ω) n = _
    unfold F_X10_errors
    rw [r10_8, d202, e1, kV_v, e2]
  · obtain ⟨S3, e3, x3⟩ := m_err_L (Θ := Θ) (ω := ω) (n := n2) (l1 := l1) hC.1.1 hL.2 (cO' (zA S 219)) 0 5000 0 (uF S2 218 0 0) (by omega) (by omega) xk.w
    have e3 : L_X11_errors_9 Θ 5000 (gb Θ + 218) l1 0 0 (laz Θ (uF S2 218 0 0) ω) n2 = _ := e3
    refine ⟨S3, n2, ?_, ((hC.kp xk.kp).thr).kp x3.kp, x3.idle (hI2.thr)⟩
    show F_X11_errors Θ (gb Θ + 218) l1 (laz Θ S2 ω) n2 = _
    unfold F_X11_errors
    rw [b218_0, e3]
