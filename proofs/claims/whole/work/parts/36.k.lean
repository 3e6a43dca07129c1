/-- the fewest or the most of the trials from seeds -/
def spL (T : Nat → Int32) (m : Int32) : Nat → Nat → Int32 → Int32
  | 0, _, b => b
  | k + 1, s, b => spL T m k (s + 1) (if m = 0 then (if T s < b then T s else b) else (if b < T s then T s else b))
section SP
variable {Θ : GP} {S0 : PZ} {ω : OW} {n : Nat}
theorem x_span_L (hC : Core Θ S0 ω) {lw : LW} (hL : LawR Θ ω (zR S0 14 17) (zA S0 219) lw) {N : Nat} (hN : N ≤ 20) {m : Int32} : ∀ (k s f : Nat) (b : Int32) (S : PZ), s + k = 7 → k < f → XL 202 S0 S → ∃ S', L_X10_span_15 Θ f (gb Θ) (nI N) m b (nI s) (laz Θ S ω) n = some (.inl (some (.int (spL (fun s => (trR (zA S0 219) lw (cO' (zA S0 219)) N (0, nI s)).1) m k s b)), laz Θ S' ω, n)) ∧ XL 202 S0 S' := by
  intro k
  induction k with
  | zero =>
    intro s f b S h1 h2 xl
    obtain ⟨f, rfl⟩ : ∃ g, f = g + 1 := ⟨f - 1, by omega⟩
    refine ⟨S, ?_, xl⟩
    unfold L_X10_span_15 B_X10_span_15
    rw [if_pos (show (6 : Int32) < nI s from nI_lt (a := 6) (by omega) (by omega))]
    rfl
  | succ k ih =>
    intro s f b S h1 h2 xl
    obtain ⟨f, rfl⟩ : ∃ g, f = g + 1 := ⟨f - 1, by omega⟩
    obtain ⟨S1, e1, x1⟩ := x_trials (n := n) hC hL hN (nI s) xl
    obtain ⟨S', e2, x2⟩ := ih (s + 1) f (if m = 0 then (if (trR (zA S0 219) lw (cO' (zA S0 219)) N (0, nI s)).1 < b then (trR (zA S0 219) lw (cO' (zA S0 219)) N (0, nI s)).1 else b) else (if b < (trR (zA S0 219) lw (cO' (zA S0 219)) N (0, nI s)).1 then (trR (zA S0 219) lw (cO' (zA S0 219)) N (0, nI s)).1 else b)) S1 (by omega) (by omega) x1
    refine ⟨S', ?_, x2⟩
    unfold L_X10_span_15 B_X10_span_15 J_X10_span_50
    rw [if_neg (show ¬ (6 : Int32) < nI s from nI_nlt (a := 6) (by omega) (by decide)), c10, e1, kI_v]
    by_cases z : m = 0
    · rw [if_pos z, nI_1]
      rw [if_pos z] at e2
      rw [e2]
      simp only [spL, if_pos z]
    · rw [if_neg z, nI_1]
      rw [if_neg z] at e2
      rw [e2]
      simp only [spL, if_neg z]
theorem m_screamsBy {w : Nat → Int32} {lw : LW} (hW : WB w) (hM : LawM w lw) {S : PZ} (h23 : zF S 218 23 = 0) (h24 : zF S 218 24 = 0) {N : Nat} (hN : N ≤ 20) {sd : Int32} (hw : zA S 219 = upd w 8 sd) : ∃ S', F_X11_screamsBy Θ (gb Θ + 218) (nI N) (laz Θ S ω) n = some (.inl (some (.int (trR w lw (cO' w) N (0, sd)).1), laz Θ S' ω, n)) ∧ XT S S' ∧ ∃ sd', zA S' 219 = upd w 8 sd' := by
  obtain ⟨S', e, x, y⟩ := m_tr_O (Θ := Θ) (ω := ω) (n := n) hW hM h23 h24 hN N 0 5000 (0, sd) S (by omega) (by omega) (XT.rf S) hw
  exact ⟨S', e, x, _, y⟩
theorem m_span_L {w : Nat → Int32} {lw : LW} (hW : WB w) (hM : LawM w lw) (h23 : zF S0 218 23 = 0) (h24 : zF S0 218 24 = 0) {N : Nat} (hN : N ≤ 20) {m sd : Int32} : ∀ (k s f : Nat) (b : Int32) (S : PZ), s + k = 7 → k < f → Rg b 1000 → XT S0 S → (∃ x, zA S 219 = upd w 8 x) → ∃ S', L_X11_span_44 Θ f (gb Θ + 218) (nI N) m sd b (nI s) (laz Θ S ω) n = some (.inl (some (.int (spL (fun s => (trR w lw (cO' w) N (0, nI s)).1) m k s b)), laz Θ S' ω, n)) ∧ XT S0 S' ∧ zA S' 219 = upd w 8 sd := by
  intro k
  induction k with
  | zero =>
    intro s f b S h1 h2 hb xt hw
    obtain ⟨f, rfl⟩ : ∃ g, f = g + 1 := ⟨f - 1, by omega⟩
    obtain ⟨x, hw⟩ := hw
    refine ⟨uA S 219 (upd (zA S 219) 8 sd), ?_, xt.nA (by omega), ?_⟩
    · unfold L_X11_span_44 B_X11_span_44
      rw [if_pos (show (6 : Int32) < nI s from nI_lt (a := 6) (by omega) (by omega)), a218_1, sI_lit, s_219 (by decide)]
      rfl
    · rw [zA_eq, hw, w8_w8]
  | succ k ih =>
    intro s f b S h1 h2 hb xt hw
    obtain ⟨f, rfl⟩ : ∃ g, f = g + 1 := ⟨f - 1, by omega⟩
    obtain ⟨x, hw⟩ := hw
    have hw1 : zA (uA S 219 (upd (zA S 219) 8 (nI s))) 219 = upd w 8 (nI s) := by rw [zA_eq, hw, w8_w8]
    have xt1 : XT S0 (uA S 219 (upd (zA S 219) 8 (nI s))) := xt.nA (by omega)
    obtain ⟨S1, e1, x1, y1⟩ := m_screamsBy (Θ := Θ) (ω := ω) (n := n) hW hM ((xt1.1 218 23 (by omega)).trans h23) ((xt1.1 218 24 (by omega)).trans h24) hN hw1
    have ht : Rg (trR w lw (cO' w) N (0, nI s)).1 1000 := (trR_rg hW.O6.2 N (0, nI s) 0 ⟨0, by omega, rfl⟩ (by omega)).le (by omega)
    have hb0 : 0 ≤ b := by
      obtain ⟨j, hj, rfl⟩ := hb
      exact nI_pos' (by omega)
    obtain ⟨S', e2, x2, y2⟩ := ih (s + 1) f (if m = 0 then (if (trR w lw (cO' w) N (0, nI s)).1 < b then (trR w lw (cO' w) N (0, nI s)).1 else b) else (if b < (trR w lw (cO' w) N (0, nI s)).1 then (trR w lw (cO' w) N (0, nI s)).1 else b)) S1 (by omega) (by omega) (by split <;> split <;> first | exact hb | exact ht) (xt1.trans x1) y1
    refine ⟨S', ?_, x2, y2⟩
    unfold L_X11_span_44 B_X11_span_44 J_X11_span_98
    rw [if_neg (show ¬ (6 : Int32) < nI s from nI_nlt (a := 6) (by omega) (by decide)), a218_1, sI_lit, s_219 (by decide), d218, e1, kI_v, if_pos hb0]
    by_cases z : m = 0
    · rw [if_pos z, nI_1]
      rw [if_pos z] at e2
      rw [e2]
      simp only [spL, if_pos z]
    · rw [if_neg z, nI_1]
      rw [if_neg z] at e2
      rw [e2]
      simp only [spL, if_neg z]
end SP
theorem pc40 (Θ : GP) : PC_40 Θ (gb Θ) (gb Θ + 218) (gb Θ + 234) (Inv Θ) := by
  intro v xs i hI
  obtain ⟨S, ω, rfl, hC, hI⟩ := hI
  have hR : isR 202 := Or.inl rfl
  obtain ⟨lw, hL⟩ := hC.lw
  show stW Θ _ _ (fun ω n => W_span Θ (gb Θ) (xs (i + 1)) (bI (xs (i + 2))) (gb Θ + 234) ω n) (fun ω n => F_X11_span Θ (gb Θ + 218) (xs (i + 1)) (bI (xs (i + 2))) ω n) _ _
  generalize xs (i + 1) = v
  generalize bI (xs (i + 2)) = b
  by_cases hv : ∃ k, k < 21 ∧ v = nI k
  · obtain ⟨N, hN, rfl⟩ := hv
    refine fin_W fun n _ => ?_
    obtain ⟨S1, e1, x1⟩ := x_trials (n := n) hC hL (show N ≤ 20 by omega) (nI 1) (XL.rf 202 S)
    obtain ⟨S2, e2, x2⟩ := x_span_L (n := n) hC hL (show N ≤ 20 by omega) (m := b) 5 2 5000 (trR (zA S 219) lw (cO' (zA S 219)) N (0, nI 1)).1 S1 (by omega) (by omega) x1
    have hx19 : zA S2 219 = zA S 219 := x2.2.1 219 (by omega)
    let ans := spL (fun s => (trR (zA S 219) lw (cO' (zA S 219)) N (0, nI s)).1) b 5 2 (trR (zA S 219) lw (cO' (zA S 219)) N (0, nI 1)).1
    refine ⟨0, uL S2 234 ans.toInt64, ω, ?_, fun n2 => ?_⟩
    · show W_span Θ (gb Θ) (nI N) b (gb Θ + 234) (laz Θ S ω) n = _
      unfold W_span F_X10_span
      rw [c10w, c10, x_needTrials_y hN, kV_v, c10]
      rw [show F_X10_screamsOfTrials Θ (gb Θ) (nI N) 1 (laz Θ S ω) n = _ from e1, kI_v]
      exact (congrArg (fun r => wrJ Θ (gb Θ + 234) "java/lang/IllegalArgumentException" r) e2).trans wrJ_v
    · let T := uF (uL S2 234 ans.toInt64) 218 0 0
      have hT23 : zF T 218 23 = 0 := (x2.1 218 23 (by omega)).trans hI.2.2.1
      have hT24 : zF T 218 24 = 0 := (x2.1 218 24 (by omega)).trans hI.2.2.2
      have hT9 : zA T 219 = zA S 219 := hx19
      have hw1 : zA (uA T 219 (upd (zA T 219) 8 1)) 219 = upd (zA S 219) 8 (nI 1) := by rw [zA_eq, hT9]; rfl
      obtain ⟨S3, e3, x3, y3⟩ := m_screamsBy (Θ := Θ) (ω := ω) (n := n2) (S := uA T 219 (upd (zA T 219) 8 1)) hC.1.1 hL.2 hT23 hT24 (show N ≤ 20 by omega) hw1
      have x3' : XT T S3 := ((XT.rf T).nA (by omega)).trans x3
      obtain ⟨S4, e4, x4, y4⟩ := m_span_L (Θ := Θ) (ω := ω) (n := n2) (S0 := T) hC.1.1 hL.2 hT23 hT24 (show N ≤ 20 by omega) (m := b) (sd := zA S 219 8) 5 2 4999 (trR (zA S 219) lw (cO' (zA S 219)) N (0, nI 1)).1 S3 (by omega) (by omega) ((trR_rg hC.1.1.O6.2 N (0, nI 1) 0 ⟨0, by omega, rfl⟩ (by omega)).le (by omega)) x3' y3
      rw [w8_self] at y4
      have xp := x4.xp (y4.trans hT9.symm)
      refine ⟨ans, S4, n2, ?_, (xp.1 218 0 (by omega)).trans rfl, fun _ => (xp.2.2.2 234).trans rfl, (((hC.kp (x2.kp hR)).nL).thr).kp xp.kp, xp.idle ((x2.idle hR hI).nL.thr)⟩
      show F_X11_span Θ (gb Θ + 218) (nI N) b (laz Θ (uL S2 234 ans.toInt64) ω) n2 = _
      unfold F_X11_span J_X11_span_21
      rw [b218_0, in20_y hN, kI_v, if_neg (by decide), d218, m_throwsIf0, kI_v, if_pos rfl, a218_1, lI_lit, l_219 (by decide)]
      rw [show zA (uF (uL S2 234 ans.toInt64) 218 0 0) 219 8 = zA S 219 8 from congrFun hx19 8]
      show B_X11_span_44 Θ (L_X11_span_44 Θ 4999) (gb Θ + 218) (nI N) b (zA S 219 8) (-1) 1 (laz Θ T ω) n2 = _
      unfold B_X11_span_44 J_X11_span_98
      rw [if_neg (by decide), a218_1, sI_lit, s_219 (by decide), d218]
      refine (congrArg (fun r => kI r _) e3).trans ?_
      rw [kI_v, if_neg (by decide)]
      exact e4
  · refine fin_W fun n _ => ⟨1, S, ω, ?_, fun n2 => ⟨0, uF (uF S 218 0 0) 218 0 1, n2, ?_, rfl, fun h => absurd h (by decide), hC.thr.thr, hI.thr.thr⟩⟩
    · show W_span Θ (gb Θ) v b (gb Θ + 234) (laz Θ S ω) n = _
      unfold W_span F_X10_span
      rw [c10w, c10, x_needTrials_n hv, kV_x, wrJ_x]
    · show F_X11_span Θ (gb Θ + 218) v b (laz Θ S ω) n2 = _
      unfold F_X11_span J_X11_span_21
      rw [b218_0, in_n (N := 21) (by decide) (by decide) hv, kI_v, if_pos rfl, d218, m_throwsIf1, kI_v, if_neg (by decide)]
