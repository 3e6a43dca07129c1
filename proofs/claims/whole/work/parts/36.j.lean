/-- S' is as S but for what the reference writes in rides by draws -/
def XT (S S' : PZ) : Prop := (∀ k j, ¬ (k = 218 ∧ ((18 ≤ j ∧ j ≤ 22) ∨ (28 ≤ j ∧ j ≤ 30))) → zF S' k j = zF S k j) ∧ (∀ k, k ≠ 219 → k ≠ 226 → k ≠ 227 → k ≠ 228 → k ≠ 229 → zA S' k = zA S k) ∧ (∀ k j, zR S' k j = zR S k j) ∧ (∀ k, zL S' k = zL S k)
theorem XT.rf (S : PZ) : XT S S := ⟨fun _ _ _ => rfl, fun _ _ _ _ _ _ => rfl, fun _ _ => rfl, fun _ => rfl⟩
theorem XT.trans {S S' S'' : PZ} (h : XT S S') (g : XT S' S'') : XT S S'' := ⟨fun k j q => (g.1 k j q).trans (h.1 k j q), fun k a b c d e => (g.2.1 k a b c d e).trans (h.2.1 k a b c d e), fun k j => (g.2.2.1 k j).trans (h.2.2.1 k j), fun k => (g.2.2.2 k).trans (h.2.2.2 k)⟩
theorem XT.nF {S S' : PZ} (h : XT S S') {j : Nat} {v : Int32} (q : (18 ≤ j ∧ j ≤ 22) ∨ (28 ≤ j ∧ j ≤ 30)) : XT S (uF S' 218 j v) := by
  refine ⟨fun k i z => ?_, h.2.1, h.2.2.1, h.2.2.2⟩
  rw [zF_ne _ _ (by rintro ⟨rfl, rfl⟩; exact z ⟨rfl, q⟩), h.1 k i z]
theorem XT.nA {S S' : PZ} (h : XT S S') {k : Nat} {f : Nat → Int32} (q : k = 219 ∨ k = 226 ∨ k = 227 ∨ k = 228 ∨ k = 229) : XT S (uA S' k f) := by
  refine ⟨h.1, fun a x y z u v => ?_, h.2.2.1, h.2.2.2⟩
  rw [zA_ne _ _ (by omega), h.2.1 a x y z u v]
theorem XQ.xt {S S' : PZ} (h : XQ S S') : XT S S' := ⟨fun k j q => h.1 k j (by omega), h.2.1, h.2.2.1, h.2.2.2⟩
theorem XT.xp {S S' : PZ} (h : XT S S') (hw : zA S' 219 = zA S 219) : XP S S' := by
  refine ⟨h.1, fun k a b c d => ?_, h.2.2.1, h.2.2.2⟩
  by_cases e : k = 219
  · subst e; exact hw
  · exact h.2.1 k e a b c d
section MT
variable {Θ : GP} {S S0 : PZ} {ω : OW} {n : Nat} {c : RPar}
/-- a ride that begins with any seed -/
theorem m_ridesD (h : MX S c) {sd : Int32} (hw : zA S 219 = upd c.1 8 sd) : ∃ S', F_X11_rides Θ (gb Θ + 218) (b01 c.2.2.2.2.2.2.2.1) (b01 c.2.2.2.2.2.2.2.2) (laz Θ S ω) n = some (.inl (some (.int (rst c (-1, 0, sd) 10).1), laz Θ S' ω, n)) ∧ MK S S' c (-1, 0, sd) 10 := by
  unfold F_X11_rides F_X11_begins
  rw [d218, b218_28, b218_29, b218_30, kV_v]
  have xq0 : XQ S (uF (uF (uF S 218 28 (-1)) 218 29 0) 218 30 0) := (((XQ.rf S).nF (by omega)).nF (by omega)).nF (by omega)
  exact m_rides_L (Θ := Θ) (ω := ω) (n := n) h (q := (-1, 0, sd)) rfl 10 0 5000 _ (by omega) (by omega) ⟨xq0, rfl, rfl, hw, fun j hj => by omega, rfl, fun j hj => by omega⟩
/-- looks at one, rides by draws -/
theorem m_lookD {w : Nat → Int32} {lw : LW} {sd : Int32} (hw : zA S 219 = upd w 8 sd) (hW : WB w) (hM : LawM w lw) {a : Nat} (ha : a < 6) (h23 : zF S 218 23 = 0) (h24 : zF S 218 24 = 0) : ∃ S1 S', F_X11_looksAt Θ (gb Θ + 218) (nI a) (laz Θ S ω) n = some (.inl (none, laz Θ S1 ω, n)) ∧ F_X11_rides Θ (gb Θ + 218) 1 0 (laz Θ S1 ω) n = some (.inl (some (.int (rst (cPar w lw a true false) (-1, 0, sd) 10).1), laz Θ S' ω, n)) ∧ XT S S1 ∧ MK S1 S' (cPar w lw a true false) (-1, 0, sd) 10 := by
  have hP8 := hW.P8
  refine ⟨uF (uF (uF S 218 18 (zA S 219 (4 * a + 41))) 218 19 (zA S 219 (4 * a + 42))) 218 20 (zA S 219 (4 * a + 43)), ?_⟩
  have hmx : MX (uF (uF (uF S 218 18 (zA S 219 (4 * a + 41))) 218 19 (zA S 219 (4 * a + 42))) 218 20 (zA S 219 (4 * a + 43))) (cPar w lw a true false) := by
    refine ⟨cPar_ok hW hM ha true false, ?_, ?_, ?_, fun s hs => ?_, fun p hp => ?_⟩
    · show zA S 219 (4 * a + 41) = w (4 * a + 41)
      rw [hw, upd_ne _ _ (by omega)]
    · show zA S 219 (4 * a + 42) = w (4 * a + 42)
      rw [hw, upd_ne _ _ (by omega)]
    · show zA S 219 (4 * a + 43) = w (4 * a + 43)
      rw [hw, upd_ne _ _ (by omega)]
    · show pin w (nI s) = tkM w (zF S 218 23) s
      rw [h23, tkM_0 hP8.2]
    · show hasS (zF S 218 24) (nI p) = 1 ↔ false = true
      rw [h24, hasS_0 p hp]
      exact ⟨fun y => absurd y (by decide), fun y => by cases y⟩
  obtain ⟨S', e, k⟩ := m_ridesD (Θ := Θ) (ω := ω) (n := n) hmx (sd := sd) hw
  exact ⟨S', m_looksAt ha, e, (((XT.rf S).nF (by omega)).nF (by omega)).nF (by omega), k⟩
theorem m_tr_I {w : Nat → Int32} {lw : LW} (hW : WB w) (hM : LawM w lw) (h23 : zF S0 218 23 = 0) (h24 : zF S0 218 24 = 0) (k4 : Nat → Int32 → Int32 → Int32 → OW → Nat → RO) (N l3 : Int32) : ∀ (k a f : Nat) (q : Int32 × Int32) (S : PZ), a + k = cO' w → k < f → XT S0 S → zA S 219 = upd w 8 q.2 → ∃ S', L_X11_screamsBy_12 Θ k4 f (gb Θ + 218) N q.1 l3 (nI a) (laz Θ S ω) n = k4 (gb Θ + 218) N (trA w lw k a q).1 (l3 + 1) (laz Θ S' ω) n ∧ XT S0 S' ∧ zA S' 219 = upd w 8 (trA w lw k a q).2 := by
  have h6 := hW.O6
  intro k
  induction k with
  | zero =>
    intro a f q S h1 h2 xt hw
    obtain ⟨f, rfl⟩ : ∃ g, f = g + 1 := ⟨f - 1, by omega⟩
    refine ⟨S, ?_, xt, hw⟩
    unfold L_X11_screamsBy_12 B_X11_screamsBy_12
    rw [d218, m_oneCount, kI_v, hw, upd_ne _ _ (by decide), h6.1, if_pos (nI_le (by omega) (by omega))]
    rfl
  | succ k ih =>
    intro a f q S h1 h2 xt hw
    obtain ⟨f, rfl⟩ : ∃ g, f = g + 1 := ⟨f - 1, by omega⟩
    have ha : a < 6 := by omega
    have g44 : zA S 219 (4 * a + 44) = w (4 * a + 44) := by rw [hw, upd_ne _ _ (by omega)]
    have g1 : zA S 219 1 = nI (cO' w) := by rw [hw, upd_ne _ _ (by decide)]; exact h6.1
    have pre : ∀ r, L_X11_screamsBy_12 Θ k4 (f + 1) (gb Θ + 218) N q.1 l3 (nI a) (laz Θ S ω) n = r ↔ (if (if w (4 * a + 44) = 0 then (1 : Int32) else 0) = 0 then L_X11_screamsBy_12 Θ k4 f (gb Θ + 218) N q.1 l3 (nI a + 1) (laz Θ S ω) n else kV (F_X11_looksAt Θ (gb Θ + 218) (nI a) (laz Θ S ω) n) (fun ω n => cO ω (gb Θ + 218) 11 (kI (F_X11_rides Θ (gb Θ + 218) 1 0 ω n) (fun x6 ω n => if x6 = (-1) then L_X11_screamsBy_12 Θ k4 f (gb Θ + 218) N (q.1 + 0) l3 (nI a + 1) ω n else L_X11_screamsBy_12 Θ k4 f (gb Θ + 218) N (q.1 + 1) l3 (nI a + 1) ω n)))) = r := by
      intro r
      rw [show L_X11_screamsBy_12 Θ k4 (f + 1) (gb Θ + 218) N q.1 l3 (nI a) (laz Θ S ω) n = B_X11_screamsBy_12 Θ k4 (L_X11_screamsBy_12 Θ k4 f) (gb Θ + 218) N q.1 l3 (nI a) (laz Θ S ω) n from rfl]
      unfold B_X11_screamsBy_12 J_X11_screamsBy_55 J_X11_screamsBy_57
      rw [d218, m_oneCount, kI_v, g1, if_neg (nI_ge (by omega) (by omega)), d218, m_waits ha, kI_v, g44, d218]
    by_cases z : w (4 * a + 44) = 0
    · obtain ⟨S1, S', e1, e2, x1, m⟩ := m_lookD (Θ := Θ) (ω := ω) (n := n) hw hW hM ha ((xt.1 218 23 (by omega)).trans h23) ((xt.1 218 24 (by omega)).trans h24)
      have et : tr1 w lw a q = (q.1 + (if (rst (cPar w lw a true false) (-1, 0, q.2) 10).1 = -1 then 0 else 1), (rst (cPar w lw a true false) (-1, 0, q.2) 10).2.2) := if_pos z
      obtain ⟨S2, e3, y1, y2⟩ := ih (a + 1) f (tr1 w lw a q) S' (by omega) (by omega) ((xt.trans x1).trans m.1.xt) (by rw [et]; dsimp only; exact m.2.2.2.1)
      refine ⟨S2, (pre _).mpr ?_, y1, y2⟩
      rw [et] at e3
      rw [if_pos z, if_neg (by decide), e1, kV_v, d218, e2, kI_v]
      rw [show trA w lw (k + 1) a q = trA w lw k (a + 1) (tr1 w lw a q) from rfl, et, ← e3]
      by_cases y : (rst (cPar w lw a true false) (-1, 0, q.2) 10).1 = -1
      · rw [if_pos y, nI_1, if_pos y]
      · rw [if_neg y, nI_1, if_neg y]
    · have et : tr1 w lw a q = q := if_neg z
      obtain ⟨S2, e3, y1, y2⟩ := ih (a + 1) f q S (by omega) (by omega) xt hw
      rw [show trA w lw (k + 1) a q = trA w lw k (a + 1) (tr1 w lw a q) from rfl, et]
      refine ⟨S2, (pre _).mpr ?_, y1, y2⟩
      rw [if_neg z, if_pos rfl, nI_1, e3]
theorem m_tr_O {w : Nat → Int32} {lw : LW} (hW : WB w) (hM : LawM w lw) (h23 : zF S0 218 23 = 0) (h24 : zF S0 218 24 = 0) {N : Nat} (hN : N ≤ 20) : ∀ (k r f : Nat) (q : Int32 × Int32) (S : PZ), r + k = N → k < f → XT S0 S → zA S 219 = upd w 8 q.2 → ∃ S', L_X11_screamsBy_4 Θ f (gb Θ + 218) (nI N) q.1 (nI r) (laz Θ S ω) n = some (.inl (some (.int (trR w lw (cO' w) k q).1), laz Θ S' ω, n)) ∧ XT S0 S' ∧ zA S' 219 = upd w 8 (trR w lw (cO' w) k q).2 := by
  have h6 := hW.O6
  intro k
  induction k with
  | zero =>
    intro r f q S h1 h2 xt hw
    obtain ⟨f, rfl⟩ : ∃ g, f = g + 1 := ⟨f - 1, by omega⟩
    refine ⟨S, ?_, xt, hw⟩
    unfold L_X11_screamsBy_4 B_X11_screamsBy_4
    rw [if_pos (nI_le (by omega) (by omega))]
    rfl
  | succ k ih =>
    intro r f q S h1 h2 xt hw
    obtain ⟨f, rfl⟩ : ∃ g, f = g + 1 := ⟨f - 1, by omega⟩
    obtain ⟨S1, e1, y1, y2⟩ := m_tr_I (Θ := Θ) (ω := ω) (n := n) hW hM h23 h24 (L_X11_screamsBy_4 Θ f) (nI N) (nI r) (cO' w) 0 5000 q S (by omega) (by omega) xt hw
    obtain ⟨S', e2, z1, z2⟩ := ih (r + 1) f (trA w lw (cO' w) 0 q) S1 (by omega) (by omega) y1 y2
    refine ⟨S', ?_, z1, z2⟩
    unfold L_X11_screamsBy_4 B_X11_screamsBy_4
    rw [if_neg (nI_ge (by omega) (by omega))]
    refine e1.trans ?_
    rw [nI_1, e2]
    rfl
end MT
/-- screams are no fewer than none -/
theorem trA_rg {w : Nat → Int32} {lw : LW} : ∀ (k a : Nat) (q : Int32 × Int32) (M : Nat), Rg q.1 M → M + k < 2 ^ 31 → Rg (trA w lw k a q).1 (M + k) := by
  intro k
  induction k with
  | zero => intro a q M h _; exact h
  | succ k ih =>
    intro a q M h hM
    have h1 : Rg (tr1 w lw a q).1 (M + 1) := by
      obtain ⟨j, hj, e⟩ := h
      unfold tr1
      split
      · dsimp only
        split
        · exact ⟨j, by omega, by rw [e, Int32.add_zero]⟩
        · exact ⟨j + 1, by omega, by rw [e, nI_1]⟩
      · exact ⟨j, by omega, e⟩
    exact (ih (a + 1) _ (M + 1) h1 (by omega)).le (by omega)
theorem trR_rg {w : Nat → Int32} {lw : LW} {O : Nat} (hO : O ≤ 6) : ∀ (k : Nat) (q : Int32 × Int32) (M : Nat), Rg q.1 M → M + 6 * k < 2 ^ 31 → Rg (trR w lw O k q).1 (M + 6 * k) := by
  intro k
  induction k with
  | zero => intro q M h _; exact h
  | succ k ih =>
    intro q M h hM
    have h1 : Rg (trA w lw O 0 q).1 (M + 6) := (trA_rg O 0 q M h (by omega)).le (by omega)
    exact (ih _ (M + 6) h1 (by omega)).le (by omega)
theorem x_needTrials_y {Θ : GP} {N n : Nat} (hN : N < 21) {z : OW} : F_X10_needTrials Θ (gb Θ) (nI N) z n = some (.inl (none, z, n)) := by
  unfold F_X10_needTrials
  rw [if_neg (nI_pos (by omega)), if_pos (show nI N ≤ 20 from nI_le (b := 20) (by omega) (by decide))]
theorem x_needTrials_n {Θ : GP} {n : Nat} {v : Int32} (h : ¬ ∃ k, k < 21 ∧ v = nI k) {z : OW} : F_X10_needTrials Θ (gb Θ) v z n = some (.inr ("java/lang/IllegalArgumentException", z)) := by
  unfold F_X10_needTrials J_X10_needTrials_10
  rcases q_out (by decide) h with q | ⟨q1, q2⟩
  · rw [if_pos q]
  · rw [if_neg q1, if_neg]
    rw [Int32.le_iff_toInt_le, nI_toInt (by omega)] at q2
    rw [Int32.le_iff_toInt_le, show (20 : Int32).toInt = 20 by decide]
    omega
theorem in20_y {n : Nat} {Θ : GP} {k : Nat} (hk : k < 21) (ω : OW) : F_X11_in Θ (nI k) 0 20 ω n = some (.inl (some (.int 1), ω, n)) := by
  rw [m_in1]
  rintro (h | h)
  · exact nI_pos (by omega) h
  · exact nI_nlt (a := 20) (b := k) (by omega) (by omega) h
theorem pc39 (Θ : GP) : PC_39 Θ (gb Θ) (gb Θ + 218) (gb Θ + 234) (Inv Θ) := by
  intro v xs i hI
  obtain ⟨S, ω, rfl, hC, hI⟩ := hI
  have hR : isR 202 := Or.inl rfl
  obtain ⟨lw, hL⟩ := hC.lw
  show stW Θ _ _ (fun ω n => W_trial Θ (gb Θ) (xs (i + 1)) (gb Θ + 234) ω n) (fun ω n => F_X11_trial Θ (gb Θ + 218) (xs (i + 1)) ω n) _ _
  generalize xs (i + 1) = v
  by_cases hv : ∃ k, k < 21 ∧ v = nI k
  · obtain ⟨N, hN, rfl⟩ := hv
    refine fin_W fun n _ => ?_
    obtain ⟨S1, e1, x1⟩ := x_trials (n := n) hC hL (show N ≤ 20 by omega) (zA S 219 8) (XL.rf 202 S)
    have hx19 : zA S1 219 = zA S 219 := x1.2.1 219 (by omega)
    refine ⟨0, uL S1 234 (trR (zA S 219) lw (cO' (zA S 219)) N (0, zA S 219 8)).1.toInt64, ω, ?_, fun n2 => ?_⟩
    · show W_trial Θ (gb Θ) (nI N) (gb Θ + 234) (laz Θ S ω) n = _
      unfold W_trial F_X10_trial
      rw [c10w, c10, x_needTrials_y hN, kV_v, r10_0, a14_6, hC.1.2.1.1.2.2.2.2.2.2, c10, e1, kI_v, wrJ_v]
    · have hw0 : zA (uF (uL S1 234 (trR (zA S 219) lw (cO' (zA S 219)) N (0, zA S 219 8)).1.toInt64) 218 0 0) 219 = upd (zA S 219) 8 (zA S 219 8) := by rw [w8_self]; exact hx19
      obtain ⟨S2, e2, x2, w2⟩ := m_tr_O (Θ := Θ) (S0 := uF (uL S1 234 (trR (zA S 219) lw (cO' (zA S 219)) N (0, zA S 219 8)).1.toInt64) 218 0 0) (ω := ω) (n := n2) hC.1.1 hL.2 ((x1.1 218 23 (by omega)).trans hI.2.2.1) ((x1.1 218 24 (by omega)).trans hI.2.2.2) (show N ≤ 20 by omega) N 0 5000 (0, zA S 219 8) _ (by omega) (by omega) (XT.rf _) hw0
      have e8 : zA (uF (uL S1 234 (trR (zA S 219) lw (cO' (zA S 219)) N (0, zA S 219 8)).1.toInt64) 218 0 0) 219 8 = zA S 219 8 := congrFun hx19 8
      have w3 : upd (zA S2 219) 8 (zA S 219 8) = zA S 219 := by rw [w2, w8_w8, w8_self]
      have xp := (x2.nA (k := 219) (f := zA S 219) (by omega)).xp (by rw [zA_eq]; exact hx19.symm)
      refine ⟨_, uA S2 219 (zA S 219), n2, ?_, (xp.1 218 0 (by omega)).trans rfl, fun _ => (xp.2.2.2 234).trans rfl, (((hC.kp (x1.kp hR)).nL).thr).kp xp.kp, xp.idle ((x1.idle hR hI).nL.thr)⟩
      show F_X11_trial Θ (gb Θ + 218) (nI N) (laz Θ _ ω) n2 = _
      unfold F_X11_trial J_X11_trial_21 F_X11_screamsBy
      rw [b218_0, in20_y hN, kI_v, if_neg (by decide), d218, m_throwsIf0, kI_v, if_pos rfl, a218_1, lI_lit, l_219 (by decide), d218]
      refine (congrArg (fun r => kI r _) e2).trans ?_
      rw [kI_v, a218_1, sI_lit, s_219 (by decide)]
      rw [show zA (uF (uL S1 234 (trR (zA S 219) lw (cO' (zA S 219)) N (0, zA S 219 8)).1.toInt64) 218 0 0) 219 8 = zA S 219 8 from e8, w3]
  · refine fin_W fun n _ => ⟨1, S, ω, ?_, fun n2 => ⟨0, uF (uF S 218 0 0) 218 0 1, n2, ?_, rfl, fun h => absurd h (by decide), hC.thr.thr, hI.thr.thr⟩⟩
    · show W_trial Θ (gb Θ) v (gb Θ + 234) (laz Θ S ω) n = _
      unfold W_trial F_X10_trial
      rw [c10w, c10, x_needTrials_n hv, kV_x, wrJ_x]
    · show F_X11_trial Θ (gb Θ + 218) v (laz Θ S ω) n2 = _
      unfold F_X11_trial J_X11_trial_21
      rw [b218_0, in_n (N := 21) (by decide) (by decide) hv, kI_v, if_pos rfl, d218, m_throwsIf1, kI_v, if_neg (by decide)]
