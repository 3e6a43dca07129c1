/-! promises 19, 20: straight rides -/
theorem rst_nd {c : RPar} (h : c.2.2.2.2.2.2.2.1 = false) (sd : Int32) : ∀ k, rst c (-1, 0, sd) k = ((rst c (-1, 0, 0) k).1, (rst c (-1, 0, 0) k).2.1, sd) := by
  intro k
  induction k with
  | zero => rfl
  | succ k ih =>
    show rst1 c k (rst c (-1, 0, sd) k) = ((rst1 c k (rst c (-1, 0, 0) k)).1, (rst1 c k (rst c (-1, 0, 0) k)).2.1, sd)
    rw [ih]
    have e : ∀ (t a b : Int32), rte c k t a = rte c k t b := by
      intro t a b
      unfold rte
      simp only [h, Bool.false_eq_true, if_false]
    have e2 : rsd c k sd = sd := by
      unfold rsd
      rw [h]
      split <;> rfl
    unfold rst1
    by_cases z : (rst c (-1, 0, 0) k).1 = -1
    · rw [if_pos z, if_pos z, e _ sd (rst c (-1, 0, 0) k).2.2, e2]
    · rw [if_neg z, if_neg z]
theorem bhS_nd {c : RPar} (h : c.2.2.2.2.2.2.2.1 = false) (sd : Int32) (s : Nat) : bhS c (-1, 0, sd) s = bhS c (-1, 0, 0) s := by
  unfold bhS
  rw [rst_nd h sd s, rst_nd h sd (s + 1)]
theorem fgS_nd {c : RPar} (h : c.2.2.2.2.2.2.2.1 = false) (sd : Int32) (s : Nat) : fgS c (-1, 0, sd) s = fgS c (-1, 0, 0) s := by
  unfold fgS
  rw [rst_nd h sd s]
theorem cmB_nd {c : RPar} (h : c.2.2.2.2.2.2.2.1 = false) (sd : Int32) : ∀ k, cmB c (-1, 0, sd) k = cmB c (-1, 0, 0) k := by
  intro k
  induction k with
  | zero => rfl
  | succ k ih =>
    unfold cmB
    rw [ih, rst_nd h sd k]
theorem woS_nd {c : RPar} (h : c.2.2.2.2.2.2.2.1 = false) (sd : Int32) {f : Nat → Int32} {k : Nat} (w : woS c (-1, 0, sd) f k) : woS c (-1, 0, 0) f k := by
  intro j hj a b
  have := w j hj (by rw [rst_nd h sd j]; exact a) b
  rw [rst_nd h sd j] at this
  exact this
/-- S' is as S but for what the reference writes in a ride of one -/
def XP (S S' : PZ) : Prop := (∀ k j, ¬ (k = 218 ∧ ((18 ≤ j ∧ j ≤ 22) ∨ (28 ≤ j ∧ j ≤ 30))) → zF S' k j = zF S k j) ∧ (∀ k, k ≠ 226 → k ≠ 227 → k ≠ 228 → k ≠ 229 → zA S' k = zA S k) ∧ (∀ k j, zR S' k j = zR S k j) ∧ (∀ k, zL S' k = zL S k)
theorem XP.rf (S : PZ) : XP S S := ⟨fun _ _ _ => rfl, fun _ _ _ _ _ => rfl, fun _ _ => rfl, fun _ => rfl⟩
theorem XP.trans {S S' S'' : PZ} (h : XP S S') (g : XP S' S'') : XP S S'' := ⟨fun k j q => (g.1 k j q).trans (h.1 k j q), fun k a b c d => (g.2.1 k a b c d).trans (h.2.1 k a b c d), fun k j => (g.2.2.1 k j).trans (h.2.2.1 k j), fun k => (g.2.2.2 k).trans (h.2.2.2 k)⟩
theorem XP.nF {S S' : PZ} (h : XP S S') {j : Nat} {v : Int32} (q : (18 ≤ j ∧ j ≤ 22) ∨ (28 ≤ j ∧ j ≤ 30)) : XP S (uF S' 218 j v) := by
  refine ⟨fun k i z => ?_, h.2.1, h.2.2.1, h.2.2.2⟩
  rw [zF_ne _ _ (by rintro ⟨rfl, rfl⟩; exact z ⟨rfl, q⟩), h.1 k i z]
theorem XP.nA {S S' : PZ} (h : XP S S') {k : Nat} {f : Nat → Int32} (q : k = 226 ∨ k = 227 ∨ k = 228 ∨ k = 229) : XP S (uA S' k f) := by
  refine ⟨h.1, fun a x y z u => ?_, h.2.2.1, h.2.2.2⟩
  rw [zA_ne _ _ (by omega), h.2.1 a x y z u]
theorem XQ.xp {S S' : PZ} (h : XQ S S') (hw : zA S' 219 = zA S 219) : XP S S' := by
  refine ⟨fun k j q => h.1 k j (by omega), fun k a b c d => ?_, h.2.2.1, h.2.2.2⟩
  by_cases e : k = 219
  · subst e; exact hw
  · exact h.2.1 k e a b c d
theorem XP.kp {S S' : PZ} (h : XP S S') : Kp S S' := by
  obtain ⟨h1, h2, h3, h4⟩ := h
  refine ⟨fun k j q => h1 k j ?_, fun k q => ?_, fun k j _ _ => h3 k j⟩
  · rintro ⟨rfl, e⟩; simp [kpF] at q; omega
  · refine h2 k ?_ ?_ ?_ ?_ <;> (intro e; subst e; simp [kpA] at q)
theorem XP.idle {Θ : GP} {S S' : PZ} (h : XP S S') (hI : Idle Θ S) : Idle Θ S' := by
  obtain ⟨h1, h2, h3, h4⟩ := h
  obtain ⟨i1, i2, i3, i4⟩ := hI
  exact ⟨by rw [h3, h3]; exact i1, by rw [h2 216 (by omega) (by omega) (by omega) (by omega), h2 217 (by omega) (by omega) (by omega) (by omega), h2 200 (by omega) (by omega) (by omega) (by omega)]; exact i2, by rw [h1 218 23 (by omega)]; exact i3, by rw [h1 218 24 (by omega)]; exact i4⟩
/-- the reference's straight ride of one -/
theorem m_ridesStraight {Θ : GP} {S : PZ} {ω : OW} {n a : Nat} {w : Nat → Int32} {lw : LW} (hw : zA S 219 = w) (hW : WB w) (hM : LawM w lw) (ha : a < 6) (h23 : zF S 218 23 = 0) (h24 : zF S 218 24 = 0) : ∃ S', F_X11_ridesStraight Θ (gb Θ + 218) (nI a) (laz Θ S ω) n = some (.inl (some (.int (rst (cPar w lw a false false) (-1, 0, 0) 10).1), laz Θ S' ω, n)) ∧ XP S S' ∧ zF S' 218 19 = w (4 * a + 42) ∧ zF S' 218 30 = (rst (cPar w lw a false false) (-1, 0, 0) 10).2.1 ∧ (∀ j, j < 10 → zA S' 227 j = bhS (cPar w lw a false false) (-1, 0, 0) j ∧ zA S' 228 j = fgS (cPar w lw a false false) (-1, 0, 0) j) ∧ zF S' 218 29 = cmB (cPar w lw a false false) (-1, 0, 0) 10 ∧ woS (cPar w lw a false false) (-1, 0, 0) (zA S' 229) 10 := by
  subst hw
  have hP8 := hW.P8
  have hmx : MX (uF (uF (uF S 218 18 (zA S 219 (4 * a + 41))) 218 19 (zA S 219 (4 * a + 42))) 218 20 (zA S 219 (4 * a + 43))) (cPar (zA S 219) lw a false false) := by
    refine ⟨cPar_ok hW hM ha false false, rfl, rfl, rfl, fun s hs => ?_, fun p hp => ?_⟩
    · show pin (zA S 219) (nI s) = tkM (zA S 219) (zF S 218 23) s
      rw [h23, tkM_0 hP8.2]
    · show hasS (zF S 218 24) (nI p) = 1 ↔ false = true
      rw [h24, hasS_0 p hp]
      exact ⟨fun y => absurd y (by decide), fun y => by cases y⟩
  obtain ⟨S', e, k⟩ := m_rides (Θ := Θ) (ω := ω) (n := n) hmx rfl
  obtain ⟨k1, k2, k3, k4, k5, k6, k7⟩ := k
  have hd : (cPar (zA S 219) lw a false false).2.2.2.2.2.2.2.1 = false := rfl
  have hx : zA S' 219 = zA S 219 := by
    rw [k4, rst_sd hd]
    exact w8_self _
  have xp0 : XP S (uF (uF (uF S 218 18 (zA S 219 (4 * a + 41))) 218 19 (zA S 219 (4 * a + 42))) 218 20 (zA S 219 (4 * a + 43))) := (((XP.rf S).nF (by omega)).nF (by omega)).nF (by omega)
  refine ⟨S', ?_, xp0.trans (k1.xp hx), ?_, ?_, fun j hj => ?_, ?_, woS_nd hd _ k7⟩
  · unfold F_X11_ridesStraight
    rw [d218, m_looksAt ha, kV_v, d218]
    have e' := e
    rw [show b01 (cPar (zA S 219) lw a false false).2.2.2.2.2.2.2.1 = 0 from rfl, show b01 (cPar (zA S 219) lw a false false).2.2.2.2.2.2.2.2 = 0 from rfl, rst_nd hd] at e'
    rw [e', kI_v]
  · rw [k1.1 218 19 (by omega)]; rfl
  · rw [k3, rst_nd hd]
  · rw [← bhS_nd hd ((cPar (zA S 219) lw a false false).1 8) j, ← fgS_nd hd ((cPar (zA S 219) lw a false false).1 8) j]
    exact k5 j hj
  · rw [k6, cmB_nd hd]
theorem Core.lw {Θ : GP} {S : PZ} {ω : OW} (h : Core Θ S ω) : ∃ lw, LawR Θ ω (zR S 14 17) (zA S 219) lw := h.1.2.2
/-- a question of one: the throwing halves -/
theorem one_n {Θ : GP} {S : PZ} {ω : OW} (hC : Core Θ S ω) (hI : Idle Θ S) {v : Int32} (hv : ¬ ∃ s, s < cO' (zA S 219) ∧ v = nI s) {WX : OW → Nat → Option (Int32 × OW)} {FM : OW → Nat → RO} (hx : ∀ n, WX (laz Θ S ω) n = some (1, laz Θ S ω)) (hm : ∀ n, FM (laz Θ S ω) n = some (.inl (some (.int 0), laz Θ (uF (uF S 218 0 0) 218 0 1) ω, n))) : stW Θ (gb Θ + 218) (gb Θ + 234) WX FM (Inv Θ) (laz Θ S ω) :=
  fin_W fun n _ => ⟨1, S, ω, hx n, fun n2 => ⟨0, uF (uF S 218 0 0) 218 0 1, n2, hm n2, rfl, fun h => absurd h (by decide), hC.thr.thr, hI.thr.thr⟩⟩
theorem pc17 (Θ : GP) : PC_17 Θ (gb Θ) (gb Θ + 218) (gb Θ + 234) (Inv Θ) := by
  intro v xs i hI
  obtain ⟨S, ω, rfl, hC, hI⟩ := hI
  have hP := hC.O
  obtain ⟨lw, hL⟩ := hC.lw
  show stW Θ _ _ (fun ω n => W_straight Θ (gb Θ) (xs (i + 1)) (gb Θ + 234) ω n) (fun ω n => F_X11_straight Θ (gb Θ + 218) (xs (i + 1)) ω n) _ _
  generalize xs (i + 1) = v
  by_cases hv : ∃ s, s < cO' (zA S 219) ∧ v = nI s
  · obtain ⟨a, ha, rfl⟩ := hv
    refine fin_W fun n _ => ?_
    obtain ⟨S1, sd, e1, x1, _, r1, _⟩ := x_rideStraight (n := n) hC ha hL
    rw [rst_nd rfl] at r1
    have hx19 : zA S1 219 = zA S 219 := x1.2.1 219 (by omega)
    refine ⟨0, uL S1 234 (rst (cPar (zA S 219) lw a false false) (-1, 0, 0) 10).1.toInt64, ω, ?_, fun n2 => ?_⟩
    · show W_straight Θ (gb Θ) (nI a) (gb Θ + 234) (laz Θ S ω) n = _
      unfold W_straight F_X10_straight
      rw [c10w, c10, x_needOne_y hC ha, kV_v, c10, e1, kV_v, r10_8, a202_8, r1, wrJ_v]
    · obtain ⟨S2, e2, x2, _⟩ := m_ridesStraight (Θ := Θ) (S := uF (uL S1 234 (rst (cPar (zA S 219) lw a false false) (-1, 0, 0) 10).1.toInt64) 218 0 0) (ω := ω) (n := n2) (w := zA S 219) (lw := lw) (a := a) hx19 hC.1.1 hL.2 (by omega) ((x1.1 218 23 (by omega)).trans hI.2.2.1) ((x1.1 218 24 (by omega)).trans hI.2.2.2)
      refine ⟨_, S2, n2, ?_, (x2.1 218 0 (by omega)).trans rfl, fun _ => (x2.2.2.2 234).trans rfl, (((hC.kp (x1.kp (Or.inl rfl))).nL).thr).kp x2.kp, x2.idle ((x1.idle (Or.inl rfl) hI).nL.thr)⟩
      show F_X11_straight Θ (gb Θ + 218) (nI a) (laz Θ _ ω) n2 = _
      unfold F_X11_straight J_X11_straight_27
      rw [b218_0, d218, m_noOne_y (P := cO' (zA S 219)) (by rw [← hP.1]; exact congrFun hx19 1) hP.2.1 ha, kI_v, d218, m_throwsIf0, kI_v, if_pos rfl, d218, e2, kI_v]
  · refine one_n hC hI hv (fun n => ?_) (fun n => ?_)
    · show W_straight Θ (gb Θ) v (gb Θ + 234) (laz Θ S ω) n = _
      unfold W_straight F_X10_straight
      rw [c10w, c10, x_needOne_n hC hv, kV_x, wrJ_x]
    · show F_X11_straight Θ (gb Θ + 218) v (laz Θ S ω) n = _
      unfold F_X11_straight J_X11_straight_27
      rw [b218_0, d218, m_noOne_n (by exact hP.1) hP.2.1 hv, kI_v, d218, m_throwsIf1, kI_v, if_neg (by decide)]
theorem pc18 (Θ : GP) : PC_18 Θ (gb Θ) (gb Θ + 218) (gb Θ + 234) (Inv Θ) := by
  intro v xs i hI
  obtain ⟨S, ω, rfl, hC, hI⟩ := hI
  have hP := hC.O
  obtain ⟨lw, hL⟩ := hC.lw
  show stW Θ _ _ (fun ω n => W_tense Θ (gb Θ) (xs (i + 1)) (xs (i + 2)) (gb Θ + 234) ω n) (fun ω n => F_X11_tense Θ (gb Θ + 218) (xs (i + 1)) (xs (i + 2)) ω n) _ _
  generalize xs (i + 1) = v
  generalize xs (i + 2) = u
  by_cases hv : ∃ s, s < cO' (zA S 219) ∧ v = nI s
  · obtain ⟨a, ha, rfl⟩ := hv
    by_cases hu : ∃ s, s < 10 ∧ u = nI s
    · obtain ⟨s, hs, rfl⟩ := hu
      refine fin_W fun n _ => ?_
      obtain ⟨S1, sd, e1, x1, _, _, _, r1, _⟩ := x_rideStraight (n := n) hC ha hL
      have r1 := r1 s hs
      rw [bhS_nd rfl] at r1
      have hx19 : zA S1 219 = zA S 219 := x1.2.1 219 (by omega)
      refine ⟨0, uL S1 234 (bhS (cPar (zA S 219) lw a false false) (-1, 0, 0) s).toInt64, ω, ?_, fun n2 => ?_⟩
      · show W_tense Θ (gb Θ) (nI a) (nI s) (gb Θ + 234) (laz Θ S ω) n = _
        unfold W_tense F_X10_tense
        rw [c10w, c10, x_needOne_y hC ha, kV_v, c10, x_needSlot_y hs, kV_v, c10, e1, kV_v, r10_8, a202_10, l_205 hs, r1, wrJ_v]
      · obtain ⟨S2, e2, x2, _, _, r2, _⟩ := m_ridesStraight (Θ := Θ) (S := uF (uL S1 234 (bhS (cPar (zA S 219) lw a false false) (-1, 0, 0) s).toInt64) 218 0 0) (ω := ω) (n := n2) (w := zA S 219) (lw := lw) (a := a) hx19 hC.1.1 hL.2 (by omega) ((x1.1 218 23 (by omega)).trans hI.2.2.1) ((x1.1 218 24 (by omega)).trans hI.2.2.2)
        refine ⟨_, S2, n2, ?_, (x2.1 218 0 (by omega)).trans rfl, fun _ => (x2.2.2.2 234).trans rfl, (((hC.kp (x1.kp (Or.inl rfl))).nL).thr).kp x2.kp, x2.idle ((x1.idle (Or.inl rfl) hI).nL.thr)⟩
        show F_X11_tense Θ (gb Θ + 218) (nI a) (nI s) (laz Θ _ ω) n2 = _
        unfold F_X11_tense J_X11_tense_26
        rw [b218_0, d218, m_noOne_y (P := cO' (zA S 219)) (by rw [← hP.1]; exact congrFun hx19 1) hP.2.1 ha, kI_v, if_pos rfl, m_noSlot_y hs, kI_v, if_pos rfl, d218, m_throwsIf0, kI_v, if_pos rfl, d218, e2, kI_v, a218_25, l_227 hs, (r2 s hs).1]
    · refine fin_W fun n _ => ⟨1, S, ω, ?_, fun n2 => ⟨0, uF (uF S 218 0 0) 218 0 1, n2, ?_, rfl, fun h => absurd h (by decide), hC.thr.thr, hI.thr.thr⟩⟩
      · show W_tense Θ (gb Θ) (nI a) u (gb Θ + 234) (laz Θ S ω) n = _
        unfold W_tense F_X10_tense
        rw [c10w, c10, x_needOne_y hC ha, kV_v, c10, x_needSlot_n hu, kV_x, wrJ_x]
      · show F_X11_tense Θ (gb Θ + 218) (nI a) u (laz Θ S ω) n2 = _
        unfold F_X11_tense J_X11_tense_21 J_X11_tense_26
        rw [b218_0, d218, m_noOne_y (by exact hP.1) hP.2.1 ha, kI_v, if_pos rfl, m_noSlot_n hu, kI_v, if_neg (by decide), d218, m_throwsIf1, kI_v, if_neg (by decide)]
  · refine one_n hC hI hv (fun n => ?_) (fun n => ?_)
    · show W_tense Θ (gb Θ) v u (gb Θ + 234) (laz Θ S ω) n = _
      unfold W_tense F_X10_tense
      rw [c10w, c10, x_needOne_n hC hv, kV_x, wrJ_x]
    · show F_X11_tense Θ (gb Θ + 218) v u (laz Θ S ω) n = _
      unfold F_X11_tense J_X11_tense_21 J_X11_tense_26
      rw [b218_0, d218, m_noOne_n (by exact hP.1) hP.2.1 hv, kI_v, if_neg (by decide), d218, m_throwsIf1, kI_v, if_neg (by decide)]
