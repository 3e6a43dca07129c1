/-! promises 31, 39, 10 -/
def gco (w : Nat → Int32) (bh : Nat → Int32) (nv : Int32) : Nat → Int32 := fun s => if pin w (nI s) = -1 ∧ bh s ≠ -1 ∧ ¬ bh s < nv / 2 then 1 <<< (nI s &&& 31) else 0
section CO
variable {Θ : GP} {S : PZ} {ω : OW} {n : Nat}
theorem x_corners_L {w bh : Nat → Int32} {nv : Int32} (h8 : cP w ≤ 8) (ht : ∀ s, s < 10 → zA S 203 s = pin w (nI s)) (hb : ∀ s, s < 10 → zA S 205 s = bh s) (hn : zF S 202 4 = nv) : ∀ (k p f : Nat) (a : Int32), p + k = 10 → k < f → L_X10_corners_14 Θ f (gb Θ) a (nI p) (laz Θ S ω) n = some (.inl (some (.int (orL (gco w bh nv) k p a)), laz Θ S ω, n)) := by
  intro k
  induction k with
  | zero =>
    intro p f a h1 h2
    obtain ⟨f, rfl⟩ : ∃ g, f = g + 1 := ⟨f - 1, by omega⟩
    unfold L_X10_corners_14 B_X10_corners_14
    rw [if_pos (show (10 : Int32) ≤ nI p from nI_le (a := 10) (by omega) (by omega))]
    rfl
  | succ k ih =>
    intro p f a h1 h2
    obtain ⟨f, rfl⟩ : ∃ g, f = g + 1 := ⟨f - 1, by omega⟩
    have hi := ih (p + 1) f
    unfold L_X10_corners_14 B_X10_corners_14 J_X10_corners_38 J_X10_corners_84
    have e0 : ∀ x, gco w bh nv p = x → orL (gco w bh nv) (k + 1) p a = orL (gco w bh nv) k (p + 1) (a ||| x) := by
      intro x hx
      show orL (gco w bh nv) k (p + 1) (a ||| gco w bh nv p) = _
      rw [hx]
    rw [if_neg (show ¬ (10 : Int32) ≤ nI p from nI_ge (b := 10) (by omega) (by omega)), r10_8, a202_10, l_205 (by omega), hb p (by omega)]
    by_cases z1 : bh p = -1
    · rw [if_pos z1, if_pos rfl, nI_1, hi _ (by omega) (by omega), e0 0 (if_neg (fun y => y.2.1 z1)), Int32.or_zero]
    · rw [if_neg z1, if_neg (by decide), r10_8, a202_1, l_203 (by omega), ht p (by omega)]
      by_cases z2 : pin w (nI p) = -1
      · rw [if_neg (fun y => (pin_ge h8).mp y z2), r10_8, a202_10, l_205 (by omega), r10_8, a202_4, hb p (by omega), hn]
        by_cases z3 : bh p < nv / 2
        · rw [if_pos z3, nI_1, hi _ (by omega) (by omega), e0 0 (if_neg (fun y => y.2.2 z3)), Int32.or_zero]
        · rw [if_neg z3, nI_1, hi _ (by omega) (by omega), e0 _ (if_pos ⟨z2, z1, z3⟩)]
      · rw [if_pos ((pin_ge h8).mpr z2), nI_1, hi _ (by omega) (by omega), e0 0 (if_neg (fun y => z2 y.1)), Int32.or_zero]
theorem m_corners_L {w bh : Nat → Int32} {nv : Int32} (hw : zA S 219 = w) (hW : WB w) (hb : ∀ s, s < 10 → zA S 227 s = bh s) (hn : zF S 218 19 = nv) : ∀ (k p f : Nat) (a : Int32), p + k = 10 → k < f → L_X11_corners_30 Θ f (gb Θ + 218) a (nI p) (laz Θ S ω) n = some (.inl (some (.int (orL (gco w bh nv) k p a)), laz Θ S ω, n)) := by
  intro k
  induction k with
  | zero =>
    intro p f a h1 h2
    obtain ⟨f, rfl⟩ : ∃ g, f = g + 1 := ⟨f - 1, by omega⟩
    unfold L_X11_corners_30 B_X11_corners_30
    rw [if_pos (show (10 : Int32) ≤ nI p from nI_le (a := 10) (by omega) (by omega))]
    rfl
  | succ k ih =>
    intro p f a h1 h2
    obtain ⟨f, rfl⟩ : ∃ g, f = g + 1 := ⟨f - 1, by omega⟩
    have hi := ih (p + 1) f
    unfold L_X11_corners_30 B_X11_corners_30 J_X11_corners_77 J_X11_corners_78
    have e0 : ∀ x, gco w bh nv p = x → orL (gco w bh nv) (k + 1) p a = orL (gco w bh nv) k (p + 1) (a ||| x) := by
      intro x hx
      show orL (gco w bh nv) k (p + 1) (a ||| gco w bh nv p) = _
      rw [hx]
    rw [if_neg (show ¬ (10 : Int32) ≤ nI p from nI_ge (b := 10) (by omega) (by omega)), d218, m_propIn' hw hW, kI_v]
    by_cases z2 : pin w (nI p) = -1
    · rw [if_pos z2, a218_25, l_227 (by omega), hb p (by omega)]
      by_cases z1 : bh p = -1
      · rw [if_pos z1, nI_1, hi _ (by omega) (by omega), e0 0 (if_neg (fun y => y.2.1 z1))]
      · rw [if_neg z1, a218_25, l_227 (by omega), a218_19, hb p (by omega), hn]
        by_cases z3 : bh p < nv / 2
        · rw [if_pos z3, nI_1, hi _ (by omega) (by omega), e0 0 (if_neg (fun y => y.2.2 z3))]
        · rw [if_neg z3, nI_1, hi _ (by omega) (by omega), e0 _ (if_pos ⟨z2, z1, z3⟩)]
    · rw [if_neg z2, nI_1, hi _ (by omega) (by omega), e0 0 (if_neg (fun y => z2 y.1))]
/-- share: all frights together, then the part -/
def shS (fg : Nat → Int32) (sl all : Int32) : Int32 := if all = 0 ∨ sl = -1 then 0 else 100 * fg sl.toNatClampNeg / all
theorem x_share_L {w fg : Nat → Int32} {p : Nat} (hp : p < 8) (hs : w (4 * p + 12) = -1 ∨ Rg (w (4 * p + 12)) 9) (h18 : zA S 18 p = w (4 * p + 12)) (hf : ∀ s, s < 10 → zA S 206 s = fg s) : ∀ (k j f : Nat) (a : Int32), j + k = 10 → k < f → L_X10_share_20 Θ f (gb Θ) (nI p) a (nI j) (laz Θ S ω) n = some (.inl (some (.int (shS fg (w (4 * p + 12)) (adL fg k j a))), laz Θ S ω, n)) := by
  intro k
  induction k with
  | zero =>
    intro j f a h1 h2
    obtain ⟨f, rfl⟩ : ∃ g, f = g + 1 := ⟨f - 1, by omega⟩
    unfold L_X10_share_20 B_X10_share_20 J_X10_share_66 J_X10_share_85 shS
    rw [if_pos (show (10 : Int32) ≤ nI j from nI_le (a := 10) (by omega) (by omega)), r10_0, a14_10, l_18 hp, h18]
    show _ = (some (.inl (some (.int (if a = 0 ∨ w (4 * p + 12) = -1 then 0 else 100 * fg (w (4 * p + 12)).toNatClampNeg / a)), laz Θ S ω, n)) : RO)
    rcases hs with z | ⟨s, hs, e⟩
    · rw [z, if_pos (by decide), if_pos (Or.inr rfl)]
    · rw [e, if_neg (nI_pos (by omega))]
      by_cases y : a = 0
      · rw [if_pos y, if_pos (Or.inl y)]
      · rw [if_neg y, r10_8, a202_11, l_206 (by omega), hf s (by omega), if_neg (by rintro (h | h); exact y h; exact (q_m1 (by omega)).mp h), nI_clamp (by omega)]
        unfold nz
        rw [if_neg y, Int32.mul_comm]
  | succ k ih =>
    intro j f a h1 h2
    obtain ⟨f, rfl⟩ : ∃ g, f = g + 1 := ⟨f - 1, by omega⟩
    unfold L_X10_share_20 B_X10_share_20
    rw [if_neg (show ¬ (10 : Int32) ≤ nI j from nI_ge (b := 10) (by omega) (by omega)), r10_8, a202_11, l_206 (by omega), hf j (by omega), nI_1, ih (j + 1) f _ (by omega) (by omega)]
    rfl
theorem m_share_L {w fg : Nat → Int32} {p : Nat} (hw : zA S 219 = w) (hp : p < 8) (hs : w (4 * p + 12) = -1 ∨ Rg (w (4 * p + 12)) 9) (hf : ∀ s, s < 10 → zA S 228 s = fg s) : ∀ (k j f : Nat) (a : Int32), j + k = 10 → k < f → L_X11_share_47 Θ f (gb Θ + 218) (nI p) a (nI j) (laz Θ S ω) n = some (.inl (some (.int (shS fg (w (4 * p + 12)) (adL fg k j a))), laz Θ S ω, n)) := by
  subst hw
  intro k
  induction k with
  | zero =>
    intro j f a h1 h2
    obtain ⟨f, rfl⟩ : ∃ g, f = g + 1 := ⟨f - 1, by omega⟩
    unfold L_X11_share_47 B_X11_share_47 J_X11_share_82 J_X11_share_102 shS
    rw [if_pos (show (10 : Int32) ≤ nI j from nI_le (a := 10) (by omega) (by omega))]
    show _ = (some (.inl (some (.int (if a = 0 ∨ zA S 219 (4 * p + 12) = -1 then 0 else 100 * fg (zA S 219 (4 * p + 12)).toNatClampNeg / a)), laz Θ S ω, n)) : RO)
    by_cases y : a = 0
    · rw [if_pos y, if_pos (Or.inl y)]
    · rw [if_neg y, d218]
      rcases hs with z | ⟨s, hs, e⟩
      · rw [m_isNailed_n hp z, kI_v, if_pos rfl, if_pos (Or.inr z)]
      · have hn : ¬ zA S 219 (4 * p + 12) = -1 := by rw [e]; exact fun h => (q_m1 (by omega)).mp h
        rw [m_isNailed_y hp hn, kI_v, if_neg (by decide), a218_26, d218, m_ofProp3 hp, kI_v, e, l_228 (by omega), hf s (by omega), if_neg (by rintro (h | h); exact y h; exact (q_m1 (by omega)).mp h), nI_clamp (by omega)]
        unfold nz
        rw [if_neg y]
  | succ k ih =>
    intro j f a h1 h2
    obtain ⟨f, rfl⟩ : ∃ g, f = g + 1 := ⟨f - 1, by omega⟩
    unfold L_X11_share_47 B_X11_share_47
    rw [if_neg (show ¬ (10 : Int32) ≤ nI j from nI_ge (b := 10) (by omega) (by omega)), a218_26, l_228 (by omega), hf j (by omega), nI_1, ih (j + 1) f _ (by omega) (by omega)]
    rfl
end CO
theorem pc29 (Θ : GP) : PC_29 Θ (gb Θ) (gb Θ + 218) (gb Θ + 234) (Inv Θ) := by
  intro v xs i hI
  obtain ⟨S, ω, rfl, hC, hI⟩ := hI
  have hP := hC.O
  obtain ⟨lw, hL⟩ := hC.lw
  show stW Θ _ _ (fun ω n => W_corners Θ (gb Θ) (xs (i + 1)) (gb Θ + 234) ω n) (fun ω n => F_X11_corners Θ (gb Θ + 218) (xs (i + 1)) ω n) _ _
  generalize xs (i + 1) = v
  by_cases hv : ∃ s, s < cO' (zA S 219) ∧ v = nI s
  · obtain ⟨a, ha, rfl⟩ := hv
    refine fin_W fun n _ => ?_
    obtain ⟨S1, sd, e1, x1, rx, _, _, r1, _⟩ := x_rideStraight (n := n) hC ha hL
    have r1 : ∀ j, j < 10 → zA S1 205 j = bhS (cPar (zA S 219) lw a false false) (-1, 0, 0) j := fun j hj => (r1 j hj).trans (bhS_nd rfl _ _)
    have hx19 : zA S1 219 = zA S 219 := x1.2.1 219 (by omega)
    let ans := orL (gco (zA S 219) (bhS (cPar (zA S 219) lw a false false) (-1, 0, 0)) (zA S 219 (4 * a + 42))) 10 0 0
    refine ⟨0, uL S1 234 ans.toInt64, ω, ?_, fun n2 => ?_⟩
    · show W_corners Θ (gb Θ) (nI a) (gb Θ + 234) (laz Θ S ω) n = _
      unfold W_corners F_X10_corners
      rw [c10w, c10, x_needOne_y hC ha, kV_v, c10, e1, kV_v]
      have e := x_corners_L (Θ := Θ) (S := S1) (ω := ω) (n := n) hC.P8 rx.2.2.2.2.1 r1 rx.2.2.2.2.2.2.1 10 0 5000 0 (by omega) (by omega)
      exact (congrArg (fun r => wrJ Θ (gb Θ + 234) "java/lang/IndexOutOfBoundsException" r) e).trans wrJ_v
    · obtain ⟨S2, e2, x2, h19, _, r2, _⟩ := m_ridesStraight (Θ := Θ) (S := uF (uL S1 234 ans.toInt64) 218 0 0) (ω := ω) (n := n2) (w := zA S 219) (lw := lw) (a := a) hx19 hC.1.1 hL.2 (by omega) ((x1.1 218 23 (by omega)).trans hI.2.2.1) ((x1.1 218 24 (by omega)).trans hI.2.2.2)
      refine ⟨ans, S2, n2, ?_, (x2.1 218 0 (by omega)).trans rfl, fun _ => (x2.2.2.2 234).trans rfl, (((hC.kp (x1.kp (Or.inl rfl))).nL).thr).kp x2.kp, x2.idle ((x1.idle (Or.inl rfl) hI).nL.thr)⟩
      show F_X11_corners Θ (gb Θ + 218) (nI a) (laz Θ _ ω) n2 = _
      unfold F_X11_corners
      rw [b218_0, d218, m_noOne_y (P := cO' (zA S 219)) (by rw [← hP.1]; exact congrFun hx19 1) hP.2.1 ha, kI_v, d218, m_throwsIf0, kI_v, if_pos rfl, d218, e2, kI_v]
      exact m_corners_L ((x2.2.1 219 (by omega) (by omega) (by omega) (by omega)).trans hx19) hC.1.1 (fun s hs => (r2 s hs).1) h19 10 0 5000 0 (by omega) (by omega)
  · refine one_n hC hI hv (fun n => ?_) (fun n => ?_)
    · show W_corners Θ (gb Θ) v (gb Θ + 234) (laz Θ S ω) n = _
      unfold W_corners F_X10_corners
      rw [c10w, c10, x_needOne_n hC hv, kV_x, wrJ_x]
    · show F_X11_corners Θ (gb Θ + 218) v (laz Θ S ω) n = _
      unfold F_X11_corners
      rw [b218_0, d218, m_noOne_n (by exact hP.1) hP.2.1 hv, kI_v, d218, m_throwsIf1, kI_v, if_neg (by decide)]
theorem pc37 (Θ : GP) : PC_37 Θ (gb Θ) (gb Θ + 218) (gb Θ + 234) (Inv Θ) := by
  intro v xs i hI
  obtain ⟨S, ω, rfl, hC, hI⟩ := hI
  have hO := hC.O
  have hP := hC.P
  obtain ⟨lw, hL⟩ := hC.lw
  show stW Θ _ _ (fun ω n => W_share Θ (gb Θ) (xs (i + 1)) (xs (i + 2)) (gb Θ + 234) ω n) (fun ω n => F_X11_share Θ (gb Θ + 218) (xs (i + 1)) (xs (i + 2)) ω n) _ _
  generalize xs (i + 1) = u
  generalize xs (i + 2) = v
  by_cases hu : ∃ s, s < cP (zA S 219) ∧ u = nI s
  · obtain ⟨p, hp, rfl⟩ := hu
    have hsl := (hC.1.1.2.2.2.2.2.2.2.1 p (by omega)).2.2.2
    by_cases hv : ∃ s, s < cO' (zA S 219) ∧ v = nI s
    · obtain ⟨a, ha, rfl⟩ := hv
      refine fin_W fun n _ => ?_
      obtain ⟨S1, sd, e1, x1, rx, _, _, _, r1⟩ := x_rideStraight (n := n) hC ha hL
      have r1 : ∀ j, j < 10 → zA S1 206 j = fgS (cPar (zA S 219) lw a false false) (-1, 0, 0) j := fun j hj => (r1 j hj).trans (fgS_nd rfl _ _)
      have hx19 : zA S1 219 = zA S 219 := x1.2.1 219 (by omega)
      let ans := shS (fgS (cPar (zA S 219) lw a false false) (-1, 0, 0)) (zA S 219 (4 * p + 12)) (adL (fgS (cPar (zA S 219) lw a false false) (-1, 0, 0)) 10 0 0)
      refine ⟨0, uL S1 234 ans.toInt64, ω, ?_, fun n2 => ?_⟩
      · show W_share Θ (gb Θ) (nI p) (nI a) (gb Θ + 234) (laz Θ S ω) n = _
        unfold W_share F_X10_share
        rw [c10w, c10, x_needProp_y hC hp, kV_v, c10, x_needOne_y hC ha, kV_v, c10, e1, kV_v]
        have e := x_share_L (Θ := Θ) (S := S1) (ω := ω) (n := n) (w := zA S 219) (p := p) (by omega) hsl (by rw [x1.2.1 18 (by omega)]; exact (CRp hC.1.2.1 hp).2.2.2) r1 10 0 5000 0 (by omega) (by omega)
        exact (congrArg (fun r => wrJ Θ (gb Θ + 234) "java/lang/IndexOutOfBoundsException" r) e).trans wrJ_v
      · obtain ⟨S2, e2, x2, h19, _, r2, _⟩ := m_ridesStraight (Θ := Θ) (S := uF (uL S1 234 ans.toInt64) 218 0 0) (ω := ω) (n := n2) (w := zA S 219) (lw := lw) (a := a) hx19 hC.1.1 hL.2 (by omega) ((x1.1 218 23 (by omega)).trans hI.2.2.1) ((x1.1 218 24 (by omega)).trans hI.2.2.2)
        refine ⟨ans, S2, n2, ?_, (x2.1 218 0 (by omega)).trans rfl, fun _ => (x2.2.2.2 234).trans rfl, (((hC.kp (x1.kp (Or.inl rfl))).nL).thr).kp x2.kp, x2.idle ((x1.idle (Or.inl rfl) hI).nL.thr)⟩
        show F_X11_share Θ (gb Θ + 218) (nI p) (nI a) (laz Θ _ ω) n2 = _
        unfold F_X11_share J_X11_share_27
        rw [b218_0, d218, m_noProp_y (P := cP (zA S 219)) (by rw [← hP.1]; exact congrFun hx19 0) hP.2.1 hp, kI_v, if_pos rfl, d218, m_noOne_y (P := cO' (zA S 219)) (by rw [← hO.1]; exact congrFun hx19 1) hO.2.1 ha, kI_v, if_pos rfl, d218, m_throwsIf0, kI_v, if_pos rfl, d218, e2, kI_v]
        exact m_share_L ((x2.2.1 219 (by omega) (by omega) (by omega) (by omega)).trans hx19) (by omega) hsl (fun s hs => (r2 s hs).2) 10 0 5000 0 (by omega) (by omega)
    · refine one_n hC hI hv (fun n => ?_) (fun n => ?_)
      · show W_share Θ (gb Θ) (nI p) v (gb Θ + 234) (laz Θ S ω) n = _
        unfold W_share F_X10_share
        rw [c10w, c10, x_needProp_y hC hp, kV_v, c10, x_needOne_n hC hv, kV_x, wrJ_x]
      · show F_X11_share Θ (gb Θ + 218) (nI p) v (laz Θ S ω) n = _
        unfold F_X11_share J_X11_share_22 J_X11_share_27
        rw [b218_0, d218, m_noProp_y (by exact hP.1) hP.2.1 hp, kI_v, if_pos rfl, d218, m_noOne_n (by exact hO.1) hO.2.1 hv, kI_v, if_neg (by decide), d218, m_throwsIf1, kI_v, if_neg (by decide)]
  · refine fin_W fun n _ => ⟨1, S, ω, ?_, fun n2 => ⟨0, uF (uF S 218 0 0) 218 0 1, n2, ?_, rfl, fun h => absurd h (by decide), hC.thr.thr, hI.thr.thr⟩⟩
    · show W_share Θ (gb Θ) u v (gb Θ + 234) (laz Θ S ω) n = _
      unfold W_share F_X10_share
      rw [c10w, c10, x_needProp_n hC hu, kV_x, wrJ_x]
    · show F_X11_share Θ (gb Θ + 218) u v (laz Θ S ω) n2 = _
      unfold F_X11_share J_X11_share_22 J_X11_share_27
      rw [b218_0, d218, m_noProp_n (by exact hP.1) hP.2.1 hu, kI_v, if_neg (by decide), d218, m_throwsIf1, kI_v, if_neg (by decide)]
