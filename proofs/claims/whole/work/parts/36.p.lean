/-! how long a prop lasts -/
/-- a world on the way, the same one riding -/
def LQ (w0 w : Nat → Int32) (lw : LW) : Prop := WB w ∧ LawM w lw ∧ cP w = cP w0 ∧ ∀ i, 305 ≤ i → w i = w0 i
theorem LQ.step {w0 w : Nat → Int32} {lw : LW} {a : Nat} (h : LQ w0 w lw) (ha : a < 6) : LQ w0 (rwW w lw a) lw := by
  have hO := cPar_ok h.1 h.2.1 ha false false
  refine ⟨wW_wb hO _ ha _, wW_law hO _ ha _, ?_, fun i hi => ?_⟩
  · rw [← h.2.2.1]; exact wW_cP _ _ a _
  · rw [← h.2.2.2 i hi]; exact wW_hi hO _ a _ (by omega) (by omega)
noncomputable def laF (lw : LW) (a p : Nat) : Nat → Nat → (Nat → Int32) → Int32
  | 0, _, _ => -1
  | k + 1, i, w => if w (4 * p + 11) < 50 then laF lw a p k (i + 1) (rwW w lw a) else nI i
section LA
variable {Θ : GP} {S S0 : PZ} {ω : OW} {n : Nat} {w0 : Nat → Int32} {lw : LW} {a p : Nat}
theorem x_lasts_L (ha : a < 6) (hp : p < cP w0) (h8 : cP w0 ≤ 8) : ∀ (k i f : Nat) (w : Nat → Int32) (S : PZ), i + k = 61 → k < f → XL 202 S0 S → RX Θ S ω 202 (cPar w lw a false false) → LQ w0 w lw → ∃ S', L_X10_lasts_27 Θ f (gb Θ) (nI p) (nI i) (laz Θ S ω) n = some (.inl (some (.int (laF lw a p k i w)), laz Θ S' ω, n)) ∧ XL 202 S0 S' := by
  intro k
  induction k with
  | zero =>
    intro i f w S h1 h2 xl rx q
    obtain ⟨f, rfl⟩ : ∃ g, f = g + 1 := ⟨f - 1, by omega⟩
    refine ⟨S, ?_, xl⟩
    unfold L_X10_lasts_27 B_X10_lasts_27
    rw [if_pos (show (60 : Int32) < nI i from nI_lt (a := 60) (by omega) (by omega))]
    rfl
  | succ k ih =>
    intro i f w S h1 h2 xl rx q
    obtain ⟨f, rfl⟩ : ∃ g, f = g + 1 := ⟨f - 1, by omega⟩
    have e11 : zA S 204 p = w (4 * p + 11) := (rx.2.2.2.1 p (by show p < cP w; rw [q.2.2.1]; exact hp)).2.2
    rw [show L_X10_lasts_27 Θ (f + 1) (gb Θ) (nI p) (nI i) (laz Θ S ω) n = B_X10_lasts_27 Θ (L_X10_lasts_27 Θ f) (gb Θ) (nI p) (nI i) (laz Θ S ω) n from rfl]
    unfold B_X10_lasts_27
    rw [if_neg (show ¬ (60 : Int32) < nI i from nI_nlt (a := 60) (by omega) (by omega)), r10_8, a202_2, l_204 (by omega), e11]
    rw [show laF lw a p (k + 1) i w = if w (4 * p + 11) < 50 then laF lw a p k (i + 1) (rwW w lw a) else nI i from rfl]
    by_cases z : w (4 * p + 11) < 50
    · obtain ⟨S2, e2, x2, _, r2, S3, e3, x3, r3, _⟩ := x_ride1 (n := n) ha q.1 q.2.1 rx
      obtain ⟨S', e, xl'⟩ := ih (i + 1) f (rwW w lw a) S3 (by omega) (by omega) (xl.trans x3) r3 (q.step ha)
      refine ⟨S', ?_, xl'⟩
      rw [if_pos z, if_pos z, ← e, r10_8, d202, e2, kV_v, r10_8, d202, e3, kV_v, nI_1]
    · rw [if_neg z, if_neg z]
      exact ⟨S, rfl, xl⟩
theorem m_lasts_end (hk : ∀ j, j < 305 → zA S0 222 j = w0 j) {w : Nat → Int32} (xt : XT S0 S) (hw : zA S 219 = w) (q : LQ w0 w lw) {v : Int32} : ∃ S', J_X11_lasts_92 Θ (gb Θ + 218) v (laz Θ S ω) n = some (.inl (some (.int v), laz Θ S' ω, n)) ∧ XT S0 S' ∧ zA S' 219 = w0 := by
  refine ⟨uA S 219 w0, ?_, xt.nA (by omega), zA_eq _ _ _⟩
  unfold J_X11_lasts_92
  rw [d218, m_bringsBack (w0 := w0) (fun j hj => by rw [xt.2.1 222 (by decide) (by decide) (by decide) (by decide) (by decide)]; exact hk j hj) (fun j hj => by rw [hw]; exact q.2.2.2 j hj), kV_v]
theorem m_lasts_L (ha : a < 6) (hp : p < cP w0) (h8 : cP w0 ≤ 8) (h23 : zF S0 218 23 = 0) (h24 : zF S0 218 24 = 0) (hk : ∀ j, j < 305 → zA S0 222 j = w0 j) : ∀ (k i f : Nat) (w : Nat → Int32) (S : PZ), i + k = 61 → k + 1 < f → XT S0 S → zA S 219 = w → LQ w0 w lw → ∃ S', L_X11_lasts_45 Θ f (gb Θ + 218) (nI p) (nI a) (-1) (nI i) (laz Θ S ω) n = some (.inl (some (.int (laF lw a p k i w)), laz Θ S' ω, n)) ∧ XT S0 S' ∧ zA S' 219 = w0 := by
  intro k
  induction k with
  | zero =>
    intro i f w S h1 h2 xt hw q
    obtain ⟨f, rfl⟩ : ∃ g, f = g + 1 := ⟨f - 1, by omega⟩
    unfold L_X11_lasts_45 B_X11_lasts_45
    rw [if_pos (show (60 : Int32) < nI i from nI_lt (a := 60) (by omega) (by omega))]
    exact m_lasts_end hk xt hw q
  | succ k ih =>
    intro i f w S h1 h2 xt hw q
    obtain ⟨f, rfl⟩ : ∃ g, f = g + 1 := ⟨f - 1, by omega⟩
    rw [show L_X11_lasts_45 Θ (f + 1) (gb Θ + 218) (nI p) (nI a) (-1) (nI i) (laz Θ S ω) n = B_X11_lasts_45 Θ (L_X11_lasts_45 Θ f) (gb Θ + 218) (nI p) (nI a) (-1) (nI i) (laz Θ S ω) n from rfl]
    unfold B_X11_lasts_45 J_X11_lasts_74
    obtain ⟨S1, e1, xp, e2⟩ := m_ride1 (Θ := Θ) (ω := ω) (n := n) hw q.1 q.2.1 ha ((xt.1 218 23 (by omega)).trans h23) ((xt.1 218 24 (by omega)).trans h24)
    have x1 : XT S0 S1 := xt.trans ⟨xp.1, fun k _ a b c d => xp.2.1 k a b c d, xp.2.2⟩
    rw [if_neg (show ¬ (60 : Int32) < nI i from nI_nlt (a := 60) (by omega) (by omega)), if_pos rfl, d218, m_ofProp2 (by omega), kI_v, hw]
    rw [show laF lw a p (k + 1) i w = if w (4 * p + 11) < 50 then laF lw a p k (i + 1) (rwW w lw a) else nI i from rfl]
    by_cases z : w (4 * p + 11) < 50
    · rw [if_pos z, if_pos z, d218, e1, kI_v, d218, e2, kV_v, nI_1]
      exact ih (i + 1) f (rwW w lw a) (uA S1 219 (rwW w lw a)) (by omega) (by omega) (x1.nA (by omega)) (zA_eq _ _ _) (q.step ha)
    · rw [if_neg z, if_neg z, d218, e1, kI_v, d218, e2, kV_v, nI_1]
      obtain ⟨f, rfl⟩ : ∃ g, f = g + 1 := ⟨f - 1, by omega⟩
      have he := m_lasts_end (Θ := Θ) (ω := ω) (n := n) hk (x1.nA (k := 219) (f := rwW w lw a) (by omega)) (zA_eq _ _ _) (q.step ha) (v := nI i)
      rw [show L_X11_lasts_45 Θ (f + 1) (gb Θ + 218) (nI p) (nI a) (nI i) (nI (i + 1)) (laz Θ (uA S1 219 (rwW w lw a)) ω) n = B_X11_lasts_45 Θ (L_X11_lasts_45 Θ f) (gb Θ + 218) (nI p) (nI a) (nI i) (nI (i + 1)) (laz Θ (uA S1 219 (rwW w lw a)) ω) n from rfl]
      unfold B_X11_lasts_45
      rw [if_neg (show ¬ nI i = -1 by rw [q_m1 (by omega)]; exact id)]
      by_cases y : (60 : Int32) < nI (i + 1)
      · rw [if_pos y]; exact he
      · rw [if_neg y]; exact he
end LA
theorem pc35 (Θ : GP) : PC_35 Θ (gb Θ) (gb Θ + 218) (gb Θ + 234) (Inv Θ) := by
  intro v xs i hI
  obtain ⟨S, ω, rfl, hC, hI⟩ := hI
  have hO := hC.O
  have hP := hC.P
  have hR : isR 202 := Or.inl rfl
  obtain ⟨lw, hL⟩ := hC.lw
  show stW Θ _ _ (fun ω n => W_lasts Θ (gb Θ) (xs (i + 1)) (xs (i + 2)) (gb Θ + 234) ω n) (fun ω n => F_X11_lasts Θ (gb Θ + 218) (xs (i + 1)) (xs (i + 2)) ω n) _ _
  generalize xs (i + 1) = u
  generalize xs (i + 2) = v
  by_cases hu : ∃ s, s < cP (zA S 219) ∧ u = nI s
  · obtain ⟨p, hp, rfl⟩ := hu
    by_cases hv : ∃ s, s < cO' (zA S 219) ∧ v = nI s
    · obtain ⟨a, ha, rfl⟩ := hv
      have ha6 : a < 6 := by omega
      refine fin_W fun n _ => ?_
      obtain ⟨xl, ld⟩ := x_laid hC hL
      obtain ⟨S0, e0, x0, r0, _⟩ := x_board1 (n := n) hC xl ld ha (dr := false) (te := false) (cPar_ok hC.1.1 hL.2 ha6 false false) rfl rfl rfl
      have q0 : LQ (zA S 219) (zA S 219) lw := ⟨hC.1.1, hL.2, rfl, fun _ _ => rfl⟩
      obtain ⟨S1, e1, x1⟩ := x_lasts_L (Θ := Θ) (n := n) (S0 := S) ha6 hp hP.2.1 61 0 5000 (zA S 219) S0 (by omega) (by omega) x0 r0 q0
      have h9 : zA S1 219 = zA S 219 := x1.2.1 219 (by omega)
      let ans := laF lw a p 61 0 (zA S 219)
      refine ⟨0, uL S1 234 ans.toInt64, ω, ?_, fun n2 => ?_⟩
      · show W_lasts Θ (gb Θ) (nI p) (nI a) (gb Θ + 234) (laz Θ S ω) n = _
        unfold W_lasts F_X10_lasts
        rw [c10w, c10, x_needProp_y hC hp, kV_v, c10, x_needOne_y hC ha, kV_v, r10_8, d202, x_lay hR, kV_v, r10_8, d202, e0, kV_v]
        exact (congrArg (fun r => wrJ Θ (gb Θ + 234) "java/lang/IndexOutOfBoundsException" r) e1).trans wrJ_v
      · let S1' := uF (uL S1 234 ans.toInt64) 218 0 0
        let S2 := uA S1' 222 (fun j => if j < 305 then zA S1' 219 j else zA S1' 222 j)
        have hC1 : Core Θ S1' ω := ((hC.kp (x1.kp hR)).nL).thr
        have hI1 : Idle Θ S1' := ((x1.idle hR hI).nL).thr
        have k2 : Kp S1' S2 := (KK.rf S1').nA rfl
        have i2 : Idle Θ S2 := hI1.nA (by decide)
        obtain ⟨S3, e3, x3, w3⟩ := m_lasts_L (Θ := Θ) (S0 := S2) (ω := ω) (n := n2) (lw := lw) ha6 hp hP.2.1 i2.2.2.1 i2.2.2.2 (fun j hj => by
          show zA S2 222 j = _
          rw [zA_eq, if_pos hj]; exact congrFun h9 j) 61 0 5000 (zA S 219) S2 (by omega) (by omega) (XT.rf S2) h9 q0
        have x3' := x3.xp (w3.trans h9.symm)
        refine ⟨ans, S3, n2, ?_, (x3.1 218 0 (by omega)).trans rfl, fun _ => (x3.2.2.2 234).trans rfl, (hC1.kp k2).kp x3'.kp, x3'.idle i2⟩
        show F_X11_lasts Θ (gb Θ + 218) (nI p) (nI a) (laz Θ (uL S1 234 ans.toInt64) ω) n2 = _
        unfold F_X11_lasts J_X11_lasts_27
        rw [b218_0, d218, m_noProp_y (P := cP (zA S 219)) (by rw [← hP.1]; exact congrFun h9 0) hP.2.1 hp, kI_v, if_pos rfl, d218, m_noOne_y (P := cO' (zA S 219)) (by rw [← hO.1]; exact congrFun h9 1) hO.2.1 ha, kI_v, if_pos rfl, d218, m_throwsIf0, kI_v, if_pos rfl, d218, m_keepsAll, kV_v]
        exact e3
    · refine one_n hC hI hv (fun n => ?_) (fun n => ?_)
      · show W_lasts Θ (gb Θ) (nI p) v (gb Θ + 234) (laz Θ S ω) n = _
        unfold W_lasts F_X10_lasts
        rw [c10w, c10, x_needProp_y hC hp, kV_v, c10, x_needOne_n hC hv, kV_x, wrJ_x]
      · show F_X11_lasts Θ (gb Θ + 218) (nI p) v (laz Θ S ω) n = _
        unfold F_X11_lasts J_X11_lasts_22 J_X11_lasts_27
        rw [b218_0, d218, m_noProp_y (by exact hP.1) hP.2.1 hp, kI_v, if_pos rfl, d218, m_noOne_n (by exact hO.1) hO.2.1 hv, kI_v, if_neg (by decide), d218, m_throwsIf1, kI_v, if_neg (by decide)]
  · refine fin_W fun n _ => ⟨1, S, ω, ?_, fun n2 => ⟨0, uF (uF S 218 0 0) 218 0 1, n2, ?_, rfl, fun h => absurd h (by decide), hC.thr.thr, hI.thr.thr⟩⟩
    · show W_lasts Θ (gb Θ) u v (gb Θ + 234) (laz Θ S ω) n = _
      unfold W_lasts F_X10_lasts
      rw [c10w, c10, x_needProp_n hC hu, kV_x, wrJ_x]
    · show F_X11_lasts Θ (gb Θ + 218) u v (laz Θ S ω) n2 = _
      unfold F_X11_lasts J_X11_lasts_22 J_X11_lasts_27
      rw [b218_0, d218, m_noProp_n (by exact hP.1) hP.2.1 hu, kI_v, if_neg (by decide), d218, m_throwsIf1, kI_v, if_neg (by decide)]
