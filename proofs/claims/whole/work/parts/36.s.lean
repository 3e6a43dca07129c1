/-! rides with props taken away, or eased -/
def cPT (w : Nat → Int32) (lw : LW) (a : Nat) (tn : Int32) (es : Nat → Bool) : RPar := (w, lw, fun s => tkM w tn s, es, w (4 * a + 42), w (4 * a + 43), w (4 * a + 41), false, false)
theorem tkM_cases {w : Nat → Int32} (hW : WB w) (tn : Int32) {s : Nat} (hs : s < 10) : tkM w tn s = -1 ∨ ∃ p, p < cP w ∧ tkM w tn s = nI p ∧ w (4 * p + 12) = nI s := by
  unfold tkM
  rcases pin_cases w (nI s) with ⟨z, _⟩ | ⟨p, h1, h2, h3⟩
  · rw [if_pos z]; exact Or.inl rfl
  · have h8 := hW.P8
    rw [h2, if_neg (show ¬ nI p = -1 by rw [q_m1 (by omega)]; exact id)]
    split
    · exact Or.inr ⟨p, h1, rfl, h3⟩
    · exact Or.inl rfl
theorem cPT_ok {w : Nat → Int32} {lw : LW} (hW : WB w) (hM : LawM w lw) {a : Nat} (ha : a < 6) (tn : Int32) (es : Nat → Bool) : ROK (cPT w lw a tn es) := ⟨hW, hM, fun s hs => tkM_cases hW tn hs, (hW.2.2.2.2.2.2.2.2.1 a ha).2.1⟩
/-- where one screams then -/
noncomputable def rdT (w : Nat → Int32) (lw : LW) (a : Nat) (tn : Int32) (es : Nat → Bool) : Int32 := (rst (cPT w lw a tn es) (-1, 0, 0) ten).1
section TK
variable {Θ : GP} {S S0 : PZ} {ω : OW} {n : Nat} {w : Nat → Int32} {lw : LW} {a : Nat} {tn : Int32} {es : Nat → Bool}
theorem x_take_L (hW : WB w) : ∀ (m k f : Nat) (g : Nat → Int32), k + m = 10 → m < f → (∀ s, s < 10 → g s = if s < k then tkM w tn s else pin w (nI s)) → ∃ g', L_X6_takeDown_2 Θ f (gb Θ + 202) tn (nI k) (laz Θ (uA S 203 g) ω) n = some (.inl (none, laz Θ (uA S 203 g') ω, n)) ∧ ∀ s, s < 10 → g' s = tkM w tn s := by
  have h8 := hW.P8
  intro m
  induction m with
  | zero =>
    intro k f g h1 h2 hg
    obtain ⟨f, rfl⟩ : ∃ g, f = g + 1 := ⟨f - 1, by omega⟩
    refine ⟨g, ?_, fun s hs => by rw [hg s hs, if_pos (by omega)]⟩
    unfold L_X6_takeDown_2 B_X6_takeDown_2
    rw [if_pos (show (10 : Int32) ≤ nI k from nI_le (a := 10) (by omega) (by omega))]
  | succ m ih =>
    intro k f g h1 h2 hg
    obtain ⟨f, rfl⟩ : ∃ g, f = g + 1 := ⟨f - 1, by omega⟩
    have hk : k < 10 := by omega
    have e := hg k hk
    rw [if_neg (by omega)] at e
    have stay : tkM w tn k = pin w (nI k) → ∀ s, s < 10 → g s = if s < k + 1 then tkM w tn s else pin w (nI s) := by
      intro y s hs
      rw [hg s hs]
      by_cases z : s = k
      · subst z; rw [if_neg (by omega), if_pos (by omega), y]
      · by_cases u : s < k
        · rw [if_pos u, if_pos (by omega)]
        · rw [if_neg u, if_neg (by omega)]
    rw [show L_X6_takeDown_2 Θ (f + 1) (gb Θ + 202) tn (nI k) (laz Θ (uA S 203 g) ω) n = B_X6_takeDown_2 Θ (L_X6_takeDown_2 Θ f) (gb Θ + 202) tn (nI k) (laz Θ (uA S 203 g) ω) n from rfl]
    unfold B_X6_takeDown_2 J_X6_takeDown_38
    rw [if_neg (show ¬ (10 : Int32) ≤ nI k from nI_ge (b := 10) (by omega) (by omega)), a202_1, l_203 hk, zA_eq, e, nI_1]
    rcases pin_cases w (nI k) with ⟨z, _⟩ | ⟨p, p1, p2, p3⟩
    · rw [z, if_pos (by decide)]
      exact ih (k + 1) f g (by omega) (by omega) (stay (by rw [z]; exact if_pos z))
    · rw [p2, if_neg (nI_pos (by omega)), a202_1, l_203 hk, zA_eq, e, p2]
      have hn : ¬ nI p = -1 := by rw [q_m1 (by omega)]; exact id
      by_cases y : (tn >>> (nI p &&& 31)) &&& 1 = 1
      · rw [if_pos y, a202_1, s_203 hk, uA_uA, zA_eq]
        refine ih (k + 1) f _ (by omega) (by omega) (fun s hs => ?_)
        unfold upd
        by_cases z : s = k
        · subst z
          rw [if_pos rfl, if_pos (by omega)]
          unfold tkM hasS
          rw [p2, if_neg hn, if_pos y, if_neg (by decide)]
        · rw [if_neg z, hg s hs]
          by_cases u : s < k
          · rw [if_pos u, if_pos (by omega)]
          · rw [if_neg u, if_neg (by omega)]
      · rw [if_neg y]
        refine ih (k + 1) f g (by omega) (by omega) (stay ?_)
        unfold tkM hasS
        rw [p2, if_neg hn, if_neg y, if_pos rfl]
theorem RLd.nT {tk tk' : Nat → Int32} (h : RLd Θ S ω w lw tk es) {g : Nat → Int32} (hg : ∀ s, s < 10 → g s = tk' s) : RLd Θ (uA S 203 g) ω w lw tk' es := by
  obtain ⟨h1, h2, h3, h4, h5⟩ := h
  exact ⟨h1, h2, fun p hp => h3 p hp, fun s hs => by rw [zA_eq]; exact hg s hs, h5⟩
/-- laid, some taken away -/
theorem x_takeDown (hW : WB w) (h : RLd Θ S ω w lw (fun s => pin w (nI s)) es) (tn : Int32) : ∃ g, F_X6_takeDown Θ (gb Θ + 202) tn (laz Θ S ω) n = some (.inl (none, laz Θ (uA S 203 g) ω, n)) ∧ RLd Θ (uA S 203 g) ω w lw (fun s => tkM w tn s) es := by
  obtain ⟨g, e, hg⟩ := x_take_L (Θ := Θ) (S := S) (ω := ω) (n := n) (tn := tn) hW 10 0 5000 (zA S 203) (by omega) (by omega) (fun s hs => by rw [if_neg (by omega)]; exact h.2.2.2.1 s hs)
  rw [uA_self] at e
  exact ⟨g, e, h.nT hg⟩
/-- one boards and rides straight -/
theorem x_rideT (hC : Core Θ S0 ω) (xl : XL 202 S0 S) (hM : LawM (zA S0 219) lw) (h : RLd Θ S ω (zA S0 219) lw (fun s => tkM (zA S0 219) tn s) es) (ha : a < cO' (zA S0 219)) : ∃ S1 S2, F_X6_board Θ (gb Θ + 202) (nI a) (laz Θ S ω) n = some (.inl (none, laz Θ S1 ω, n)) ∧ F_X6_straightOn Θ (gb Θ + 202) (laz Θ S1 ω) n = some (.inl (none, laz Θ S2 ω, n)) ∧ XL 202 S0 S2 ∧ RLd Θ S2 ω (zA S0 219) lw (fun s => tkM (zA S0 219) tn s) es ∧ zF S2 202 8 = rdT (zA S0 219) lw a tn es := by
  have h6 := hC.O
  have hd : (cPT (zA S0 219) lw a tn es).2.2.2.2.2.2.2.1 = false := rfl
  obtain ⟨S1, S', e1, e2, x2, r2, o, _⟩ := x_boardGo (n := n) hC xl h ha (dr := false) (te := false) (cPT_ok hC.1.1 hM (by omega) tn es)
  have o : XO 202 S1 S' (cPT (zA S0 219) lw a tn es) (-1, 0, zF S 202 7) := o
  have e2 : F_X6_go Θ (gb Θ + 202) 0 0 (laz Θ S1 ω) n = some (.inl (none, laz Θ S' ω, n)) := e2
  refine ⟨S1, S', e1, ?_, x2, r2, ?_⟩
  · unfold F_X6_straightOn
    rw [d202, e2, kV_v]
  · have := o.2.1
    rw [rst_nd hd] at this
    rw [this]; unfold rdT; rw [ten_eq]
theorem m_rideT (hw : zA S 219 = w) (hW : WB w) (hM : LawM w lw) (ha : a < 6) (h23 : zF S 218 23 = tn) (h24 : ∀ p, p < 8 → (hasS (zF S 218 24) (nI p) = 1 ↔ es p = true)) : ∃ S', F_X11_ridesStraight Θ (gb Θ + 218) (nI a) (laz Θ S ω) n = some (.inl (some (.int (rdT w lw a tn es)), laz Θ S' ω, n)) ∧ XP S S' := by
  subst hw
  have hd : (cPT (zA S 219) lw a tn es).2.2.2.2.2.2.2.1 = false := rfl
  have hmx : MX (uF (uF (uF S 218 18 (zA S 219 (4 * a + 41))) 218 19 (zA S 219 (4 * a + 42))) 218 20 (zA S 219 (4 * a + 43))) (cPT (zA S 219) lw a tn es) := by
    refine ⟨cPT_ok hW hM ha tn es, rfl, rfl, rfl, fun s hs => ?_, fun p hp => ?_⟩
    · show tkM (zA S 219) tn s = tkM (zA S 219) (zF S 218 23) s
      rw [h23]
    · exact h24 p hp
  obtain ⟨S', e, k⟩ := m_rides (Θ := Θ) (ω := ω) (n := n) hmx rfl
  obtain ⟨k1, k2, k3, k4, k5, k6, k7⟩ := k
  have hx : zA S' 219 = zA S 219 := by
    rw [k4, rst_sd hd]
    exact w8_self _
  have xp0 : XP S (uF (uF (uF S 218 18 (zA S 219 (4 * a + 41))) 218 19 (zA S 219 (4 * a + 42))) 218 20 (zA S 219 (4 * a + 43))) := (((XP.rf S).nF (by omega)).nF (by omega)).nF (by omega)
  refine ⟨S', ?_, xp0.trans (k1.xp hx)⟩
  unfold F_X11_ridesStraight
  rw [d218, m_looksAt ha, kV_v, d218]
  have e' := e
  rw [show b01 (cPT (zA S 219) lw a tn es).2.2.2.2.2.2.2.1 = 0 from rfl, show b01 (cPT (zA S 219) lw a tn es).2.2.2.2.2.2.2.2 = 0 from rfl, rst_nd hd] at e'
  rw [e', kI_v]
  unfold rdT
  rw [ten_eq]
/-- is it quiet without these -/
noncomputable def qtF (w : Nat → Int32) (lw : LW) (tn : Int32) : Nat → Nat → Int32
  | 0, _ => 1
  | k + 1, a => if w (4 * a + 44) = 0 ∧ ¬ w (4 * a + 41) = 0 ∧ ¬ rdT w lw a tn (fun _ => false) = -1 then 0 else qtF w lw tn k (a + 1)
theorem x_quiet_L (hC : Core Θ S0 ω) (hM : LawM (zA S0 219) lw) : ∀ (k a f : Nat) (S : PZ), a + k = cO' (zA S0 219) → k < f → XL 202 S0 S → RLd Θ S ω (zA S0 219) lw (fun s => tkM (zA S0 219) tn s) (fun _ => false) → ∃ S', L_X10_isQuietWithout_17 Θ f (gb Θ) (nI a) (laz Θ S ω) n = some (.inl (some (.int (qtF (zA S0 219) lw tn k a)), laz Θ S' ω, n)) ∧ XL 202 S0 S' := by
  have h6 := hC.O
  intro k
  induction k with
  | zero =>
    intro a f S h1 h2 xl h
    obtain ⟨f, rfl⟩ : ∃ g, f = g + 1 := ⟨f - 1, by omega⟩
    refine ⟨S, ?_, xl⟩
    unfold L_X10_isQuietWithout_17 B_X10_isQuietWithout_17
    rw [r10_0, a14_1, xl.1 14 1 (by omega), h6.2.2, if_pos (nI_le (by omega) (by omega))]
    rfl
  | succ k ih =>
    intro a f S h1 h2 xl h
    obtain ⟨f, rfl⟩ : ∃ g, f = g + 1 := ⟨f - 1, by omega⟩
    have ha : a < cO' (zA S0 219) := by omega
    rw [show L_X10_isQuietWithout_17 Θ (f + 1) (gb Θ) (nI a) (laz Θ S ω) n = B_X10_isQuietWithout_17 Θ (L_X10_isQuietWithout_17 Θ f) (gb Θ) (nI a) (laz Θ S ω) n from rfl, show qtF (zA S0 219) lw tn (k + 1) a = if zA S0 219 (4 * a + 44) = 0 ∧ ¬ zA S0 219 (4 * a + 41) = 0 ∧ ¬ rdT (zA S0 219) lw a tn (fun _ => false) = -1 then 0 else qtF (zA S0 219) lw tn k (a + 1) from rfl]
    unfold B_X10_isQuietWithout_17 J_X10_isQuietWithout_78
    rw [r10_0, a14_1, xl.1 14 1 (by omega), h6.2.2, if_neg (nI_ge (by omega) (by omega)), r10_0, d14, x_waits hC (xl.2.1 23 (by omega)) ha, kI_v]
    by_cases z : zA S0 219 (4 * a + 44) = 0
    · rw [if_pos z, if_neg (show ¬ (1 : Int32) = 0 by decide), r10_0, d14, x_isInnocent hC (xl.2.1 20 (by omega)) ha, kI_v]
      by_cases y : zA S0 219 (4 * a + 41) = 0
      · rw [if_pos y, if_neg (show ¬ (1 : Int32) = 0 by decide), nI_1, if_neg (fun u => u.2.1 y)]
        exact ih (a + 1) f S (by omega) (by omega) xl h
      · obtain ⟨S1, S2, e1, e2, x2, r2, h8⟩ := x_rideT (n := n) hC xl hM h ha
        rw [if_neg y, if_pos rfl, r10_8, d202, e1, kV_v, r10_8, d202, e2, kV_v, r10_8, a202_8, h8]
        by_cases v : rdT (zA S0 219) lw a tn (fun _ => false) = -1
        · rw [if_pos v, nI_1, if_neg (fun u => u.2.2 v)]
          exact ih (a + 1) f S2 (by omega) (by omega) x2 r2
        · rw [if_neg v, if_pos ⟨z, y, v⟩]
          exact ⟨S2, rfl, x2⟩
    · rw [if_neg z, if_pos rfl, nI_1, if_neg (fun u => z u.1)]
      exact ih (a + 1) f S (by omega) (by omega) xl h
theorem x_isQuietWithout (hC : Core Θ S0 ω) (hL : LawR Θ ω (zR S0 14 17) (zA S0 219) lw) (xl : XL 202 S0 S) (tn : Int32) : ∃ S', F_X10_isQuietWithout Θ (gb Θ) tn (laz Θ S ω) n = some (.inl (some (.int (qtF (zA S0 219) lw tn (cO' (zA S0 219)) 0)), laz Θ S' ω, n)) ∧ XL 202 S0 S' := by
  have hR : isR 202 := Or.inl rfl
  have h6 := hC.O
  have c1 : CR S 14 (zA S0 219) := hC.1.2.1.congr (fun k j h1 h2 => xl.1 k j (by omega)) (fun k h1 h2 => xl.2.1 k (by omega))
  obtain ⟨x1, l1⟩ := x_laidN hC.1.1 c1 (by rw [xl.2.2.1]; exact hL)
  obtain ⟨g, e, l2⟩ := x_takeDown (n := n) hC.1.1 l1 tn
  obtain ⟨S', e2, x2⟩ := x_quiet_L (n := n) hC hL.2 (cO' (zA S0 219)) 0 5000 _ (by omega) (by omega) ((xl.trans x1).nA (by omega)) l2
  refine ⟨S', ?_, x2⟩
  unfold F_X10_isQuietWithout
  rw [r10_8, d202, x_lay hR, kV_v, r10_8, d202, e, kV_v]
  exact e2
theorem m_quiet_L (hW : WB w) (hM : LawM w lw) : ∀ (k a f : Nat) (v : Int32) (S : PZ), a + k = cO' w → k < f → (v = 0 ∨ v = 1) → zA S 219 = w → zF S 218 23 = tn → zF S 218 24 = 0 → ∃ S', L_X11_isQuiet_4 Θ f (gb Θ + 218) v (nI a) (laz Θ S ω) n = some (.inl (some (.int (if v = 0 then 0 else qtF w lw tn k a)), laz Θ S' ω, n)) ∧ XP S S' := by
  have h6 := hW.O6
  intro k
  induction k with
  | zero =>
    intro a f v S h1 h2 hv hw h23 h24
    obtain ⟨f, rfl⟩ : ∃ g, f = g + 1 := ⟨f - 1, by omega⟩
    refine ⟨S, ?_, XP.rf S⟩
    unfold L_X11_isQuiet_4 B_X11_isQuiet_4
    rw [d218, m_oneCount, kI_v, hw, h6.1, if_pos (nI_le (by omega) (by omega))]
    rcases hv with rfl | rfl
    · rw [bz_0, if_pos rfl]
    · rw [bz_1, if_neg (by decide)]; rfl
  | succ k ih =>
    intro a f v S h1 h2 hv hw h23 h24
    obtain ⟨f, rfl⟩ : ∃ g, f = g + 1 := ⟨f - 1, by omega⟩
    have ha : a < 6 := by omega
    rw [show L_X11_isQuiet_4 Θ (f + 1) (gb Θ + 218) v (nI a) (laz Θ S ω) n = B_X11_isQuiet_4 Θ (L_X11_isQuiet_4 Θ f) (gb Θ + 218) v (nI a) (laz Θ S ω) n from rfl, show qtF w lw tn (k + 1) a = if w (4 * a + 44) = 0 ∧ ¬ w (4 * a + 41) = 0 ∧ ¬ rdT w lw a tn (fun _ => false) = -1 then 0 else qtF w lw tn k (a + 1) from rfl]
    unfold B_X11_isQuiet_4 J_X11_isQuiet_41 J_X11_isQuiet_45 J_X11_isQuiet_46
    rw [d218, m_oneCount, kI_v, hw, h6.1, if_neg (nI_ge (by omega) (by omega))]
    rcases hv with rfl | rfl
    · obtain ⟨S', e, xp⟩ := ih (a + 1) f 0 S (by omega) (by omega) (Or.inl rfl) hw h23 h24
      rw [if_pos rfl] at e
      rw [if_pos rfl, nI_1, if_pos rfl]
      exact ⟨S', e, xp⟩
    · have one : ∀ T : PZ, XP S T → ∃ S', L_X11_isQuiet_4 Θ f (gb Θ + 218) 1 (nI (a + 1)) (laz Θ T ω) n = some (.inl (some (.int (qtF w lw tn k (a + 1))), laz Θ S' ω, n)) ∧ XP S S' := by
        intro T xt
        obtain ⟨S', e, xp⟩ := ih (a + 1) f 1 T (by omega) (by omega) (Or.inr rfl) ((xt.2.1 219 (by decide) (by decide) (by decide) (by decide)).trans hw) ((xt.1 218 23 (by omega)).trans h23) ((xt.1 218 24 (by omega)).trans h24)
        rw [if_neg (by decide)] at e
        exact ⟨S', e, xt.trans xp⟩
      rw [if_neg (show ¬ (1 : Int32) = 0 by decide), d218, m_waits ha, kI_v, hw, if_neg (show ¬ (1 : Int32) = 0 by decide)]
      by_cases z : w (4 * a + 44) = 0
      · rw [if_pos z, if_neg (show ¬ (1 : Int32) = 0 by decide), d218, m_isInnocent ha, kI_v, hw]
        by_cases y : w (4 * a + 41) = 0
        · rw [if_pos y, if_neg (show ¬ (1 : Int32) = 0 by decide), nI_1, if_neg (fun u => u.2.1 y)]
          exact one S (XP.rf S)
        · obtain ⟨S1, e1, x1⟩ := m_rideT (Θ := Θ) (ω := ω) (n := n) (es := fun _ => false) hw hW hM ha h23 (fun p hp => by rw [h24, hasS_0 p hp]; exact ⟨fun y => absurd y (by decide), fun y => by cases y⟩)
          rw [if_neg y, if_pos rfl, d218, e1, kI_v]
          by_cases v : rdT w lw a tn (fun _ => false) = -1
          · rw [if_pos v, nI_1, if_neg (fun u => u.2.2 v)]
            exact one S1 x1
          · rw [if_neg v, nI_1, if_pos ⟨z, y, v⟩]
            obtain ⟨S', e, xp⟩ := ih (a + 1) f 0 S1 (by omega) (by omega) (Or.inl rfl) ((x1.2.1 219 (by decide) (by decide) (by decide) (by decide)).trans hw) ((x1.1 218 23 (by omega)).trans h23) ((x1.1 218 24 (by omega)).trans h24)
            rw [if_pos rfl] at e
            exact ⟨S', e, x1.trans xp⟩
      · rw [if_neg z, if_pos rfl, nI_1, if_neg (fun u => z u.1)]
        exact one S (XP.rf S)
theorem m_isQuiet (hw : zA S 219 = w) (hW : WB w) (hM : LawM w lw) (h23 : zF S 218 23 = tn) (h24 : zF S 218 24 = 0) : ∃ S', F_X11_isQuiet Θ (gb Θ + 218) (laz Θ S ω) n = some (.inl (some (.int (qtF w lw tn (cO' w) 0)), laz Θ S' ω, n)) ∧ XP S S' := by
  have h6 := hW.O6
  obtain ⟨S', e, xp⟩ := m_quiet_L (Θ := Θ) (ω := ω) (n := n) hW hM (cO' w) 0 5000 1 S (by omega) (by omega) (Or.inr rfl) hw h23 h24
  rw [if_neg (by decide)] at e
  exact ⟨S', e, xp⟩
end TK
