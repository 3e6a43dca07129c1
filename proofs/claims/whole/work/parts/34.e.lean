/-! promise 18: mornings -/
def moS (m x : Int32) : Int32 := if 0 < x - m then x - m else 0
/-- the world behind the mornings of the first p props -/
def mwS (w : Nat → Int32) (m : Int32) (p : Nat) : Nat → Int32 := fun k => if k % 4 = 3 ∧ 11 ≤ k ∧ k < 4 * p + 11 ∧ w (k + 1) ≠ -1 then moS m (w k) else w k
theorem mwS_0 (w : Nat → Int32) (m : Int32) : mwS w m 0 = w := by
  funext k
  unfold mwS
  rw [if_neg (by omega)]
theorem mwS_n (w : Nat → Int32) (m : Int32) {p : Nat} (h : w (4 * p + 12) = -1) : mwS w m (p + 1) = mwS w m p := by
  funext k
  unfold mwS
  by_cases q : k % 4 = 3 ∧ 11 ≤ k ∧ k < 4 * p + 11 ∧ w (k + 1) ≠ -1
  · rw [if_pos q, if_pos ⟨q.1, q.2.1, by omega, q.2.2.2⟩]
  · rw [if_neg q, if_neg]
    rintro ⟨a, b, c, d⟩
    by_cases e : k = 4 * p + 11
    · subst e; exact d h
    · exact q ⟨a, b, by omega, d⟩
theorem mwS_y (w : Nat → Int32) (m : Int32) {p : Nat} (h : w (4 * p + 12) ≠ -1) : upd (mwS w m p) (4 * p + 11) (moS m (w (4 * p + 11))) = mwS w m (p + 1) := by
  funext k
  unfold upd
  by_cases e : k = 4 * p + 11
  · rw [if_pos e]
    subst e
    unfold mwS
    rw [if_pos ⟨by omega, by omega, by omega, h⟩]
  · rw [if_neg e]
    unfold mwS
    by_cases q : k % 4 = 3 ∧ 11 ≤ k ∧ k < 4 * p + 11 ∧ w (k + 1) ≠ -1
    · rw [if_pos q, if_pos ⟨q.1, q.2.1, by omega, q.2.2.2⟩]
    · rw [if_neg q, if_neg]
      rintro ⟨a, b, c, d⟩
      exact q ⟨a, b, by omega, d⟩
theorem mwS_ne (w : Nat → Int32) (m : Int32) (p : Nat) {k : Nat} (h : k % 4 ≠ 3 ∨ k < 11 ∨ 4 * p + 11 ≤ k) : mwS w m p k = w k := by
  unfold mwS
  rw [if_neg (by omega)]
theorem mwS_at (w : Nat → Int32) (m : Int32) {p q : Nat} (h : q < p) : mwS w m p (4 * q + 11) = if w (4 * q + 12) = -1 then w (4 * q + 11) else moS m (w (4 * q + 11)) := by
  unfold mwS
  by_cases e : w (4 * q + 12) = -1
  · rw [if_pos e, if_neg (fun z => z.2.2.2 e)]
  · rw [if_neg e, if_pos ⟨by omega, by omega, by omega, e⟩]
/-- their sum -/
def gmo (w : Nat → Int32) (m : Int32) : Nat → Int32 := fun q => if w (4 * q + 12) = -1 then 0 else moS m (w (4 * q + 11))
/-- the class's row -/
def cmS (f w : Nat → Int32) (m : Int32) (p : Nat) : Nat → Int32 := fun q => if q < p ∧ w (4 * q + 12) ≠ -1 then moS m (w (4 * q + 11)) else f q
theorem cmS_n (f w : Nat → Int32) (m : Int32) {p : Nat} (h : w (4 * p + 12) = -1) : cmS f w m (p + 1) = cmS f w m p := by
  funext q
  unfold cmS
  by_cases a : q < p ∧ w (4 * q + 12) ≠ -1
  · rw [if_pos a, if_pos ⟨by omega, a.2⟩]
  · rw [if_neg a, if_neg]
    rintro ⟨b, c⟩
    by_cases e : q = p
    · subst e; exact c h
    · exact a ⟨by omega, c⟩
theorem cmS_y (f w : Nat → Int32) (m : Int32) {p : Nat} (h : w (4 * p + 12) ≠ -1) : upd (cmS f w m p) p (moS m (w (4 * p + 11))) = cmS f w m (p + 1) := by
  funext q
  unfold upd
  by_cases e : q = p
  · rw [if_pos e]
    subst e
    unfold cmS
    rw [if_pos ⟨by omega, h⟩]
  · rw [if_neg e]
    unfold cmS
    by_cases a : q < p ∧ w (4 * q + 12) ≠ -1
    · rw [if_pos a, if_pos ⟨by omega, a.2⟩]
    · rw [if_neg a, if_neg]
      rintro ⟨b, c⟩
      exact a ⟨by omega, c⟩
section MO
variable {Θ : GP} {S : PZ} {ω : OW} {n : Nat}
theorem x_morn_L {w : Nat → Int32} (hC : CR S 14 w) (hW : WB w) {m : Int32} : ∀ (k p f : Nat) (a : Int32), p + k = cP w → k < f → L_X10_mornings_59 Θ f (gb Θ) m a (nI p) (laz Θ (uA S 17 (cmS (zA S 17) w m p)) ω) n = some (.inl (some (.int (adL (gmo w m) k p a)), laz Θ (uA S 17 (cmS (zA S 17) w m (cP w))) ω, n)) := by
  have h8 := hW.P8
  have h0 : zF S 14 0 = nI (cP w) := hC.1.1.trans h8.1
  intro k
  induction k with
  | zero =>
    intro p f a h1 h2
    obtain ⟨f, rfl⟩ : ∃ g, f = g + 1 := ⟨f - 1, by omega⟩
    unfold L_X10_mornings_59 B_X10_mornings_59
    rw [r10_0, a14_0, zF_uA, h0, if_pos (nI_le (by omega) (by omega)), show p = cP w by omega]
    rfl
  | succ k ih =>
    intro p f a h1 h2
    obtain ⟨f, rfl⟩ : ∃ g, f = g + 1 := ⟨f - 1, by omega⟩
    have hr := CRp hC (show p < cP w by omega)
    have hw := wh_neg (hW.2.2.2.2.2.2.2.1 p (by omega)).2.2.2
    have e18 : zA (uA S 17 (cmS (zA S 17) w m p)) 18 p = w (4 * p + 12) := hr.2.2.2
    unfold L_X10_mornings_59 B_X10_mornings_59 J_X10_mornings_118
    rw [r10_0, a14_0, zF_uA, h0, if_neg (nI_ge (by omega) (by omega)), r10_0, a14_10, l_18 (by omega), e18]
    by_cases hc : w (4 * p + 12) = -1
    · rw [if_pos (hw.mpr hc), nI_1, ← cmS_n (zA S 17) w m hc, ih (p + 1) f _ (by omega) (by omega)]
      simp only [adL, gmo, if_pos hc, Int32.add_zero]
    · rw [if_neg (fun z => hc (hw.mp z)), r10_0, a14_9, r10_0, a14_9, l_17 (by omega), zA_uA, if_pos rfl]
      have e1 : cmS (zA S 17) w m p p = w (4 * p + 11) := by
        unfold cmS
        rw [if_neg (by omega)]
        exact hr.2.2.1
      rw [e1, s_17 (by omega), uA_uA, r10_0, a14_9, l_17 (by omega), zA_uA, if_pos rfl, zA_uA, if_pos rfl]
      have e2 := cmS_y (zA S 17) w m hc
      unfold moS at e2
      rw [e2, nI_1]
      have e3 : cmS (zA S 17) w m (p + 1) p = moS m (w (4 * p + 11)) := by
        unfold cmS
        rw [if_pos ⟨by omega, hc⟩]
      rw [e3, ih (p + 1) f _ (by omega) (by omega)]
      simp only [adL, gmo, if_neg hc]
theorem m_morn_L {w : Nat → Int32} (hW : WB w) {m : Int32} : ∀ (k p f : Nat) (a : Int32), p + k = cP w → k < f → L_X11_mornings_38 Θ f (gb Θ + 218) m a (nI p) (laz Θ (uA S 219 (mwS w m p)) ω) n = some (.inl (some (.int (adL (gmo w m) k p a)), laz Θ (uA S 219 (upd (mwS w m (cP w)) 4 (if w 4 + m < 9999 then w 4 + m else 9999))) ω, n)) := by
  have h8 := hW.P8
  intro k
  induction k with
  | zero =>
    intro p f a h1 h2
    obtain ⟨f, rfl⟩ : ∃ g, f = g + 1 := ⟨f - 1, by omega⟩
    have e0 : zA (uA S 219 (mwS w m p)) 219 0 = nI (cP w) := by rw [zA_uA, if_pos rfl, mwS_ne _ _ _ (by omega)]; exact h8.1
    unfold L_X11_mornings_38 B_X11_mornings_38
    rw [d218, m_props, kI_v, e0, if_pos (nI_le (by omega) (by omega)), a218_1, a218_1, lI_lit, l_219 (by decide), sI_lit, s_219 (by decide), uA_uA, show p = cP w by omega]
    have e4 : zA (uA S 219 (mwS w m (cP w))) 219 4 = w 4 := by rw [zA_uA, if_pos rfl, mwS_ne _ _ _ (by omega)]
    rw [e4, zA_uA, if_pos rfl]
    rfl
  | succ k ih =>
    intro p f a h1 h2
    obtain ⟨f, rfl⟩ : ∃ g, f = g + 1 := ⟨f - 1, by omega⟩
    have e0 : zA (uA S 219 (mwS w m p)) 219 0 = nI (cP w) := by rw [zA_uA, if_pos rfl, mwS_ne _ _ _ (by omega)]; exact h8.1
    have e12 : zA (uA S 219 (mwS w m p)) 219 (4 * p + 12) = w (4 * p + 12) := by rw [zA_uA, if_pos rfl, mwS_ne _ _ _ (by omega)]
    have e11 : zA (uA S 219 (mwS w m p)) 219 (4 * p + 11) = w (4 * p + 11) := by rw [zA_uA, if_pos rfl, mwS_ne _ _ _ (by omega)]
    unfold L_X11_mornings_38 B_X11_mornings_38 J_X11_mornings_88
    rw [d218, m_props, kI_v, e0, if_neg (nI_ge (by omega) (by omega)), d218]
    by_cases hc : w (4 * p + 12) = -1
    · rw [m_isNailed_n (by omega) (e12.trans hc), kI_v, if_pos rfl, nI_1, ← mwS_n w m hc, ih (p + 1) f _ (by omega) (by omega)]
      simp only [adL, gmo, if_pos hc, Int32.add_zero]
    · rw [m_isNailed_y (by omega) (by rw [e12]; exact hc), kI_v, if_neg (by decide), a218_1]
      unfold F_X11_propAt
      rw [kI_v, ixp2, d218, m_ofProp2 (by omega), kI_v, e11, s_219 (by omega), uA_uA, zA_uA, if_pos rfl, d218, m_ofProp2 (by omega), kI_v, zA_uA, if_pos rfl]
      have e2 := mwS_y w m hc
      unfold moS at e2
      rw [e2, nI_1, mwS_at _ _ (by omega), if_neg hc, ih (p + 1) f _ (by omega) (by omega)]
      simp only [adL, gmo, if_neg hc]
end MO
theorem moS_rg {x : Int32} {k : Nat} (hx : Rg x 99) (hk : k ≤ 60) : Rg (moS (nI k) x) 99 := by
  obtain ⟨j, hj, rfl⟩ := hx
  unfold moS
  by_cases h : k < j
  · rw [nI_sub (by omega), if_pos (show (0 : Int32) < nI (j - k) from nI_lt (a := 0) (b := j - k) (by omega) (by omega))]
    exact ⟨j - k, by omega, rfl⟩
  · rw [if_neg]
    · exact ⟨0, by omega, rfl⟩
    · rw [Int32.lt_iff_toInt_lt, Int32.toInt_sub, nI_toInt (by omega), nI_toInt (by omega), Int32.toInt_zero]
      have : Int.bmod ((j : Int) - (k : Int)) (2 ^ 32) = (j : Int) - k := Int.bmod_eq_of_le (by omega) (by omega)
      rw [this]
      omega
theorem pc16 (Θ : GP) : PC_16 Θ (gb Θ) (gb Θ + 218) (gb Θ + 234) (Inv Θ) := by
  intro v xs i hI
  obtain ⟨S, ω, rfl, hC, hI⟩ := hI
  have hP := hC.P
  show stW Θ _ _ (fun ω n => W_mornings Θ (gb Θ) (xs (i + 1)) (gb Θ + 234) ω n) (fun ω n => F_X11_mornings Θ (gb Θ + 218) (xs (i + 1)) ω n) _ _
  generalize xs (i + 1) = v
  by_cases hv : ∃ s, (1 ≤ s ∧ s ≤ 60) ∧ v = nI s
  · obtain ⟨k, hk, rfl⟩ := hv
    refine fin_W fun n _ => ?_
    obtain ⟨S1, A, e1, r⟩ := x_remember (n := n) hC
    obtain ⟨dy, hd1, hd2⟩ := hC.1.1.2.2.2.1
    have hday : Rg (if zA S 219 4 + nI k < 9999 then zA S 219 4 + nI k else 9999) 9999 := by
      rw [hd2, nI_add]
      by_cases h : dy + k < 9999
      · rw [if_pos (show nI (dy + k) < 9999 from nI_lt (b := 9999) h (by decide))]
        exact ⟨dy + k, by omega, rfl⟩
      · rw [if_neg (show ¬ nI (dy + k) < 9999 from nI_nlt (b := 9999) (by omega) (by omega))]
        exact ⟨9999, by omega, rfl⟩
    let dv : Int32 := if zA S 219 4 + nI k < 9999 then zA S 219 4 + nI k else 9999
    let S2 := uF S1 14 5 dv
    have h2 : CR S2 14 (upd (zA S 219) 4 dv) := r.2.2.2.1.day dv
    have w2 : WB (upd (zA S 219) 4 dv) := hC.1.1.put (by omega) (fun _ => hday) (by omega) (by omega) (by omega) (fun p hp => ⟨by omega, by omega, by omega, by omega⟩) (fun a ha => ⟨by omega, by omega, by omega, by omega⟩)
    have eP : cP (upd (zA S 219) 4 dv) = cP (zA S 219) := by unfold cP; rw [upd_ne _ _ (by omega)]
    have eg : gmo (upd (zA S 219) 4 dv) (nI k) = gmo (zA S 219) (nI k) := by
      funext q; unfold gmo; rw [upd_ne _ _ (by omega), upd_ne _ _ (by omega)]
    have em : upd (mwS (zA S 219) (nI k) (cP (zA S 219))) 4 dv = mwS (upd (zA S 219) 4 dv) (nI k) (cP (zA S 219)) := by
      funext q
      by_cases z : q = 4
      · subst z; rw [upd_same, mwS_ne _ _ _ (by omega), upd_same]
      · rw [upd_ne _ _ z]
        unfold mwS
        by_cases y : q % 4 = 3 ∧ 11 ≤ q ∧ q < 4 * cP (zA S 219) + 11 ∧ zA S 219 (q + 1) ≠ -1
        · rw [if_pos y, if_pos ⟨y.1, y.2.1, y.2.2.1, by rw [upd_ne _ _ (by omega)]; exact y.2.2.2⟩, upd_ne _ _ z]
        · rw [if_neg y, if_neg, upd_ne _ _ z]
          rintro ⟨a, b, c, d⟩
          rw [upd_ne _ _ (by omega)] at d
          exact y ⟨a, b, c, d⟩
    let S3 := uA S2 17 (cmS (zA S2 17) (upd (zA S 219) 4 dv) (nI k) (cP (zA S 219)))
    let sm := adL (gmo (zA S 219) (nI k)) (cP (zA S 219)) 0 0
    refine ⟨0, uL S3 234 sm.toInt64, ω, ?_, fun n2 => ⟨sm, uA (rmM (uF (uL S3 234 sm.toInt64) 218 0 0) A) 219 (upd (mwS (zA S 219) (nI k) (cP (zA S 219))) 4 dv), n2, ?_, rfl, fun _ => rfl, ?_, ?_⟩⟩
    · show W_mornings Θ (gb Θ) (nI k) (gb Θ + 234) (laz Θ S ω) n = _
      unfold W_mornings F_X10_mornings
      have g5 : zF S1 14 5 = zA S 219 4 := r.2.2.2.1.1.2.2.2.2.2.1
      rw [c10w, if_neg (show ¬ nI k < 1 from nI_nlt (b := 1) (by omega) (by omega)), if_pos (show nI k ≤ 60 from nI_le (b := 60) (by omega) (by decide)), r10_4, r10_0, d50, e1, kV_v, r10_0, r10_0, a14_5, g5, b14_5]
      have e := x_morn_L (Θ := Θ) (S := S2) (ω := ω) (n := n) h2 w2 (m := nI k) (cP (zA S 219)) 0 5000 0 (by rw [eP]; omega) (by omega)
      have e0 : cmS (zA S2 17) (upd (zA S 219) 4 dv) (nI k) 0 = zA S2 17 := by
        funext q; unfold cmS; rw [if_neg (by omega)]
      rw [e0, uA_self, eP, eg] at e
      exact (congrArg (fun r => wrJ Θ (gb Θ + 234) "java/lang/IllegalArgumentException" r) e).trans wrJ_v
    · show F_X11_mornings Θ (gb Θ + 218) (nI k) (laz Θ _ ω) n2 = _
      unfold F_X11_mornings J_X11_mornings_21
      rw [b218_0, m_in1, kI_v, if_neg (by decide), d218, m_throwsIf0, kI_v, if_pos rfl, d218, m_remembers (A := A) (by exact r.2.1) r.1, kV_v]
      · have e := m_morn_L (Θ := Θ) (S := rmM (uF (uL S3 234 sm.toInt64) 218 0 0) A) (ω := ω) (n := n2) hC.1.1 (m := nI k) (cP (zA S 219)) 0 5000 0 (by omega) (by omega)
        have e9 : zA (rmM (uF (uL S3 234 sm.toInt64) 218 0 0) A) 219 = zA S 219 := r.2.2.2.2.1
        rw [mwS_0, ← e9, uA_self, e9] at e
        exact e
      · rintro (h | h)
        · exact nI_nlt (b := 1) (by omega) (by omega) h
        · exact nI_nlt (a := 60) (b := k) (by omega) (by omega) h
    · rw [em]
      refine Core.act r ((((KK.rf S1).nF rfl).nA rfl).nL.nF rfl) rfl (fun q hq => ?_) ?_ (CR.thr ?_)
      · rw [mwS_ne _ _ _ (by omega)]; exact upd_ne _ _ (by omega)
      · obtain ⟨h0, h1, h2', h4, h5, h6, h7, hp, ha, hdd⟩ := w2
        have ne : ∀ q, q % 4 ≠ 3 ∨ q < 11 ∨ 43 ≤ q → mwS (upd (zA S 219) 4 dv) (nI k) (cP (zA S 219)) q = upd (zA S 219) 4 dv q := fun q hq => mwS_ne _ _ _ (by omega)
        have ePm : cP (mwS (upd (zA S 219) 4 dv) (nI k) (cP (zA S 219))) = cP (upd (zA S 219) 4 dv) := congrArg Int32.toNatClampNeg (ne 0 (by omega))
        refine ⟨by rw [ne 0 (by omega)]; exact h0, by rw [ne 1 (by omega)]; exact h1, by rw [ne 2 (by omega)]; exact h2', by rw [ne 4 (by omega)]; exact h4, by rw [ne 5 (by omega)]; exact h5, by rw [ne 6 (by omega)]; exact h6, by rw [ne 7 (by omega)]; exact h7, fun p q => ?_, fun a q => ?_, fun p q a b c => ?_⟩
        · obtain ⟨a1, a2, a3, a4⟩ := hp p q
          refine ⟨by rw [ne _ (by omega)]; exact a1, by rw [ne _ (by omega)]; exact a2, ?_, by rw [ne _ (by omega)]; exact a4⟩
          by_cases hpp : p < cP (zA S 219)
          · rw [mwS_at _ _ hpp]
            split
            · exact a3
            · exact moS_rg a3 (by omega)
          · rw [mwS_ne _ _ _ (by omega)]; exact a3
        · rw [ne _ (by omega), ne _ (by omega), ne _ (by omega), ne _ (by omega)]; exact ha a q
        · rw [ePm] at b
          rw [ne _ (by omega), ne _ (by omega)] at c
          rw [ne _ (by omega)]
          exact hdd p q a b c
      · obtain ⟨c1, c2, c3, c4, c5, fr, c6, c7, c8⟩ := h2
        have ne : ∀ q, q % 4 ≠ 3 ∨ q < 11 ∨ 43 ≤ q → mwS (upd (zA S 219) 4 dv) (nI k) (cP (zA S 219)) q = upd (zA S 219) 4 dv q := fun q hq => mwS_ne _ _ _ (by omega)
        have ePm : cP (mwS (upd (zA S 219) 4 dv) (nI k) (cP (zA S 219))) = cP (upd (zA S 219) 4 dv) := congrArg Int32.toNatClampNeg (ne 0 (by omega))
        have eOm : cO' (mwS (upd (zA S 219) 4 dv) (nI k) (cP (zA S 219))) = cO' (upd (zA S 219) 4 dv) := congrArg Int32.toNatClampNeg (ne 1 (by omega))
        refine ⟨by rw [ne 0 (by omega), ne 1 (by omega), ne 2 (by omega), ne 4 (by omega), ne 5 (by omega), ne 6 (by omega), ne 8 (by omega)]; exact c1, fun q hq => ?_, fun s hs => ?_, fun a ha => ?_, by rw [ne 7 (by omega)]; exact c5, fr, c6, c7, fun ago hg j hj => ?_⟩
        · rw [ePm] at hq
          obtain ⟨a1, a2, a3, a4⟩ := c2 q hq
          refine ⟨by rw [ne _ (by omega)]; exact a1, by rw [ne _ (by omega)]; exact a2, ?_, by rw [ne _ (by omega)]; exact a4⟩
          rw [eP] at hq
          rw [mwS_at _ _ hq]
          show cmS (zA S2 17) (upd (zA S 219) 4 dv) (nI k) (cP (zA S 219)) q = _
          unfold cmS
          by_cases z : upd (zA S 219) 4 dv (4 * q + 12) = -1
          · rw [if_neg (fun y => y.2 z), if_pos z]; exact a3
          · rw [if_pos ⟨hq, z⟩, if_neg z]
        · rw [pin_congr (w := upd (zA S 219) 4 dv) (ne 0 (by omega)) (fun q z => by rw [ne _ (by omega)])]
          exact c3 s hs
        · rw [eOm] at ha
          rw [ne _ (by omega), ne _ (by omega), ne _ (by omega), ne _ (by omega)]
          exact c4 a ha
        · rw [ne 7 (by omega)] at hg
          rw [ne _ (by omega)]
          exact c8 ago hg j hj
    · exact ((((((r.idle hI).nF (by omega)).nA (by omega)).nL).nF (by omega)).rm A).nA (by omega)
  · have hq : v < 1 ∨ (¬ v < 1 ∧ ¬ v ≤ 60) := by
      by_cases h : v < 1
      · exact Or.inl h
      · refine Or.inr ⟨h, fun h2 => ?_⟩
        have hn : ¬ v < 0 := fun z => h (by
          rw [Int32.lt_iff_toInt_lt] at z ⊢
          rw [Int32.toInt_zero] at z
          rw [show (1 : Int32).toInt = 1 by decide]
          omega)
        obtain ⟨j, hj, rfl⟩ := nI_of hn
        have h3 := (nI_leI (b := 60) hj (by decide)).mp h2
        have h4 : ¬ j < 1 := fun z => h (nI_lt (b := 1) z (by decide))
        exact hv ⟨j, ⟨by omega, h3⟩, rfl⟩
    refine fin_W fun n _ => ⟨1, S, ω, ?_, fun n2 => ⟨0, uF (uF S 218 0 0) 218 0 1, n2, ?_, rfl, fun h => absurd h (by decide), hC.thr.thr, hI.thr.thr⟩⟩
    · show W_mornings Θ (gb Θ) v (gb Θ + 234) (laz Θ S ω) n = _
      unfold W_mornings F_X10_mornings J_X10_mornings_11
      rcases hq with q | ⟨q1, q2⟩
      · rw [c10w, if_pos q, wrJ_x]
      · rw [c10w, if_neg q1, if_neg q2, wrJ_x]
    · show F_X11_mornings Θ (gb Θ + 218) v (laz Θ S ω) n2 = _
      unfold F_X11_mornings J_X11_mornings_21
      rw [b218_0, m_in0, kI_v, if_pos rfl, d218, m_throwsIf1, kI_v, if_neg (by decide)]
      rcases hq with q | ⟨q1, q2⟩
      · exact Or.inl q
      · refine Or.inr ?_
        rw [Int32.lt_iff_toInt_lt]
        rw [Int32.le_iff_toInt_le] at q2
        omega
