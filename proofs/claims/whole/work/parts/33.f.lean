/-! promises 12, 13: a prop is nailed up, taken down -/
theorem WB.P8 {w : Nat → Int32} (h : WB w) : w 0 = nI (cP w) ∧ cP w ≤ 8 := by
  obtain ⟨k, h1, h2⟩ := h.1
  have e : cP w = k := by unfold cP; rw [h2]; exact nI_clamp (by omega)
  rw [e]; exact ⟨h2, h1⟩
theorem WB.O6 {w : Nat → Int32} (h : WB w) : w 1 = nI (cO' w) ∧ cO' w ≤ 6 := by
  obtain ⟨k, h1, h2⟩ := h.2.1
  have e : cO' w = k := by unfold cO'; rw [h2]; exact nI_clamp (by omega)
  rw [e]; exact ⟨h2, h1⟩
theorem WB.slot {w : Nat → Int32} {p : Nat} {v : Int32} (h : WB w) (hp8 : p < 8) (hv : v = -1 ∨ Rg v 9) (hq : ∀ q, q < cP w → q ≠ p → w (4 * q + 12) = v → v = -1) : WB (upd w (4 * p + 12) v) := by
  have h8 := h.P8
  obtain ⟨h0, h1, h2, h4, h5, h6, h7, hp, ha, hd⟩ := h
  have e : ∀ k, k ≠ 4 * p + 12 → upd w (4 * p + 12) v k = w k := fun k hk => upd_ne _ _ hk
  have eP : cP (upd w (4 * p + 12) v) = cP w := by unfold cP; rw [e 0 (by omega)]
  refine ⟨by rw [e 0 (by omega)]; exact h0, by rw [e 1 (by omega)]; exact h1, by rw [e 2 (by omega)]; exact h2, by rw [e 4 (by omega)]; exact h4, by rw [e 5 (by omega)]; exact h5, by rw [e 6 (by omega)]; exact h6, by rw [e 7 (by omega)]; exact h7, fun q z => ?_, fun a z => ?_, fun a b c d x => ?_⟩
  · obtain ⟨a1, a2, a3, a4⟩ := hp q z
    refine ⟨by rw [e _ (by omega)]; exact a1, by rw [e _ (by omega)]; exact a2, by rw [e _ (by omega)]; exact a3, ?_⟩
    by_cases y : q = p
    · subst y; rw [upd_same]; exact hv
    · rw [e _ (by omega)]; exact a4
  · rw [e _ (by omega), e _ (by omega), e _ (by omega), e _ (by omega)]; exact ha a z
  · rw [eP] at d
    by_cases ya : a = p
    · subst ya
      rw [upd_same] at x ⊢
      rw [e _ (by omega)] at x
      exact hq b d (by omega) x.symm
    · by_cases yb : b = p
      · subst yb
        rw [upd_same, e _ (by omega)] at x
        rw [e _ (by omega), x]
        exact hq a (by omega) ya x
      · rw [e _ (by omega), e _ (by omega)] at x
        rw [e _ (by omega)]
        exact hd a b c d x
theorem CR.slot {S S' : PZ} {w : Nat → Int32} {p : Nat} {v : Int32} (h : CR S 14 w) (hp : p < 8) (h8 : cP w ≤ 8) (f : ∀ k j, 14 ≤ k → k < 26 → zF S' k j = zF S k j) (g : ∀ k, 14 ≤ k → k < 26 → k ≠ 18 → k ≠ 19 → zA S' k = zA S k) (h18 : zA S' 18 = upd (zA S 18) p v) (ht : ∀ t, t < 10 → zA S' 19 t = pin (upd w (4 * p + 12) v) (nI t)) : CR S' 14 (upd w (4 * p + 12) v) := by
  obtain ⟨h1, h2, h3, h4, h5, fr, h6, h7, h9⟩ := h
  have e : ∀ k, k ≠ 4 * p + 12 → upd w (4 * p + 12) v k = w k := fun k hk => upd_ne _ _ hk
  have eP : cP (upd w (4 * p + 12) v) = cP w := by unfold cP; rw [e 0 (by omega)]
  have eO : cO' (upd w (4 * p + 12) v) = cO' w := by unfold cO'; rw [e 1 (by omega)]
  refine ⟨?_, fun q hq => ?_, ht, fun a ha => ?_, by rw [f _ _ (by decide) (by decide), e 7 (by omega)]; exact h5, fr, h6, by rw [f _ _ (by decide) (by decide)]; exact h7, fun ago hg j hj => ?_⟩
  · rw [f _ _ (by decide) (by decide), f _ _ (by decide) (by decide), f _ _ (by decide) (by decide), f _ _ (by decide) (by decide), f _ _ (by decide) (by decide), f _ _ (by decide) (by decide), f _ _ (by decide) (by decide), e 0 (by omega), e 1 (by omega), e 2 (by omega), e 4 (by omega), e 5 (by omega), e 6 (by omega), e 8 (by omega)]
    exact h1
  · rw [eP] at hq
    obtain ⟨a1, a2, a3, a4⟩ := h2 q hq
    refine ⟨by rw [g _ (by decide) (by decide) (by decide) (by decide), e _ (by omega)]; exact a1, by rw [g _ (by decide) (by decide) (by decide) (by decide), e _ (by omega)]; exact a2, by rw [g _ (by decide) (by decide) (by decide) (by decide), e _ (by omega)]; exact a3, ?_⟩
    show zA S' 18 q = _
    rw [h18]
    unfold upd
    by_cases z : q = p
    · rw [if_pos z, if_pos (by omega)]
    · rw [if_neg z, if_neg (by omega)]; exact a4
  · rw [eO] at ha
    rw [g _ (by decide) (by decide) (by decide) (by decide), g _ (by decide) (by decide) (by decide) (by decide), g _ (by decide) (by decide) (by decide) (by decide), g _ (by decide) (by decide) (by decide) (by decide), e _ (by omega), e _ (by omega), e _ (by omega), e _ (by omega)]
    exact h4 a ha
  · rw [e 7 (by omega)] at hg
    rw [g _ (by decide) (by decide) (by decide) (by decide), e _ (by omega)]
    exact h9 ago hg j hj
theorem pin_nail {w : Nat → Int32} {p s : Nat} (h : WB w) (hp : p < cP w) (hs : s < 10) (h1 : w (4 * p + 12) = -1) (h2 : pin w (nI s) = -1) : ∀ t, t < 10 → pin (upd w (4 * p + 12) (nI s)) (nI t) = if t = s then nI p else pin w (nI t) := by
  have h8 := h.P8
  have e : ∀ k, k ≠ 4 * p + 12 → upd w (4 * p + 12) (nI s) k = w k := fun k hk => upd_ne _ _ hk
  have eP : cP (upd w (4 * p + 12) (nI s)) = cP w := by unfold cP; rw [e 0 (by omega)]
  have hno : ∀ q, q < cP w → w (4 * q + 12) ≠ nI s := by
    rcases pin_cases w (nI s) with ⟨_, z⟩ | ⟨q, z1, z2, _⟩
    · exact z
    · rw [h2] at z2; exact ((q_m1' (by omega)).mp z2).elim
  intro t ht
  by_cases hts : t = s
  · rw [if_pos hts, hts]
    rcases pin_cases (upd w (4 * p + 12) (nI s)) (nI s) with ⟨_, z⟩ | ⟨q, z1, z2, z3⟩
    · exact absurd (upd_same _ _ _) (z p (by omega))
    · rw [z2]
      by_cases hq : q = p
      · rw [hq]
      · rw [e _ (by omega)] at z3
        exact absurd z3 (hno q (by omega))
  · rw [if_neg hts]
    refine pin_congr (e 0 (by omega)) (fun q hq => ?_)
    by_cases hqp : q = p
    · subst hqp
      rw [upd_same, h1, nI_eq (by omega) (by omega), q_m1' (by omega)]
      exact ⟨fun z => absurd z.symm hts, False.elim⟩
    · rw [e _ (by omega)]
theorem pin_down {w : Nat → Int32} {p s : Nat} (h : WB w) (hp : p < cP w) (hs : s < 10) (h1 : w (4 * p + 12) = nI s) : ∀ t, t < 10 → pin (upd w (4 * p + 12) (-1)) (nI t) = if t = s then -1 else pin w (nI t) := by
  have h8 := h.P8
  have e : ∀ k, k ≠ 4 * p + 12 → upd w (4 * p + 12) (-1) k = w k := fun k hk => upd_ne _ _ hk
  have eP : cP (upd w (4 * p + 12) (-1)) = cP w := by unfold cP; rw [e 0 (by omega)]
  intro t ht
  by_cases hts : t = s
  · rw [if_pos hts, hts]
    rcases pin_cases (upd w (4 * p + 12) (-1)) (nI s) with ⟨z, _⟩ | ⟨q, z1, z2, z3⟩
    · exact z
    · exfalso
      by_cases hq : q = p
      · subst hq
        rw [upd_same] at z3
        exact (q_m1' (by omega)).mp z3
      · rw [e _ (by omega)] at z3
        rw [eP] at z1
        rcases Nat.lt_or_gt_of_ne hq with y | y
        · have := h.2.2.2.2.2.2.2.2.2 q p y hp (z3.trans h1.symm)
          rw [z3] at this
          exact (q_m1 (by omega)).mp this
        · have := h.2.2.2.2.2.2.2.2.2 p q y z1 (h1.trans z3.symm)
          rw [h1] at this
          exact (q_m1 (by omega)).mp this
  · rw [if_neg hts]
    refine pin_congr (e 0 (by omega)) (fun q hq => ?_)
    by_cases hqp : q = p
    · subst hqp
      rw [upd_same, h1, nI_eq (by omega) (by omega), q_m1' (by omega)]
      exact ⟨False.elim, fun z => absurd z.symm hts⟩
    · rw [e _ (by omega)]
/-- one prop a slot -/
theorem pin_of {w : Nat → Int32} {s p : Nat} (h : WB w) (hp : p < cP w) (hs : s < 2 ^ 31) (h1 : w (4 * p + 12) = nI s) : pin w (nI s) = nI p := by
  rcases pin_cases w (nI s) with ⟨_, z⟩ | ⟨q, z1, z2, z3⟩
  · exact absurd h1 (z p hp)
  · rw [z2]
    by_cases hq : q = p
    · rw [hq]
    · exfalso
      rcases Nat.lt_or_gt_of_ne hq with y | y
      · have := h.2.2.2.2.2.2.2.2.2 q p y hp (z3.trans h1.symm)
        rw [z3] at this
        exact (q_m1 (by omega)).mp this
      · have := h.2.2.2.2.2.2.2.2.2 p q y z1 (h1.trans z3.symm)
        rw [h1] at this
        exact (q_m1 (by omega)).mp this
theorem m_isNailed_y {Θ : GP} {S : PZ} {ω : OW} {n p : Nat} (hp : p < 8) (h : ¬ zA S 219 (4 * p + 12) = -1) : F_X11_isNailed Θ (gb Θ + 218) (nI p) (laz Θ S ω) n = some (.inl (some (.int 1), laz Θ S ω, n)) := by
  rw [m_isNailed hp, if_neg h]
theorem m_isNailed_n {Θ : GP} {S : PZ} {ω : OW} {n p : Nat} (hp : p < 8) (h : zA S 219 (4 * p + 12) = -1) : F_X11_isNailed Θ (gb Θ + 218) (nI p) (laz Θ S ω) n = some (.inl (some (.int 0), laz Θ S ω, n)) := by
  rw [m_isNailed hp, if_pos h]
theorem m_propIn' {Θ : GP} {S : PZ} {ω : OW} {n : Nat} {s : Int32} {w : Nat → Int32} (hw : zA S 219 = w) (h : WB w) : F_X11_propIn Θ (gb Θ + 218) s (laz Θ S ω) n = some (.inl (some (.int (pin w s)), laz Θ S ω, n)) := by
  subst hw
  exact m_propIn h.P8.1 h.P8.2
theorem pc10 (Θ : GP) : PC_10 Θ (gb Θ) (gb Θ + 218) (gb Θ + 234) (Inv Θ) := by
  intro v xs i hI
  obtain ⟨S, ω, rfl, hC, hI⟩ := hI
  have hP := hC.P
  show stU Θ _ (fun ω n => W_nail Θ (gb Θ) (xs (i + 1)) (xs (i + 2)) ω n) (fun ω n => F_X11_nail Θ (gb Θ + 218) (xs (i + 1)) (xs (i + 2)) ω n) _ _
  generalize xs (i + 1) = v
  generalize xs (i + 2) = u
  by_cases hv : ∃ s, s < cP (zA S 219) ∧ v = nI s
  · obtain ⟨p, hp, rfl⟩ := hv
    have hr := CRp hC.1.2.1 hp
    have hsl := (hC.1.1.2.2.2.2.2.2.2.1 p (by omega)).2.2.2
    by_cases hu : ∃ s, s < 10 ∧ u = nI s
    · obtain ⟨s, hs, rfl⟩ := hu
      have ht := CRt hC.1.2.1 hs
      by_cases h1 : zA S 219 (4 * p + 12) = -1
      · by_cases h2 : pin (zA S 219) (nI s) = -1
        · refine fin_U fun n _ => ?_
          obtain ⟨S1, A, e1, r⟩ := x_remember (n := n) hC
          have r9 : zA (rmM (uF (uA (uA S1 18 (upd (zA S1 18) p (nI s))) 19 (upd (zA S1 19) s (nI p))) 218 0 0) A) 219 = zA S 219 := r.2.2.2.2.1
          refine ⟨0, uA (uA S1 18 (upd (zA S1 18) p (nI s))) 19 (upd (zA S1 19) s (nI p)), ω, ?_, fun n2 => ⟨uA (rmM (uF (uA (uA S1 18 (upd (zA S1 18) p (nI s))) 19 (upd (zA S1 19) s (nI p))) 218 0 0) A) 219 (upd (zA S 219) (4 * p + 12) (nI s)), n2, ?_, rfl, ?_, ?_⟩⟩
          · show W_nail Θ (gb Θ) (nI p) (nI s) (laz Θ S ω) n = _
            unfold W_nail F_X10_nail F_X0_hang
            rw [c10w, c10, x_needProp_y hC hp, kV_v, c10, x_needSlot_y hs, kV_v, r10_0, a14_10, l_18 (by omega), hr.2.2.2, h1, if_neg (by decide), r10_0, a14_11, l_19 hs, ht, h2, if_pos (by decide), r10_4, r10_0, d50, e1, kV_v, r10_0, d14, a14_10, s_18 (by omega), a14_11, s_19 hs, kV_v, wrV_v]
            rfl
          · show F_X11_nail Θ (gb Θ + 218) (nI p) (nI s) (laz Θ _ ω) n2 = _
            unfold F_X11_nail J_X11_nail_26 J_X11_nail_56 F_X11_propAt
            rw [b218_0, d218, m_noProp_y (P := cP (zA S 219)) (by rw [← hP.1]; exact congrFun r.2.2.2.2.1 0) hP.2.1 hp, kI_v, if_pos rfl, m_noSlot_y hs, kI_v, if_pos rfl, d218, m_throwsIf0, kI_v, if_pos rfl, d218, m_isNailed_n (by omega) (by exact (congrFun r.2.2.2.2.1 _).trans h1), kI_v, if_pos rfl, d218, m_propIn' (w := zA S 219) (by exact r.2.2.2.2.1) hC.1.1, kI_v, if_pos h2, d218, m_throwsIf0, kI_v, if_pos rfl, d218, m_remembers (A := A) (by exact r.2.1) r.1, kV_v, a218_1, kI_v, ixp3, s_219 (by omega), r9]
          · refine Core.act r ((((KK.rf S1).nA rfl).nA rfl).nF rfl) rfl (fun k q => upd_ne _ _ (by omega)) (hC.1.1.slot (by omega) (Or.inr ⟨s, by omega, rfl⟩) (fun q hq _ z => ?_)) ((r.2.2.2.1.slot (S' := uA (uA S1 18 (upd (zA S1 18) p (nI s))) 19 (upd (zA S1 19) s (nI p))) (by omega) hP.2.1 (fun k j _ _ => rfl) (fun k _ _ a b => by rw [zA_uA, if_neg b, zA_uA, if_neg a]) rfl (fun t ht => ?_)).thr0)
            · rcases pin_cases (zA S 219) (nI s) with ⟨_, y⟩ | ⟨q', _, y, _⟩
              · exact absurd z (y q hq)
              · rw [h2] at y; exact ((q_m1' (by omega)).mp y).elim
            · rw [pin_nail hC.1.1 hp hs h1 h2 t ht]
              show upd (zA S1 19) s (nI p) t = _
              unfold upd
              rw [show zA S1 19 t = pin (zA S 219) (nI t) from CRt r.2.2.2.1 ht]
          · exact (((((r.idle hI).nA (by omega)).nA (by omega)).nF (by omega)).rm A).nA (by omega)
        · refine fin_U fun n _ => ⟨2, S, ω, ?_, fun n2 => ⟨uF (uF S 218 0 0) 218 0 2, n2, ?_, rfl, hC.thr.thr, hI.thr.thr⟩⟩
          · show W_nail Θ (gb Θ) (nI p) (nI s) (laz Θ S ω) n = _
            unfold W_nail F_X10_nail J_X10_nail_34
            rw [c10w, c10, x_needProp_y hC hp, kV_v, c10, x_needSlot_y hs, kV_v, r10_0, a14_10, l_18 (by omega), hr.2.2.2, h1, if_neg (by decide), r10_0, a14_11, l_19 hs, ht, if_neg (fun z => h2 ((pin_neg hP.2.1).mp z)), wrV_x2 is_ne]
          · show F_X11_nail Θ (gb Θ + 218) (nI p) (nI s) (laz Θ S ω) n2 = _
            unfold F_X11_nail J_X11_nail_26 J_X11_nail_51 J_X11_nail_56 J_X11_nail_63
            rw [b218_0, d218, m_noProp_y (by exact hP.1) hP.2.1 hp, kI_v, if_pos rfl, m_noSlot_y hs, kI_v, if_pos rfl, d218, m_throwsIf0, kI_v, if_pos rfl, d218, m_isNailed_n (by omega) (by exact h1), kI_v, if_pos rfl, d218, m_propIn' (w := zA S 219) (by rfl) hC.1.1, kI_v, if_neg h2, d218, m_throwsIf1, kI_v, if_neg (by decide)]
      · refine fin_U fun n _ => ⟨2, S, ω, ?_, fun n2 => ⟨uF (uF S 218 0 0) 218 0 2, n2, ?_, rfl, hC.thr.thr, hI.thr.thr⟩⟩
        · show W_nail Θ (gb Θ) (nI p) (nI s) (laz Θ S ω) n = _
          unfold W_nail F_X10_nail J_X10_nail_34
          rw [c10w, c10, x_needProp_y hC hp, kV_v, c10, x_needSlot_y hs, kV_v, r10_0, a14_10, l_18 (by omega), hr.2.2.2, if_pos (q_nlt.mp (fun z => h1 ((wh_neg hsl).mp z))), wrV_x2 is_ne]
        · show F_X11_nail Θ (gb Θ + 218) (nI p) (nI s) (laz Θ S ω) n2 = _
          unfold F_X11_nail J_X11_nail_26 J_X11_nail_51 J_X11_nail_56 J_X11_nail_63
          rw [b218_0, d218, m_noProp_y (by exact hP.1) hP.2.1 hp, kI_v, if_pos rfl, m_noSlot_y hs, kI_v, if_pos rfl, d218, m_throwsIf0, kI_v, if_pos rfl, d218, m_isNailed_y (by omega) (by exact h1), kI_v, if_neg (by decide), d218, m_throwsIf1, kI_v, if_neg (by decide)]
    · refine fin_U fun n _ => ⟨1, S, ω, ?_, fun n2 => ⟨uF (uF S 218 0 0) 218 0 1, n2, ?_, rfl, hC.thr.thr, hI.thr.thr⟩⟩
      · show W_nail Θ (gb Θ) (nI p) u (laz Θ S ω) n = _
        unfold W_nail F_X10_nail
        rw [c10w, c10, x_needProp_y hC hp, kV_v, c10, x_needSlot_n hu, kV_x, wrV_x1]
      · show F_X11_nail Θ (gb Θ + 218) (nI p) u (laz Θ S ω) n2 = _
        unfold F_X11_nail J_X11_nail_21 J_X11_nail_26 J_X11_nail_63
        rw [b218_0, d218, m_noProp_y (by exact hP.1) hP.2.1 hp, kI_v, if_pos rfl, m_noSlot_n hu, kI_v, if_neg (by decide), d218, m_throwsIf1, kI_v, if_neg (by decide)]
  · refine fin_U fun n _ => ⟨1, S, ω, ?_, fun n2 => ⟨uF (uF S 218 0 0) 218 0 1, n2, ?_, rfl, hC.thr.thr, hI.thr.thr⟩⟩
    · show W_nail Θ (gb Θ) v u (laz Θ S ω) n = _
      unfold W_nail F_X10_nail
      rw [c10w, c10, x_needProp_n hC hv, kV_x, wrV_x1]
    · show F_X11_nail Θ (gb Θ + 218) v u (laz Θ S ω) n2 = _
      unfold F_X11_nail J_X11_nail_21 J_X11_nail_26 J_X11_nail_63
      rw [b218_0, d218, m_noProp_n (by exact hP.1) hP.2.1 hv, kI_v, if_neg (by decide), d218, m_throwsIf1, kI_v, if_neg (by decide)]
theorem pc11 (Θ : GP) : PC_11 Θ (gb Θ) (gb Θ + 218) (gb Θ + 234) (Inv Θ) := by
  intro v xs i hI
  obtain ⟨S, ω, rfl, hC, hI⟩ := hI
  have hP := hC.P
  show stW Θ _ _ (fun ω n => W_down Θ (gb Θ) (xs (i + 1)) (gb Θ + 234) ω n) (fun ω n => F_X11_down Θ (gb Θ + 218) (xs (i + 1)) ω n) _ _
  generalize xs (i + 1) = v
  by_cases hv : ∃ s, s < 10 ∧ v = nI s
  · obtain ⟨s, hs, rfl⟩ := hv
    have ht := CRt hC.1.2.1 hs
    rcases pin_cases (zA S 219) (nI s) with ⟨hn, _⟩ | ⟨p, hp, hy, hw⟩
    · refine fin_W fun n _ => ⟨2, S, ω, ?_, fun n2 => ⟨0, uF (uF S 218 0 0) 218 0 2, n2, ?_, rfl, fun h => absurd h (by decide), hC.thr.thr, hI.thr.thr⟩⟩
      · show W_down Θ (gb Θ) (nI s) (gb Θ + 234) (laz Θ S ω) n = _
        unfold W_down F_X10_down
        rw [c10w, c10, x_needSlot_y hs, kV_v, r10_0, a14_11, l_19 hs, ht, hn, if_neg (by decide), wrI_x2 is_ne]
      · show F_X11_down Θ (gb Θ + 218) (nI s) (laz Θ S ω) n2 = _
        unfold F_X11_down J_X11_down_32 J_X11_down_39
        rw [b218_0, m_noSlot_y hs, kI_v, d218, m_throwsIf0, kI_v, if_pos rfl, d218, m_propIn' (w := zA S 219) (by rfl) hC.1.1, kI_v, if_pos hn, d218, m_throwsIf1, kI_v, if_neg (by decide)]
    · refine fin_W fun n _ => ?_
      obtain ⟨S1, A, e1, r⟩ := x_remember (n := n) hC
      have r9 : zA (rmM (uF (uL (uA (uA S1 19 (upd (zA S1 19) s (-1))) 18 (upd (zA S1 18) p (-1))) 234 (nI p).toInt64) 218 0 0) A) 219 = zA S 219 := r.2.2.2.2.1
      refine ⟨0, uL (uA (uA S1 19 (upd (zA S1 19) s (-1))) 18 (upd (zA S1 18) p (-1))) 234 (nI p).toInt64, ω, ?_, fun n2 => ⟨nI p, uA (rmM (uF (uL (uA (uA S1 19 (upd (zA S1 19) s (-1))) 18 (upd (zA S1 18) p (-1))) 234 (nI p).toInt64) 218 0 0) A) 219 (upd (zA S 219) (4 * p + 12) (-1)), n2, ?_, rfl, fun _ => rfl, ?_, ?_⟩⟩
      · show W_down Θ (gb Θ) (nI s) (gb Θ + 234) (laz Θ S ω) n = _
        unfold W_down F_X10_down
        rw [c10w, c10, x_needSlot_y hs, kV_v, r10_0, a14_11, l_19 hs, ht, hy, if_pos (nI_pos' (by omega)), r10_4, r10_0, d50, e1, kV_v, r10_0, a14_11, s_19 hs, r10_0, a14_10, s_18 (by omega), wrI_v]
        rfl
      · show F_X11_down Θ (gb Θ + 218) (nI s) (laz Θ _ ω) n2 = _
        unfold F_X11_down J_X11_down_32 F_X11_propAt
        rw [b218_0, m_noSlot_y hs, kI_v, d218, m_throwsIf0, kI_v, if_pos rfl, d218, m_propIn' (w := zA S 219) (by exact r.2.2.2.2.1) hC.1.1, kI_v, if_neg (by rw [hy, q_m1 (by omega)]; exact id), d218, m_throwsIf0, kI_v, if_pos rfl, d218, m_remembers (A := A) (by exact r.2.1) r.1, kV_v, d218, m_propIn' (w := zA S 219) (by exact r.2.2.2.2.1) hC.1.1, kI_v, a218_1, hy, kI_v, ixp3, s_219 (by omega), r9]
      · refine Core.act r ((((KK.rf S1).nA rfl).nA rfl).nL.nF rfl) rfl (fun k q => upd_ne _ _ (by omega)) (hC.1.1.slot (by omega) (Or.inl rfl) (fun _ _ _ _ => rfl)) ((r.2.2.2.1.slot (S' := uA (uA S1 19 (upd (zA S1 19) s (-1))) 18 (upd (zA S1 18) p (-1))) (by omega) hP.2.1 (fun k j _ _ => rfl) (fun k _ _ a b => by rw [zA_uA, if_neg a, zA_uA, if_neg b]) rfl (fun t ht => ?_)).thr)
        rw [pin_down hC.1.1 hp hs hw t ht]
        show upd (zA S1 19) s (-1) t = _
        unfold upd
        rw [show zA S1 19 t = pin (zA S 219) (nI t) from CRt r.2.2.2.1 ht]
      · exact ((((((r.idle hI).nA (by omega)).nA (by omega)).nL).nF (by omega)).rm A).nA (by omega)
  · refine fin_W fun n _ => ⟨1, S, ω, ?_, fun n2 => ⟨0, uF (uF S 218 0 0) 218 0 1, n2, ?_, rfl, fun h => absurd h (by decide), hC.thr.thr, hI.thr.thr⟩⟩
    · show W_down Θ (gb Θ) v (gb Θ + 234) (laz Θ S ω) n = _
      unfold W_down F_X10_down
      rw [c10w, c10, x_needSlot_n hv, kV_x, wrI_x1]
    · show F_X11_down Θ (gb Θ + 218) v (laz Θ S ω) n2 = _
      unfold F_X11_down J_X11_down_39
      rw [b218_0, m_noSlot_n hv, kI_v, d218, m_throwsIf1, kI_v, if_neg (by decide)]
