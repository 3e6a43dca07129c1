/-! sent: what is laid on the court, the log -/
theorem WB.lo {w w' : Nat → Int32} (h : WB w) (e : ∀ i, i < 65 → i ≠ 7 → w' i = w i) (h7 : Rg (w' 7) 60) : WB w' := by
  obtain ⟨h0, h1, h2, h4, h5, h6, _, hp, ha, hd⟩ := h
  have eP : cP w' = cP w := congrArg Int32.toNatClampNeg (e 0 (by omega) (by omega))
  have h8 : cP w ≤ 8 := by
    obtain ⟨k, h1, h2⟩ := h0
    unfold cP; rw [h2, nI_clamp (by omega)]; exact h1
  refine ⟨by rw [e 0 (by omega) (by omega)]; exact h0, by rw [e 1 (by omega) (by omega)]; exact h1, by rw [e 2 (by omega) (by omega)]; exact h2, by rw [e 4 (by omega) (by omega)]; exact h4, by rw [e 5 (by omega) (by omega)]; exact h5, by rw [e 6 (by omega) (by omega)]; exact h6, h7, fun p hp' => ?_, fun a ha' => ?_, fun p q h1 h2 => ?_⟩
  · rw [e _ (by omega) (by omega), e _ (by omega) (by omega), e _ (by omega) (by omega), e _ (by omega) (by omega)]; exact hp p hp'
  · rw [e _ (by omega) (by omega), e _ (by omega) (by omega), e _ (by omega) (by omega), e _ (by omega) (by omega)]; exact ha a ha'
  · rw [eP] at h2
    rw [e _ (by omega) (by omega), e _ (by omega) (by omega)]; exact hd p q h1 h2
/-- one more row of the log -/
def lgW (w : Nat → Int32) (v0 v1 v2 v3 : Int32) : Nat → Int32 := fun i => if i = 7 then (if w 7 + 1 < 60 then w 7 + 1 else 60) else if i = 68 then v3 else if i = 67 then v2 else if i = 66 then v1 else if i = 65 then v0 else if 69 ≤ i ∧ i ≤ 304 then w (i - 4) else w i
theorem lgW_ne (w : Nat → Int32) (v0 v1 v2 v3 : Int32) {i : Nat} (h : i ≠ 7) (h2 : i < 65 ∨ 304 < i) : lgW w v0 v1 v2 v3 i = w i := by
  unfold lgW
  rw [if_neg h, if_neg (by omega), if_neg (by omega), if_neg (by omega), if_neg (by omega), if_neg (by omega)]
theorem lgW_7 {w : Nat → Int32} {v0 v1 v2 v3 : Int32} {R : Nat} (h : w 7 = nI R) (h60 : R ≤ 60) : lgW w v0 v1 v2 v3 7 = nI (min 60 (R + 1)) ∧ lgW w v0 v1 v2 v3 7 = if w 7 + 1 < 60 then w 7 + 1 else 60 := by
  have e : lgW w v0 v1 v2 v3 7 = if w 7 + 1 < 60 then w 7 + 1 else 60 := if_pos rfl
  refine ⟨?_, e⟩
  rw [e, h, nI_1]
  by_cases z : R + 1 < 60
  · rw [if_pos (show nI (R + 1) < 60 from nI_lt (b := 60) z (by decide)), Nat.min_eq_right (by omega)]
  · rw [if_neg (show ¬ nI (R + 1) < 60 from nI_nlt (b := 60) (by omega) (by omega)), Nat.min_eq_left (by omega)]; rfl
theorem lgW_sh (w : Nat → Int32) (v0 v1 v2 v3 : Int32) {i : Nat} (h : 69 ≤ i ∧ i ≤ 304) : lgW w v0 v1 v2 v3 i = w (i - 4) := by
  unfold lgW
  rw [if_neg (by omega), if_neg (by omega), if_neg (by omega), if_neg (by omega), if_neg (by omega), if_pos h]
theorem lgW_wb {w : Nat → Int32} (h : WB w) (v0 v1 v2 v3 : Int32) : WB (lgW w v0 v1 v2 v3) := by
  obtain ⟨R, h60, hR⟩ := h.2.2.2.2.2.2.1
  exact h.lo (fun i h1 h2 => lgW_ne _ _ _ _ _ h2 (Or.inl h1)) ⟨min 60 (R + 1), by omega, (lgW_7 hR h60).1⟩
theorem CR.wornAll {S : PZ} {w w' f : Nat → Int32} (h : CR S 14 w) (h8 : cP w ≤ 8) (e : ∀ k, (k % 4 ≠ 3 ∨ k < 11 ∨ 4 * cP w + 11 ≤ k) → w' k = w k) (hf : ∀ p, p < cP w → f p = w' (4 * p + 11)) : CR (uA S 17 f) 14 w' := by
  obtain ⟨h1, h2, h3, h4, h5, fr, h6, h7, h9⟩ := h
  have eP : cP w' = cP w := by unfold cP; rw [e 0 (by omega)]
  have eO : cO' w' = cO' w := by unfold cO'; rw [e 1 (by omega)]
  refine ⟨?_, fun q hq => ?_, fun s hs => ?_, fun a ha => ?_, by rw [e 7 (by omega)]; exact h5, fr, h6, h7, fun ago hg j hj => ?_⟩
  · rw [e 0 (by omega), e 1 (by omega), e 2 (by omega), e 4 (by omega), e 5 (by omega), e 6 (by omega), e 8 (by omega)]
    exact h1
  · rw [eP] at hq
    refine ⟨by rw [e _ (by omega)]; exact (h2 q hq).1, by rw [e _ (by omega)]; exact (h2 q hq).2.1, ?_, by rw [e _ (by omega)]; exact (h2 q hq).2.2.2⟩
    show zA (uA S 17 f) 17 q = _
    rw [zA_eq]; exact hf q hq
  · rw [pin_congr (w := w) (e 0 (by omega)) (fun q z => by rw [e _ (by omega)])]
    exact h3 s hs
  · rw [eO] at ha
    exact ⟨by rw [e _ (by omega)]; exact (h4 a ha).1, by rw [e _ (by omega)]; exact (h4 a ha).2.1, by rw [e _ (by omega)]; exact (h4 a ha).2.2.1, by rw [e _ (by omega)]; exact (h4 a ha).2.2.2⟩
  · rw [e 7 (by omega)] at hg
    rw [e _ (by omega)]
    exact h9 ago hg j hj
section LO
variable {Θ : GP} {S S0 : PZ} {ω : OW} {n : Nat} {w : Nat → Int32} {lw : LW} {a : Nat}
theorem x_logAdd (hW : WB w) (h : CR S 14 w) (v0 v1 v2 v3 : Int32) : ∃ S', F_X4_add Θ (gb Θ + 24) v0 v1 v2 v3 (laz Θ S ω) n = some (.inl (none, laz Θ S' ω, n)) ∧ CR S' 14 (lgW w v0 v1 v2 v3) ∧ (∀ k j, k ≠ 24 → zF S' k j = zF S k j) ∧ (∀ k, k ≠ 25 → zA S' k = zA S k) ∧ (∀ k j, zR S' k j = zR S k j) ∧ (∀ k, zL S' k = zL S k) := by
  obtain ⟨R, h60, hR⟩ := hW.2.2.2.2.2.2.1
  obtain ⟨h1, h2, h3, h4, h5, fr, h6, h7, h9⟩ := h
  have h5 : zF S 24 0 = w 7 := h5
  have h7 : zF S 24 1 = nI fr := h7
  have i0 : nI fr * 4 = nI (4 * fr) := by show nI fr * nI 4 = _; rw [nI_mul, Nat.mul_comm]
  have i1 : nI (4 * fr) + 1 = nI (4 * fr + 1) := nI_add _ 1
  have i2 : nI (4 * fr) + 2 = nI (4 * fr + 2) := nI_add _ 2
  have i3 : nI (4 * fr) + 3 = nI (4 * fr + 3) := nI_add _ 3
  have i4 : (nI (fr + 1)) - (nI (fr + 1)) / 60 * 60 = nI ((fr + 1) % 60) := nI_rem (k := 60) (by omega) (by omega)
  let row := upd (upd (upd (upd (zA S 25) (4 * fr) v0) (4 * fr + 1) v1) (4 * fr + 2) v2) (4 * fr + 3) v3
  let S' := uF (uF (uA S 25 row) 24 1 (nI ((fr + 1) % 60))) 24 0 (if w 7 + 1 < 60 then w 7 + 1 else 60)
  have hz : ∀ k j, k ≠ 24 → zF S' k j = zF S k j := fun k j hk => by
    show zF (uF (uF (uA S 25 row) 24 1 _) 24 0 _) k j = _
    rw [zF_ne _ _ (fun y => hk y.1), zF_ne _ _ (fun y => hk y.1), zF_uA]
  have ha : ∀ k, k ≠ 25 → zA S' k = zA S k := fun k hk => zA_ne _ _ hk
  have e8 := lgW_7 (v0 := v0) (v1 := v1) (v2 := v2) (v3 := v3) hR h60
  have e : ∀ k, k ≠ 7 → k < 65 → lgW w v0 v1 v2 v3 k = w k := fun k a b => lgW_ne _ _ _ _ _ a (Or.inl b)
  have eP : cP (lgW w v0 v1 v2 v3) = cP w := by unfold cP; rw [e 0 (by omega) (by omega)]
  have eO : cO' (lgW w v0 v1 v2 v3) = cO' w := by unfold cO'; rw [e 1 (by omega) (by omega)]
  have h8 := hW.P8
  have h6' := hW.O6
  refine ⟨S', ?_, ⟨?_, fun q hq => ?_, fun s hs => ?_, fun a ha' => ?_, ?_, (fr + 1) % 60, Nat.mod_lt _ (by decide), ?_, fun ago hg j hj => ?_⟩, hz, ha, fun _ _ => rfl, fun _ => rfl⟩
  · unfold F_X4_add
    rw [a24_1, h7, i0, i1, i2, i3, a24_2, s_25 (by omega), a24_2, s_25 (by omega), uA_uA, zA_eq, a24_2, s_25 (by omega), uA_uA, zA_eq, a24_2, s_25 (by omega), uA_uA, zA_eq, a24_1, zF_uA, h7, nI_1, i4, b24_1, a24_0, zF_ne _ _ (by omega), zF_uA, h5, b24_0]
  · rw [e 0 (by omega) (by omega), e 1 (by omega) (by omega), e 2 (by omega) (by omega), e 4 (by omega) (by omega), e 5 (by omega) (by omega), e 6 (by omega) (by omega), e 8 (by omega) (by omega)]
    rw [hz _ _ (by omega), hz _ _ (by omega), hz _ _ (by omega), hz _ _ (by omega), hz _ _ (by omega), hz _ _ (by omega), hz _ _ (by omega)]
    exact h1
  · rw [eP] at hq
    rw [e _ (by omega) (by omega), e _ (by omega) (by omega), e _ (by omega) (by omega), e _ (by omega) (by omega), ha _ (by omega), ha _ (by omega), ha _ (by omega), ha _ (by omega)]
    exact h2 q hq
  · rw [pin_congr (w := w) (e 0 (by omega) (by omega)) (fun q z => by rw [e _ (by omega) (by omega)]), ha _ (by omega)]
    exact h3 s hs
  · rw [eO] at ha'
    rw [e _ (by omega) (by omega), e _ (by omega) (by omega), e _ (by omega) (by omega), e _ (by omega) (by omega), ha _ (by omega), ha _ (by omega), ha _ (by omega), ha _ (by omega)]
    exact h4 a ha'
  · show zF (uF (uF (uA S 25 row) 24 1 _) 24 0 _) 24 0 = _
    rw [zF_eq, e8.2]
  · show zF (uF (uF (uA S 25 row) 24 1 _) 24 0 _) 24 1 = _
    rw [zF_ne _ _ (by omega), zF_eq]
  · rw [e8.1, nI_clamp (by omega)] at hg
    show zA (uA S 25 row) 25 _ = _
    rw [zA_eq]
    show upd (upd (upd (upd (zA S 25) (4 * fr) v0) (4 * fr + 1) v1) (4 * fr + 2) v2) (4 * fr + 3) v3 _ = _
    by_cases z : ago = 0
    · subst z
      rw [show ((fr + 1) % 60 + 59 - 0) % 60 = fr by omega]
      obtain rfl | rfl | rfl | rfl : j = 0 ∨ j = 1 ∨ j = 2 ∨ j = 3 := by omega
      · rw [upd_ne _ _ (by omega), upd_ne _ _ (by omega), upd_ne _ _ (by omega)]; exact upd_same _ _ _
      · rw [upd_ne _ _ (by omega), upd_ne _ _ (by omega)]; exact upd_same _ _ _
      · rw [upd_ne _ _ (by omega)]; exact upd_same _ _ _
      · exact upd_same _ _ _
    · have em : ((fr + 1) % 60 + 59 - ago) % 60 = (fr + 59 - (ago - 1)) % 60 := by omega
      have hn : (fr + 59 - (ago - 1)) % 60 ≠ fr := by omega
      rw [em, upd_ne _ _ (by omega), upd_ne _ _ (by omega), upd_ne _ _ (by omega), upd_ne _ _ (by omega), lgW_sh _ _ _ _ _ (by omega)]
      have := h9 (ago - 1) (by rw [hR, nI_clamp (by omega)]; omega) j hj
      rw [show 4 * ago + 65 + j - 4 = 4 * (ago - 1) + 65 + j by omega]
      exact this
/-- the log's rows while the reference moves them -/
def shM (w : Nat → Int32) (l : Nat) : Nat → Int32 := fun i => if 65 + l < i ∧ i ≤ 304 then w (i - 4) else w i
theorem m_shift {l2 : Int32} {W : Nat → Int32} : ∀ (k l f : Nat), l = k + 3 → l ≤ 239 → k < f → L_X11_send_86 Θ f (gb Θ + 218) (nI a) l2 (nI l) (laz Θ (uA S 219 (shM W l)) ω) n = some (.inl (some (.int l2), laz Θ (uA S 219 (lgW W (W 4) (nI a) (if l2 = -1 then 10 else l2) (zF S 218 30))) ω, n)) := by
  intro k
  induction k with
  | zero =>
    intro l f h1 h2 h3
    obtain ⟨f, rfl⟩ : ∃ g, f = g + 1 := ⟨f - 1, by omega⟩
    subst h1
    have e4 : shM W 3 4 = W 4 := if_neg (by omega)
    have fin : ∀ v2 : Int32, J_X11_send_155 Θ (gb Θ + 218) l2 v2 67 (gb Θ + 219) (laz Θ (uA S 219 (upd (upd (shM W 3) 65 (W 4)) 66 (nI a))) ω) n = some (.inl (some (.int l2), laz Θ (uA S 219 (lgW W (W 4) (nI a) v2 (zF S 218 30))) ω, n)) := by
      intro v2
      unfold J_X11_send_155
      rw [sI_lit, s_219 (by decide), uA_uA, zA_eq, a218_1, a218_30, sI_lit, s_219 (by decide), uA_uA, zA_eq, a218_1, a218_1, lI_lit, l_219 (by decide), zA_eq, sI_lit, s_219 (by decide), uA_uA, zA_eq]
      have e7 : upd (upd (upd (upd (shM W 3) 65 (W 4)) 66 (nI a)) 67 v2) 68 (zF S 218 30) 7 = W 7 := by
        rw [upd_ne _ _ (by omega), upd_ne _ _ (by omega), upd_ne _ _ (by omega), upd_ne _ _ (by omega)]
        exact if_neg (by omega)
      rw [zF_uA, e7]
      congr 6
    unfold L_X11_send_86 B_X11_send_86
    rw [if_pos (show nI (0 + 3) < 4 by decide), a218_1, a218_1, lI_lit, l_219 (by decide), zA_eq, e4, sI_lit, s_219 (by decide), uA_uA, zA_eq, a218_1, sI_lit, s_219 (by decide), uA_uA, zA_eq, a218_1]
    by_cases z : l2 = -1
    · rw [if_pos z, if_pos z]; exact fin 10
    · rw [if_neg z, if_neg z]; exact fin l2
  | succ k ih =>
    intro l f h1 h2 h3
    obtain ⟨f, rfl⟩ : ∃ g, f = g + 1 := ⟨f - 1, by omega⟩
    have i1 : (65 : Int32) + nI l = nI (65 + l) := nI_add 65 l
    have i2 : nI (65 + l) - 4 = nI (61 + l) := by show nI (65 + l) - nI 4 = _; rw [nI_sub (by omega)]; congr 1; omega
    have i3 : nI l + (-1) = nI (l - 1) := m1_add (by omega)
    unfold L_X11_send_86 B_X11_send_86
    rw [if_neg (show ¬ nI l < 4 from nI_nlt (b := 4) (by omega) (by omega)), a218_1, a218_1, i1, i2, l_219 (by omega), zA_eq, s_219 (by omega), uA_uA, zA_eq, i3]
    have e : upd (shM W l) (65 + l) (shM W l (61 + l)) = shM W (l - 1) := by
      funext i
      unfold upd
      by_cases z : i = 65 + l
      · rw [if_pos z]; unfold shM; rw [if_neg (by omega), if_pos (by omega)]; congr 1; omega
      · rw [if_neg z]; unfold shM
        by_cases y : 65 + l < i ∧ i ≤ 304
        · rw [if_pos y, if_pos (by omega)]
        · rw [if_neg y, if_neg (by omega)]
    rw [e]
    exact ih (l - 1) f (by omega) (by omega) (by omega)
/-- laid and boarded, while the reference is behind -/
theorem x_laidN (hw : WB w) (hc : CR S 14 w) (hL : LawR Θ ω (zR S 14 17) w lw) : XL 202 S (uF (uA (uA S (202 + 1) (va_cpy (zA S 19) (zA S (202 + 1)) 0 0 10)) (202 + 2) (va_cpy (zA S 17) (zA S (202 + 2)) 0 0 8)) 202 6 (-1)) ∧ RLd Θ (uF (uA (uA S (202 + 1) (va_cpy (zA S 19) (zA S (202 + 1)) 0 0 10)) (202 + 2) (va_cpy (zA S 17) (zA S (202 + 2)) 0 0 8)) 202 6 (-1)) ω w lw (fun s => pin w (nI s)) (fun _ => false) := by
  have hP := hw.P8
  have xl : XL 202 S (uF (uA (uA S (202 + 1) (va_cpy (zA S 19) (zA S (202 + 1)) 0 0 10)) (202 + 2) (va_cpy (zA S 17) (zA S (202 + 2)) 0 0 8)) 202 6 (-1)) := (((XL.rf 202 S).nA (by omega)).nA (by omega)).nF
  refine ⟨xl, ⟨_, hL.1⟩, ?_, fun p hp => ?_, fun s hs => ?_, fun p hp => ?_⟩
  · rw [xl.1 14 3 (by omega)]; exact hc.1.2.2.2.1
  · have hr' := CRp hc hp
    rw [xl.2.1 15 (by omega), xl.2.1 16 (by omega)]
    refine ⟨hr'.1, hr'.2.1, ?_⟩
    rw [zA_uF, zA_eq, cpy_at, if_pos (by omega)]
    exact hr'.2.2.1
  · rw [zA_uF, zA_ne _ _ (by omega), zA_eq, cpy_at, if_pos hs]
    exact CRt hc hs
  · rw [zF_eq, q_m1 (by omega)]
    exact ⟨False.elim, fun z => by cases z⟩
theorem x_boardN (hw : WB w) (hc : CR S0 14 w) (xl : XL 202 S0 S) (h : RLd Θ S ω w lw (fun s => pin w (nI s)) (fun _ => false)) (ha : a < cO' w) {dr te : Bool} (hO : ROK (cPar w lw a dr te)) : ∃ S1, F_X6_board Θ (gb Θ + 202) (nI a) (laz Θ S ω) n = some (.inl (none, laz Θ S1 ω, n)) ∧ XL 202 S0 S1 ∧ RX Θ S1 ω 202 (cPar w lw a dr te) := by
  have hR : isR 202 := Or.inl rfl
  have h6 := hw.O6
  have hr := CRa hc ha
  refine ⟨uF (uF (uF S 202 3 (zA S 20 a)) 202 4 (zA S 21 a)) 202 5 (zA S 22 a), x_board hR (by omega), ((xl.nF).nF).nF, ?_⟩
  refine RLd.rx (c := cPar w lw a dr te) (((h.nF (by decide)).nF (by decide)).nF (by decide)) hO ?_ ?_ ?_
  · rw [zF_ne _ _ (by omega), zF_ne _ _ (by omega), zF_eq, xl.2.1 20 (by omega)]; exact hr.1
  · rw [zF_ne _ _ (by omega), zF_eq, xl.2.1 21 (by omega)]; exact hr.2.1
  · rw [zF_eq, xl.2.1 22 (by omega)]; exact hr.2.2.1
end LO
