/-! promises 46, 47, 48: undo, image, back -/
theorem RnM.succ {w f : Nat → Int32} {k : Nat} {q q' : QM} : RnM w f (k + 1) q q' ↔ o1M w q ∧ RnM w f k (s1M w f q) q' := by
  constructor
  · rintro ⟨h1, h2⟩
    exact ⟨h2 0 (by omega), h1, fun j hj => h2 (j + 1) (by omega)⟩
  · rintro ⟨h0, h1, h2⟩
    refine ⟨h1, fun j hj => ?_⟩
    cases j with
    | zero => exact h0
    | succ j => exact h2 j (by omega)
theorem RnM.wc {w w' f : Nat → Int32} (h : ∀ k, 305 ≤ k → k < 1154 → w' k = w k) : ∀ (k : Nat) (q q' : QM), RnM w f k q q' → RnM w' f k q q' := by
  intro k
  induction k with
  | zero => rintro q q' ⟨h1, _⟩; exact ⟨h1, fun j hj => by omega⟩
  | succ k ih =>
    intro q q' hr
    obtain ⟨a, b⟩ := RnM.succ.mp hr
    have q4 : q.1 < 400 := a.1
    have e1 : w' (2 * q.1 + 354) = w (2 * q.1 + 354) := h _ (by omega) (by omega)
    have e2 : w' (2 * q.1 + 355) = w (2 * q.1 + 355) := h _ (by omega) (by omega)
    refine RnM.succ.mpr ⟨?_, ?_⟩
    · unfold o1M at a ⊢
      rw [e1]; exact a
    · have e : s1M w' f q = s1M w f q := by
        unfold s1M
        rw [e1, e2]
      rw [e]
      exact ih _ _ b
theorem LawM.wc {w w' : Nat → Int32} (h : ∀ k, k < 1154 → w' k = w k) {lw : LW} (q : LawM w lw) : LawM w' lw := by
  obtain ⟨h1, h2, h3, h4, h5⟩ := q
  refine ⟨h1, by rw [h 3 (by omega)]; exact h2, by rw [h 3 (by omega)]; exact h3, by rw [h 3 (by omega), h 305 (by omega)]; exact h4, fun l hl => ?_⟩
  obtain ⟨a1, a2, a3, a4, i, e, a5, a6, a7, a8, a9⟩ := h5 l hl
  refine ⟨by rw [h _ (by omega)]; exact a1, by rw [h _ (by omega)]; exact a2, a3, a4, i, e, by rw [h _ (by omega)]; exact a5, by rw [h _ (by omega)]; exact a6, a7, a8, fun f hf v => ?_⟩
  obtain ⟨v', t, b1, b2⟩ := a9 f hf v
  exact ⟨v', t, RnM.wc (fun k _ z => h k z) _ _ _ b1, b2⟩
theorem LawR.wc {Θ : GP} {ω : OW} {la : Nat} {w w' : Nat → Int32} (h : ∀ k, k < 1154 → w' k = w k) {lw : LW} (q : LawR Θ ω la w lw) : LawR Θ ω la w' lw := by
  refine ⟨?_, q.2.wc h⟩
  rw [h 3 (by omega)]
  exact q.1
theorem WB.wc {w w' : Nat → Int32} (e : ∀ k, k < 65 → w' k = w k) (h : WB w) : WB w' := by
  have h8 := h.P8
  obtain ⟨h0, h1, h2, h4, h5, h6, h7, hp, ha, hd⟩ := h
  have eP : cP w' = cP w := by unfold cP; rw [e 0 (by omega)]
  refine ⟨by rw [e 0 (by omega)]; exact h0, by rw [e 1 (by omega)]; exact h1, by rw [e 2 (by omega)]; exact h2, by rw [e 4 (by omega)]; exact h4, by rw [e 5 (by omega)]; exact h5, by rw [e 6 (by omega)]; exact h6, by rw [e 7 (by omega)]; exact h7, fun p q => ?_, fun a q => ?_, fun p q a b c => ?_⟩
  · rw [e _ (by omega), e _ (by omega), e _ (by omega), e _ (by omega)]; exact hp p q
  · rw [e _ (by omega), e _ (by omega), e _ (by omega), e _ (by omega)]; exact ha a q
  · rw [eP] at b
    rw [e _ (by omega), e _ (by omega)] at c
    rw [e _ (by omega)]
    exact hd p q a b c
theorem CR.wc {S : PZ} {c : Nat} {w w' : Nat → Int32} (e : ∀ k, k < 305 → w' k = w k) (hw : WB w) (h : CR S c w) : CR S c w' := by
  have h8 := hw.P8
  have h6' := hw.O6
  obtain ⟨R, hR, hR7⟩ := hw.2.2.2.2.2.2.1
  obtain ⟨h1, h2, h3, h4, h5, fr, h6, h7, h9⟩ := h
  have eP : cP w' = cP w := by unfold cP; rw [e 0 (by omega)]
  have eO : cO' w' = cO' w := by unfold cO'; rw [e 1 (by omega)]
  refine ⟨by rw [e 0 (by omega), e 1 (by omega), e 2 (by omega), e 4 (by omega), e 5 (by omega), e 6 (by omega), e 8 (by omega)]; exact h1, fun q hq => ?_, fun s hs => ?_, fun a ha => ?_, by rw [e 7 (by omega)]; exact h5, fr, h6, h7, fun ago hg j hj => ?_⟩
  · rw [eP] at hq
    rw [e _ (by omega), e _ (by omega), e _ (by omega), e _ (by omega)]
    exact h2 q hq
  · rw [pin_congr (w := w) (e 0 (by omega)) (fun q z => by rw [e _ (by omega)])]
    exact h3 s hs
  · rw [eO] at ha
    rw [e _ (by omega), e _ (by omega), e _ (by omega), e _ (by omega)]
    exact h4 a ha
  · rw [e 7 (by omega)] at hg
    have : ago < 60 := by rw [hR7, nI_clamp (by omega)] at hg; omega
    rw [e _ (by omega)]
    exact h9 ago hg j hj
section IM
variable {Θ : GP} {S : PZ} {ω : OW} {n : Nat}
/-- g with the first parts of f from p on -/
def cpF (f g : Nat → Int32) (p N : Nat) : Nat → Int32 := fun j => if p ≤ j ∧ j < N then f j else g j
theorem cpF_end (f g : Nat → Int32) {p N : Nat} (h : N ≤ p) : cpF f g p N = g := by
  funext j
  unfold cpF
  rw [if_neg (by omega)]
theorem cpF_step (f g : Nat → Int32) {p N : Nat} (h : p < N) : cpF f (upd g p (f p)) (p + 1) N = cpF f g p N := by
  funext j
  unfold cpF upd
  by_cases hj : j = p
  · subst hj
    rw [if_neg (by omega), if_pos rfl, if_pos (by omega)]
  · by_cases hq : p ≤ j ∧ j < N
    · rw [if_pos (by omega), if_pos hq]
    · rw [if_neg (by omega), if_neg hj, if_neg hq]
theorem m_image_L : ∀ (k p f : Nat) (g : Nat → Int32), p + k = 1154 → k < f → L_X11_image_7 Θ f (gb Θ + 218) (nI p) (laz Θ (uA S 220 g) ω) n = some (.inl (none, laz Θ (uF (uA S 220 (cpF (zA S 219) g p 1154)) 218 6 1) ω, n)) := by
  intro k
  induction k with
  | zero =>
    intro p f g h2 h3
    obtain ⟨f, rfl⟩ : ∃ g, f = g + 1 := ⟨f - 1, by omega⟩
    unfold L_X11_image_7 B_X11_image_7
    rw [if_pos (show (1154 : Int32) ≤ nI p from nI_le (a := 1154) (by omega) (by omega)), b218_6, cpF_end _ _ (by omega)]
  | succ k ih =>
    intro p f g h2 h3
    obtain ⟨f, rfl⟩ : ∃ g, f = g + 1 := ⟨f - 1, by omega⟩
    unfold L_X11_image_7 B_X11_image_7
    rw [if_neg (show ¬ (1154 : Int32) ≤ nI p from nI_ge (b := 1154) (by omega) (by omega)), a218_2, a218_1, l_219 (by omega), s_220 (by omega), uA_uA, nI_1, ih (p + 1) f _ (by omega) (by omega), zA_uA, if_pos rfl, zA_uA, if_neg (by decide), cpF_step _ _ (by omega)]
theorem m_image : F_X11_image Θ (gb Θ + 218) (laz Θ S ω) n = some (.inl (none, laz Θ (uF (uA (uF S 218 0 0) 220 (cpF (zA S 219) (zA S 220) 0 1154)) 218 6 1) ω, n)) := by
  unfold F_X11_image
  rw [b218_0]
  have e := m_image_L (Θ := Θ) (S := uF S 218 0 0) (ω := ω) (n := n) 1154 0 5000 (zA S 220) (by omega) (by omega)
  rw [show uA (uF S 218 0 0) 220 (zA S 220) = uF S 218 0 0 from uA_self (uF S 218 0 0) 220] at e
  exact e
theorem m_back_L : ∀ (k p f : Nat) (g : Nat → Int32), p + k = 1154 → k < f → L_X11_back_16 Θ f (gb Θ + 218) (nI p) (laz Θ (uA S 219 g) ω) n = some (.inl (some (.int 1), laz Θ (uF (uA S 219 (cpF (zA S 220) g p 1154)) 218 7 0) ω, n)) := by
  intro k
  induction k with
  | zero =>
    intro p f g h2 h3
    obtain ⟨f, rfl⟩ : ∃ g, f = g + 1 := ⟨f - 1, by omega⟩
    unfold L_X11_back_16 B_X11_back_16
    rw [if_pos (show (1154 : Int32) ≤ nI p from nI_le (a := 1154) (by omega) (by omega)), b218_7, cpF_end _ _ (by omega)]
  | succ k ih =>
    intro p f g h2 h3
    obtain ⟨f, rfl⟩ : ∃ g, f = g + 1 := ⟨f - 1, by omega⟩
    unfold L_X11_back_16 B_X11_back_16
    rw [if_neg (show ¬ (1154 : Int32) ≤ nI p from nI_ge (b := 1154) (by omega) (by omega)), a218_1, a218_2, l_220 (by omega), s_219 (by omega), uA_uA, nI_1, ih (p + 1) f _ (by omega) (by omega), zA_uA, if_pos rfl, zA_uA, if_neg (by decide), cpF_step _ _ (by omega)]
theorem m_undo_L {B : Nat} (hB : zF S 218 7 = nI B) (h12 : B ≤ 11) : ∀ (k p f : Nat) (g : Nat → Int32), p + k = 305 → k < f → L_X11_undo_26 Θ f (gb Θ + 218) (nI p) (laz Θ (uA S 219 g) ω) n = some (.inl (some (.int 1), laz Θ (uA S 219 (cpF (fun j => zA S 223 (305 * B + j)) g p 305)) ω, n)) := by
  intro k
  induction k with
  | zero =>
    intro p f g h2 h3
    obtain ⟨f, rfl⟩ : ∃ g, f = g + 1 := ⟨f - 1, by omega⟩
    unfold L_X11_undo_26 B_X11_undo_26
    rw [if_pos (show (305 : Int32) ≤ nI p from nI_le (a := 305) (by omega) (by omega)), cpF_end _ _ (by omega)]
  | succ k ih =>
    intro p f g h2 h3
    obtain ⟨f, rfl⟩ : ∃ g, f = g + 1 := ⟨f - 1, by omega⟩
    unfold L_X11_undo_26 B_X11_undo_26
    have e1 : (305 * nI B) + nI p = nI (305 * B + p) := by
      show nI 305 * nI B + nI p = _
      rw [nI_mul, nI_add]
    rw [if_neg (show ¬ (305 : Int32) ≤ nI p from nI_ge (b := 305) (by omega) (by omega)), a218_1, a218_5, a218_7, zF_uA, hB, e1, l_223 (by omega), s_219 (by omega), uA_uA, nI_1, ih (p + 1) f _ (by omega) (by omega), zA_uA, if_pos rfl, zA_uA, if_neg (by decide)]
    have e2 := cpF_step (fun j => zA S 223 (305 * B + j)) g (p := p) (N := 305) (by omega)
    rw [show upd g p (zA S 223 (305 * B + p)) = upd g p ((fun j => zA S 223 (305 * B + j)) p) from rfl, e2]
end IM
theorem pc45 (Θ : GP) : PC_45 Θ (gb Θ) (gb Θ + 218) (gb Θ + 234) (Inv Θ) := by
  intro v xs i hI
  obtain ⟨S, ω, rfl, hC, hI⟩ := hI
  refine fin_V fun n _ => ?_
  obtain ⟨S0, e0, hb⟩ := x_become (Θ := Θ) (S := S) (ω := ω) (n := n) (c := 38) (d := 14) (by decide) (by decide) (by omega)
  have hb' := hb
  obtain ⟨b1, b2, b3, b4, b5, b6, b7, b8, b9, b10, b11⟩ := hb'
  refine ⟨uF S0 0 3 1, ω, n, ?_, fun n2 => ⟨_, n2, m_image, ?_, ?_⟩⟩
  · show F_X10_image Θ (gb Θ) (laz Θ S ω) n = _
    unfold F_X10_image
    rw [r10_2, r10_0, d38, e0, kV_v, w10_3]
  · obtain ⟨⟨a1, a2, lw, a3⟩, ⟨len, l1, l2, l3⟩, c1, d1, _, A, fr, f1, f2, f3, f4, f5, f6⟩ := hC
    have zf : ∀ k j, k ≠ 38 → k ≠ 48 → ¬ (k = 0 ∧ j = 3) → ¬ (k = 218 ∧ (j = 0 ∨ j = 6)) → zF (uF (uA (uF (uF S0 0 3 1) 218 0 0) 220 (cpF (zA (uF S0 0 3 1) 219) (zA (uF S0 0 3 1) 220) 0 1154)) 218 6 1) k j = zF S k j := by
      intro k j q1 q2 q3 q4
      rw [zF_uF, if_neg (by omega), zF_uA, zF_uF, if_neg (by omega), zF_uF, if_neg q3, b3 k j q1 q2]
    have za : ∀ k, k < 38 ∨ 50 ≤ k → k ≠ 220 → zA (uF (uA (uF (uF S0 0 3 1) 218 0 0) 220 (cpF (zA (uF S0 0 3 1) 219) (zA (uF S0 0 3 1) 220) 0 1154)) 218 6 1) k = zA S k := by
      intro k q1 q2
      rw [zA_uF, zA_uA, if_neg q2, zA_uF, zA_uF, b8 k (by omega)]
    have z220 : ∀ k, k < 1154 → zA (uF (uA (uF (uF S0 0 3 1) 218 0 0) 220 (cpF (zA (uF S0 0 3 1) 219) (zA (uF S0 0 3 1) 220) 0 1154)) 218 6 1) 220 k = zA S 219 k := by
      intro k q
      rw [zA_uF, zA_uA, if_pos rfl]
      unfold cpF
      rw [if_pos ⟨Nat.zero_le _, q⟩, zA_uF, b8 219 (by omega)]
    have zc : ∀ k, 38 ≤ k → k < 50 → zA (uF (uA (uF (uF S0 0 3 1) 218 0 0) 220 (cpF (zA (uF S0 0 3 1) 219) (zA (uF S0 0 3 1) 220) 0 1154)) 218 6 1) k = zA S0 k := by
      intro k q1 q2
      rw [zA_uF, zA_uA, if_neg (by omega), zA_uF, zA_uF]
    have zfc : ∀ k j, 38 ≤ k → k < 50 → zF (uF (uA (uF (uF S0 0 3 1) 218 0 0) 220 (cpF (zA (uF S0 0 3 1) 219) (zA (uF S0 0 3 1) 220) 0 1154)) 218 6 1) k j = zF S0 k j := by
      intro k j q1 q2
      rw [zF_uF, if_neg (by omega), zF_uA, zF_uF, if_neg (by omega), zF_uF, if_neg (by omega)]
    have zr : ∀ k j, k ≠ 38 → zR (uF (uA (uF (uF S0 0 3 1) 218 0 0) 220 (cpF (zA (uF S0 0 3 1) 219) (zA (uF S0 0 3 1) 220) 0 1154)) 218 6 1) k j = zR S k j := b10
    have zrc : zR (uF (uA (uF (uF S0 0 3 1) 218 0 0) 220 (cpF (zA (uF S0 0 3 1) 219) (zA (uF S0 0 3 1) 220) 0 1154)) 218 6 1) 38 17 = zR S 14 17 := b9
    have z03 : zF (uF (uA (uF (uF S0 0 3 1) 218 0 0) 220 (cpF (zA (uF S0 0 3 1) 219) (zA (uF S0 0 3 1) 220) 0 1154)) 218 6 1) 0 3 = 1 := rfl
    have z06 : zF (uF (uA (uF (uF S0 0 3 1) 218 0 0) 220 (cpF (zA (uF S0 0 3 1) 219) (zA (uF S0 0 3 1) 220) 0 1154)) 218 6 1) 218 6 = 1 := rfl
    generalize uF (uA (uF (uF S0 0 3 1) 218 0 0) 220 (cpF (zA (uF S0 0 3 1) 219) (zA (uF S0 0 3 1) 220) 0 1154)) 218 6 1 = S2 at *
    have x19 : zA S2 219 = zA S 219 := za 219 (by omega) (by decide)
    have x23 : zA S2 223 = zA S 223 := za 223 (by omega) (by decide)
    have hp : ∀ i, pastW S2 i = pastW S i := fun i => by unfold pastW; rw [x19, x23]
    have cr : ∀ {c : Nat} {w : Nat → Int32}, (c + 12 ≤ 38 ∧ 14 ≤ c ∨ (52 ≤ c ∧ c + 12 ≤ 196)) → CR S c w → CR S2 c w := fun h1 z => z.congr (fun k j p q => zf k j (by omega) (by omega) (by omega) (by omega)) (fun k p q => za k (by omega) (by omega))
    refine ⟨⟨by rw [x19]; exact a1, by rw [x19]; exact cr (by omega) a2, lw, by rw [x19, zr 14 17 (by omega)]; exact a3⟩, ⟨len, l1, by rw [zf 1 0 (by omega) (by omega) (by omega) (by omega)]; exact l2, by rw [zf 218 9 (by omega) (by omega) (by omega) (by omega)]; exact l3⟩, by rw [za 224 (by omega) (by decide), za 2 (by omega) (by decide)]; exact c1, by rw [zf 0 14 (by omega) (by omega) (by omega) (by omega), zf 218 14 (by omega) (by omega) (by omega) (by omega)]; exact d1, ⟨by rw [z03, z06], Or.inr z06, fun _ => ⟨a1.wc (fun k hk => z220 k (by omega)), ?_, lw, ?_⟩⟩, A, fr, f1, f2, by rw [zf 50 0 (by omega) (by omega) (by omega) (by omega)]; exact f3, by rw [zf 50 1 (by omega) (by omega) (by omega) (by omega)]; exact f4, by rw [zf 218 7 (by omega) (by omega) (by omega) (by omega)]; exact f5, ?_⟩
    · exact ((a2.bec a1 hb).congr (fun k j p q => zfc k j (by omega) (by omega)) (fun k p q => zc k (by omega) (by omega))).wc (fun k hk => z220 k (by omega)) a1
    · rw [zrc]
      exact a3.wc z220
    · intro i hi
      obtain ⟨g1, g2, g3, g4⟩ := f6 i hi
      have hm : (fr + 12 - A + i) % 12 < 12 := Nat.mod_lt _ (by decide)
      rw [hp i, x19, zr _ 17 (by omega), zr 14 17 (by omega)]
      exact ⟨g1, cr (by omega) g2, g3, g4⟩
  · obtain ⟨h1, h2, h3, h4⟩ := hI
    refine ⟨?_, ?_, ?_, ?_⟩
    · rw [zR_uF, zR_uA, zR_uF, zR_uF, zR_uF, zR_uA, zR_uF, zR_uF, b10 _ _ (by omega), b10 _ _ (by omega)]; exact h1
    · intro t ht
      rw [zA_uF, zA_uA, if_neg (by decide), zA_uF, zA_uF, zA_uF, zA_uA, if_neg (by decide), zA_uF, zA_uF, b8 _ (by omega), b8 _ (by omega), zA_uF, zA_uA, if_neg (by decide), zA_uF, zA_uF, b8 _ (by omega)]; exact h2 t ht
    · rw [zF_uF, if_neg (by omega), zF_uA, zF_uF, if_neg (by omega), zF_uF, if_neg (by omega), b3 _ _ (by omega) (by omega)]; exact h3
    · rw [zF_uF, if_neg (by omega), zF_uA, zF_uF, if_neg (by omega), zF_uF, if_neg (by omega), b3 _ _ (by omega) (by omega)]; exact h4
