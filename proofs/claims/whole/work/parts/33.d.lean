/-! one number of the world changes -/
theorem WB.put {w : Nat → Int32} {idx : Nat} {v : Int32} (h : WB w) (hi : 4 ≤ idx) (x4 : idx = 4 → Rg v 9999) (x5 : idx = 5 → Rg v 9) (x6 : idx = 6 → Rg v 20) (x7 : idx = 7 → Rg v 60)
    (xp : ∀ p, p < 8 → (idx = 4 * p + 9 → Rg v 5) ∧ (idx = 4 * p + 10 → Rg v 20) ∧ (idx = 4 * p + 11 → Rg v 99) ∧ (idx = 4 * p + 12 → v = w (4 * p + 12)))
    (xa : ∀ a, a < 6 → (idx = 4 * a + 41 → Rg v 63) ∧ (idx = 4 * a + 42 → Rg v 60) ∧ (idx = 4 * a + 43 → Rg v 255) ∧ (idx = 4 * a + 44 → Rg v 3)) : WB (upd w idx v) := by
  obtain ⟨h0, h1, h2, h4, h5, h6, h7, hp, ha, hd⟩ := h
  have pt : ∀ (k M : Nat), (idx = k → Rg v M) → Rg (w k) M → Rg (upd w idx v k) M := by
    intro k M a b
    unfold upd
    by_cases q : k = idx
    · rw [if_pos q]; exact a q.symm
    · rw [if_neg q]; exact b
  have e : ∀ k, k < 4 → upd w idx v k = w k := fun k hk => upd_ne _ _ (by omega)
  have es : ∀ p, p < 8 → upd w idx v (4 * p + 12) = w (4 * p + 12) := by
    intro p q
    unfold upd
    by_cases z : 4 * p + 12 = idx
    · rw [if_pos z]; exact (xp p q).2.2.2 z.symm
    · rw [if_neg z]
  have eP : cP (upd w idx v) = cP w := by unfold cP; rw [e 0 (by omega)]
  have h8 : cP w ≤ 8 := by
    obtain ⟨k, k1, k2⟩ := h0
    unfold cP; rw [k2, nI_clamp (by omega)]; exact k1
  refine ⟨by rw [e 0 (by omega)]; exact h0, by rw [e 1 (by omega)]; exact h1, by rw [e 2 (by omega)]; exact h2, pt 4 _ x4 h4, pt 5 _ x5 h5, pt 6 _ x6 h6, pt 7 _ x7 h7, fun p q => ?_, fun a q => ?_, fun p q a b c => ?_⟩
  · obtain ⟨a1, a2, a3, a4⟩ := hp p q
    obtain ⟨b1, b2, b3, b4⟩ := xp p q
    exact ⟨pt _ _ b1 a1, pt _ _ b2 a2, pt _ _ b3 a3, by rw [es p q]; exact a4⟩
  · obtain ⟨a1, a2, a3, a4⟩ := ha a q
    obtain ⟨b1, b2, b3, b4⟩ := xa a q
    exact ⟨pt _ _ b1 a1, pt _ _ b2 a2, pt _ _ b3 a3, pt _ _ b4 a4⟩
  · rw [eP] at b
    rw [es p (by omega), es q (by omega)] at c
    rw [es p (by omega)]
    exact hd p q a b c
theorem CR.calm {S : PZ} {w : Nat → Int32} (h : CR S 14 w) (v : Int32) : CR (uF S 14 3 v) 14 (upd w 5 v) := by
  obtain ⟨h1, h2, h3, h4, h5, fr, h6, h7, h8⟩ := h
  have e : ∀ k, k ≠ 5 → upd w 5 v k = w k := fun k hk => upd_ne _ _ hk
  have eP : cP (upd w 5 v) = cP w := by unfold cP; rw [e 0 (by decide)]
  have eO : cO' (upd w 5 v) = cO' w := by unfold cO'; rw [e 1 (by decide)]
  refine ⟨?_, fun q hq => ?_, fun s hs => ?_, fun a ha => ?_, by rw [e 7 (by decide)]; exact h5, fr, h6, h7, fun ago hg j hj => ?_⟩
  · obtain ⟨a0, a1, a2, a3, a4, a5, a6⟩ := h1
    exact ⟨a0, a1, a2, rfl, a4, a5, a6⟩
  · rw [eP] at hq
    rw [e _ (by omega), e _ (by omega), e _ (by omega), e _ (by omega)]
    exact h2 q hq
  · rw [pin_congr (w := w) (e 0 (by decide)) (fun q _ => by rw [e _ (by omega)])]
    exact h3 s hs
  · rw [eO] at ha
    rw [e _ (by omega), e _ (by omega), e _ (by omega), e _ (by omega)]
    exact h4 a ha
  · rw [e 7 (by decide)] at hg
    rw [e _ (by omega)]
    exact h8 ago hg j hj
theorem CR.day {S : PZ} {w : Nat → Int32} (h : CR S 14 w) (v : Int32) : CR (uF S 14 5 v) 14 (upd w 4 v) := by
  obtain ⟨h1, h2, h3, h4, h5, fr, h6, h7, h8⟩ := h
  have e : ∀ k, k ≠ 4 → upd w 4 v k = w k := fun k hk => upd_ne _ _ hk
  have eP : cP (upd w 4 v) = cP w := by unfold cP; rw [e 0 (by decide)]
  have eO : cO' (upd w 4 v) = cO' w := by unfold cO'; rw [e 1 (by decide)]
  refine ⟨?_, fun q hq => ?_, fun s hs => ?_, fun a ha => ?_, by rw [e 7 (by decide)]; exact h5, fr, h6, h7, fun ago hg j hj => ?_⟩
  · obtain ⟨a0, a1, a2, a3, a4, a5, a6⟩ := h1
    exact ⟨a0, a1, a2, a3, a4, rfl, a6⟩
  · rw [eP] at hq
    rw [e _ (by omega), e _ (by omega), e _ (by omega), e _ (by omega)]
    exact h2 q hq
  · rw [pin_congr (w := w) (e 0 (by decide)) (fun q _ => by rw [e _ (by omega)])]
    exact h3 s hs
  · rw [eO] at ha
    rw [e _ (by omega), e _ (by omega), e _ (by omega), e _ (by omega)]
    exact h4 a ha
  · rw [e 7 (by decide)] at hg
    rw [e _ (by omega)]
    exact h8 ago hg j hj
theorem CR.seed {S : PZ} {w : Nat → Int32} (h : CR S 14 w) (v : Int32) : CR (uF S 14 6 v) 14 (upd w 8 v) := by
  obtain ⟨h1, h2, h3, h4, h5, fr, h6, h7, h8⟩ := h
  have e : ∀ k, k ≠ 8 → upd w 8 v k = w k := fun k hk => upd_ne _ _ hk
  have eP : cP (upd w 8 v) = cP w := by unfold cP; rw [e 0 (by decide)]
  have eO : cO' (upd w 8 v) = cO' w := by unfold cO'; rw [e 1 (by decide)]
  refine ⟨?_, fun q hq => ?_, fun s hs => ?_, fun a ha => ?_, by rw [e 7 (by decide)]; exact h5, fr, h6, h7, fun ago hg j hj => ?_⟩
  · obtain ⟨a0, a1, a2, a3, a4, a5, a6⟩ := h1
    exact ⟨a0, a1, a2, a3, a4, a5, rfl⟩
  · rw [eP] at hq
    rw [e _ (by omega), e _ (by omega), e _ (by omega), e _ (by omega)]
    exact h2 q hq
  · rw [pin_congr (w := w) (e 0 (by decide)) (fun q _ => by rw [e _ (by omega)])]
    exact h3 s hs
  · rw [eO] at ha
    rw [e _ (by omega), e _ (by omega), e _ (by omega), e _ (by omega)]
    exact h4 a ha
  · rw [e 7 (by decide)] at hg
    rw [e _ (by omega)]
    exact h8 ago hg j hj
theorem CR.worn {S : PZ} {w : Nat → Int32} (h : CR S 14 w) {i : Nat} (hi : i < 8) (v : Int32) : CR (uA S 17 (upd (zA S 17) i v)) 14 (upd w (4 * i + 11) v) := by
  obtain ⟨h1, h2, h3, h4, h5, fr, h6, h7, h8⟩ := h
  have e : ∀ k, k ≠ 4 * i + 11 → upd w (4 * i + 11) v k = w k := fun k hk => upd_ne _ _ hk
  have eP : cP (upd w (4 * i + 11) v) = cP w := by unfold cP; rw [e 0 (by omega)]
  have eO : cO' (upd w (4 * i + 11) v) = cO' w := by unfold cO'; rw [e 1 (by omega)]
  refine ⟨?_, fun q hq => ?_, fun s hs => ?_, fun a ha => ?_, by rw [e 7 (by omega)]; exact h5, fr, h6, h7, fun ago hg j hj => ?_⟩
  · rw [e 0 (by omega), e 1 (by omega), e 2 (by omega), e 4 (by omega), e 5 (by omega), e 6 (by omega), e 8 (by omega)]
    exact h1
  · rw [eP] at hq
    refine ⟨by rw [e _ (by omega)]; exact (h2 q hq).1, by rw [e _ (by omega)]; exact (h2 q hq).2.1, ?_, by rw [e _ (by omega)]; exact (h2 q hq).2.2.2⟩
    show upd (zA S 17) i v q = upd w (4 * i + 11) v (4 * q + 11)
    unfold upd
    by_cases z : q = i
    · rw [if_pos z, if_pos (by omega)]
    · rw [if_neg z, if_neg (by omega)]; exact (h2 q hq).2.2.1
  · rw [pin_congr (w := w) (e 0 (by omega)) (fun q z => by rw [e _ (by omega)])]
    exact h3 s hs
  · rw [eO] at ha
    rw [e _ (by omega), e _ (by omega), e _ (by omega), e _ (by omega)]
    exact h4 a ha
  · rw [e 7 (by omega)] at hg
    rw [e _ (by omega)]
    exact h8 ago hg j hj
theorem CR.know {S : PZ} {w : Nat → Int32} (h : CR S 14 w) {i : Nat} (hi : i < 6) (h8P : cP w ≤ 8) (v : Int32) : CR (uA S 22 (upd (zA S 22) i v)) 14 (upd w (4 * i + 43) v) := by
  obtain ⟨h1, h2, h3, h4, h5, fr, h6, h7, h8⟩ := h
  have e : ∀ k, k ≠ 4 * i + 43 → upd w (4 * i + 43) v k = w k := fun k hk => upd_ne _ _ hk
  have eP : cP (upd w (4 * i + 43) v) = cP w := by unfold cP; rw [e 0 (by omega)]
  have eO : cO' (upd w (4 * i + 43) v) = cO' w := by unfold cO'; rw [e 1 (by omega)]
  refine ⟨?_, fun q hq => ?_, fun s hs => ?_, fun a ha => ?_, by rw [e 7 (by omega)]; exact h5, fr, h6, h7, fun ago hg j hj => ?_⟩
  · rw [e 0 (by omega), e 1 (by omega), e 2 (by omega), e 4 (by omega), e 5 (by omega), e 6 (by omega), e 8 (by omega)]
    exact h1
  · rw [eP] at hq
    exact ⟨by rw [e _ (by omega)]; exact (h2 q hq).1, by rw [e _ (by omega)]; exact (h2 q hq).2.1, by rw [e _ (by omega)]; exact (h2 q hq).2.2.1, by rw [e _ (by omega)]; exact (h2 q hq).2.2.2⟩
  · rw [pin_congr (w := w) (e 0 (by omega)) (fun q z => by rw [e _ (by omega)])]
    exact h3 s hs
  · rw [eO] at ha
    refine ⟨by rw [e _ (by omega)]; exact (h4 a ha).1, by rw [e _ (by omega)]; exact (h4 a ha).2.1, ?_, by rw [e _ (by omega)]; exact (h4 a ha).2.2.2⟩
    show upd (zA S 22) i v a = upd w (4 * i + 43) v (4 * a + 43)
    unfold upd
    by_cases z : a = i
    · rw [if_pos z, if_pos (by omega)]
    · rw [if_neg z, if_neg (by omega)]; exact (h4 a ha).2.2.1
  · rw [e 7 (by omega)] at hg
    rw [e _ (by omega)]
    exact h8 ago hg j hj
theorem CR.stat {S : PZ} {w : Nat → Int32} (h : CR S 14 w) {i : Nat} (hi : i < 6) (h8P : cP w ≤ 8) (v : Int32) : CR (uA S 23 (upd (zA S 23) i v)) 14 (upd w (4 * i + 44) v) := by
  obtain ⟨h1, h2, h3, h4, h5, fr, h6, h7, h8⟩ := h
  have e : ∀ k, k ≠ 4 * i + 44 → upd w (4 * i + 44) v k = w k := fun k hk => upd_ne _ _ hk
  have eP : cP (upd w (4 * i + 44) v) = cP w := by unfold cP; rw [e 0 (by omega)]
  have eO : cO' (upd w (4 * i + 44) v) = cO' w := by unfold cO'; rw [e 1 (by omega)]
  refine ⟨?_, fun q hq => ?_, fun s hs => ?_, fun a ha => ?_, by rw [e 7 (by omega)]; exact h5, fr, h6, h7, fun ago hg j hj => ?_⟩
  · rw [e 0 (by omega), e 1 (by omega), e 2 (by omega), e 4 (by omega), e 5 (by omega), e 6 (by omega), e 8 (by omega)]
    exact h1
  · rw [eP] at hq
    exact ⟨by rw [e _ (by omega)]; exact (h2 q hq).1, by rw [e _ (by omega)]; exact (h2 q hq).2.1, by rw [e _ (by omega)]; exact (h2 q hq).2.2.1, by rw [e _ (by omega)]; exact (h2 q hq).2.2.2⟩
  · rw [pin_congr (w := w) (e 0 (by omega)) (fun q z => by rw [e _ (by omega)])]
    exact h3 s hs
  · rw [eO] at ha
    refine ⟨by rw [e _ (by omega)]; exact (h4 a ha).1, by rw [e _ (by omega)]; exact (h4 a ha).2.1, by rw [e _ (by omega)]; exact (h4 a ha).2.2.1, ?_⟩
    show upd (zA S 23) i v a = upd w (4 * i + 44) v (4 * a + 44)
    unfold upd
    by_cases z : a = i
    · rw [if_pos z, if_pos (by omega)]
    · rw [if_neg z, if_neg (by omega)]; exact (h4 a ha).2.2.2
  · rw [e 7 (by omega)] at hg
    rw [e _ (by omega)]
    exact h8 ago hg j hj
/-! acts: from the remembering to the end -/
theorem Kn.rm {S1 S3 : PZ} (h : Kn S1 S3) (h9 : zA S3 219 = zA S1 219) (A : Nat) : Kn (rmM S1 A) (rmM S3 A) := by
  refine ⟨fun k j q => ?_, fun k q => ?_, h.2.2⟩
  · unfold rmM
    rw [zF_uA, zF_uA, zF_uF, zF_uF]
    split
    · rfl
    · exact h.1 k j q
  · unfold rmM
    rw [zA_uA, zA_uA, zA_uF, zA_uF]
    split
    · rw [h.2.1 223 rfl, h9]
    · exact h.2.1 k q
theorem Core.act {Θ : GP} {S S1 S3 : PZ} {ω : OW} {A : Nat} {w' : Nat → Int32} (r : Rmd Θ S S1 ω A) (hk : Kn S1 S3) (h9 : zA S3 219 = zA S1 219) (hw : ∀ k, 305 ≤ k ∨ k = 3 → w' k = zA S 219 k) (w1 : WB w') (w2 : CR S3 14 w') : Core Θ (uA (rmM S3 A) 219 w') ω := by
  refine r.2.2.1.now ((hk.rm h9 A).nA rfl) (fun k q => ?_) w1 ?_
  · rw [zA_uA, if_pos rfl, hw k q, ← r.2.2.2.2.1]
    rfl
  · rw [zA_uA, if_pos rfl]
    refine w2.congr (fun k j a b => ?_) (fun k a b => ?_)
    · unfold rmM
      rw [zF_uA, zF_uA, zF_uF, if_neg (by omega)]
    · unfold rmM
      rw [zA_uA, if_neg (by omega), zA_uA, if_neg (by omega), zA_uF]
theorem Idle.rm {Θ : GP} {S : PZ} (h : Idle Θ S) (A : Nat) : Idle Θ (rmM S A) := (h.nF (by omega)).nA (by omega)
theorem Rmd.idle {Θ : GP} {S S1 : PZ} {ω : OW} {A : Nat} (r : Rmd Θ S S1 ω A) (h : Idle Θ S) : Idle Θ S1 := by
  obtain ⟨_, _, _, _, _, r1, r2, r3⟩ := r
  obtain ⟨h1, h2, h3, h4⟩ := h
  refine ⟨by rw [r3 214 4 (by decide), r3 214 5 (by decide)]; exact h1, by rw [r2 216 (by decide), r2 217 (by decide), r2 200 (by decide)]; exact h2, by rw [r1 218 23 (by decide)]; exact h3, by rw [r1 218 24 (by decide)]; exact h4⟩
theorem Core.P8 {Θ : GP} {S : PZ} {ω : OW} (h : Core Θ S ω) : cP (zA S 219) ≤ 8 := h.P.2.1
