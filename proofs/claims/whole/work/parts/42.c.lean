/-! the draft court: one prop, one accused, one number more -/
def XDf (S S' : PZ) : Prop := (∀ k j, ¬ (26 ≤ k ∧ k < 38) → zF S' k j = zF S k j) ∧ (∀ k, ¬ (26 ≤ k ∧ k < 38) → zA S' k = zA S k) ∧ (∀ k j, zR S' k j = zR S k j) ∧ (∀ k, zL S' k = zL S k)
def XDr (S S' : PZ) : Prop := (∀ k j, ¬ (k = 1 ∧ 1 ≤ j ∧ j ≤ 3) → ¬ (26 ≤ k ∧ k < 38) → zF S' k j = zF S k j) ∧ (∀ k, ¬ (26 ≤ k ∧ k < 38) → zA S' k = zA S k) ∧ (∀ k j, zR S' k j = zR S k j) ∧ (∀ k, k ≠ 1 → zL S' k = zL S k)
section DR
variable {S S' S'' : PZ} {x : TX} {w : Nat → Int32}
theorem XDf.nF (h : XDf S S') {k j : Nat} {v : Int32} (hk : 26 ≤ k ∧ k < 38) : XDf S (uF S' k j v) := ⟨fun a b z => by rw [zF_ne _ _ (by rintro ⟨rfl, rfl⟩; exact z hk), h.1 a b z], h.2.1, h.2.2.1, h.2.2.2⟩
theorem XDf.nA (h : XDf S S') {k : Nat} {f : Nat → Int32} (hk : 26 ≤ k ∧ k < 38) : XDf S (uA S' k f) := ⟨h.1, fun a z => by rw [zA_ne _ _ (by rintro rfl; exact z hk), h.2.1 a z], h.2.2.1, h.2.2.2⟩
theorem XDf.rf (S : PZ) : XDf S S := ⟨fun _ _ _ => rfl, fun _ _ => rfl, fun _ _ => rfl, fun _ => rfl⟩
theorem XDf.r (h : XDf S S') : XDr S S' := ⟨fun k j _ z => h.1 k j z, h.2.1, h.2.2.1, fun k _ => h.2.2.2 k⟩
theorem XTk.r (h : XTk S S') : XDr S S' := ⟨fun k j z _ => h.1 k j z, fun k _ => h.2.1 k, h.2.2.1, h.2.2.2⟩
theorem XDr.trans (h : XDr S S') (g : XDr S' S'') : XDr S S'' := ⟨fun k j q z => (g.1 k j q z).trans (h.1 k j q z), fun k z => (g.2.1 k z).trans (h.2.1 k z), fun k j => (g.2.2.1 k j).trans (h.2.2.1 k j), fun k q => (g.2.2.2 k q).trans (h.2.2.2 k q)⟩
theorem XDr.rf (S : PZ) : XDr S S := (XDf.rf S).r
theorem TK.xdf {q : Nat} (t : TK S x q) (h : XDf S S') : TK S' x q := ⟨t.1, by rw [h.1 1 1 (by omega)]; exact t.2.1, by rw [h.1 1 2 (by omega)]; exact t.2.2.1, by rw [h.1 1 3 (by omega)]; exact t.2.2.2.1, by rw [h.2.2.2]; exact t.2.2.2.2⟩
theorem TC.xdr (h : TC S x) (t : XDr S S') : TC S' x := ⟨by rw [t.1 1 0 (by omega) (by omega)]; exact h.1, h.2.1, by rw [t.2.1 2 (by omega)]; exact h.2.2⟩
theorem CR.xtk (h : CR S 26 w) (t : XTk S S') : CR S' 26 w := h.congr (fun k j a _ => t.1 k j (by omega)) (fun k _ _ => t.2.1 k)
theorem CR.prop {d j wo sl : Int32} (h : CR S 26 w) (hW : WB w) (h7 : cP w < 8) (hf : sl = -1 ∨ pin w sl = -1) (f0 : zF S' 26 0 = nI (cP w + 1)) (f : ∀ k j, ¬ (k = 26 ∧ j = 0) → zF S' k j = zF S k j)
    (a1 : ∀ q, zA S' 27 q = if q = cP w then d else zA S 27 q) (a2 : ∀ q, zA S' 28 q = if q = cP w then j else zA S 28 q) (a3 : ∀ q, zA S' 29 q = if q = cP w then wo else zA S 29 q) (a4 : ∀ q, zA S' 30 q = if q = cP w then sl else zA S 30 q) (a5 : ∀ s, s < 10 → zA S' 31 s = if sl = nI s then nI (cP w) else zA S 31 s) (ar : ∀ k, 32 ≤ k → zA S' k = zA S k) : CR S' 26 (prW w d j wo sl) := by
  obtain ⟨⟨g0, g1, g2, g3, g4, g5, g6⟩, h2, h3, h4, h5, fr, h6, h7', h8⟩ := h
  have e : ∀ k, k ≠ 0 → ¬ (4 * cP w + 9 ≤ k ∧ k ≤ 4 * cP w + 12) → prW w d j wo sl k = w k := fun k q z => prW_ne q z
  refine ⟨⟨by rw [f0, prW_0], ?_, ?_, ?_, ?_, ?_, ?_⟩, fun p hp => ?_, fun s hs => ?_, fun a ha => ?_, ?_, fr, h6, ?_, fun ago hg i hi => ?_⟩
  · rw [f 26 1 (by omega), e 1 (by omega) (by omega)]; exact g1
  · rw [f 26 2 (by omega), e 2 (by omega) (by omega)]; exact g2
  · rw [f 26 3 (by omega), e 5 (by omega) (by omega)]; exact g3
  · rw [f 26 4 (by omega), e 6 (by omega) (by omega)]; exact g4
  · rw [f 26 5 (by omega), e 4 (by omega) (by omega)]; exact g5
  · rw [f 26 6 (by omega), e 8 (by omega) (by omega)]; exact g6
  · rw [prW_P h7] at hp
    rw [a1, a2, a3, a4]
    by_cases z : p = cP w
    · subst z
      rw [if_pos rfl, if_pos rfl, if_pos rfl, if_pos rfl, prW_n.1, prW_n.2.1, prW_n.2.2.1, prW_n.2.2.2]
      exact ⟨rfl, rfl, rfl, rfl⟩
    · rw [if_neg z, if_neg z, if_neg z, if_neg z, e _ (by omega) (by omega), e _ (by omega) (by omega), e _ (by omega) (by omega), e _ (by omega) (by omega)]
      exact h2 p (by omega)
  · rw [a5 s hs, prW_pin h7, h3 s hs]
    by_cases z : sl = nI s
    · rw [if_pos z]
      have : pin w (nI s) = -1 := by
        rcases hf with u | u
        · rw [z] at u; exact absurd u (show ¬ nI s = -1 by rw [q_m1 (by omega)]; exact id)
        · rw [← z]; exact u
      rw [if_pos this, if_pos z]
    · rw [if_neg z, if_neg z]
      by_cases y : pin w (nI s) = -1
      · rw [if_pos y, y]
      · rw [if_neg y]
  · rw [show cO' (prW w d j wo sl) = cO' w by unfold cO'; rw [e 1 (by omega) (by omega)]] at ha
    rw [ar _ (by omega), ar _ (by omega), ar _ (by omega), ar _ (by omega), e _ (by omega) (by omega), e _ (by omega) (by omega), e _ (by omega) (by omega), e _ (by omega) (by omega)]
    exact h4 a ha
  · rw [f _ _ (by omega), e 7 (by omega) (by omega)]; exact h5
  · rw [f _ _ (by omega)]; exact h7'
  · rw [e 7 (by omega) (by omega)] at hg
    rw [ar _ (by omega), e _ (by omega) (by omega)]
    exact h8 ago hg i hi
theorem CR.accu {nv dd kn : Int32} (h : CR S 26 w) (hW : WB w) (h5' : cO' w < 6) (f0 : zF S' 26 1 = nI (cO' w + 1)) (f : ∀ k j, ¬ (k = 26 ∧ j = 1) → zF S' k j = zF S k j)
    (a1 : ∀ q, zA S' 32 q = if q = cO' w then dd else zA S 32 q) (a2 : ∀ q, zA S' 33 q = if q = cO' w then nv else zA S 33 q) (a3 : ∀ q, zA S' 34 q = if q = cO' w then kn else zA S 34 q) (a4 : ∀ q, zA S' 35 q = if q = cO' w then 0 else zA S 35 q) (ar : ∀ k, k < 32 ∨ 36 ≤ k → zA S' k = zA S k) : CR S' 26 (acW w nv dd kn) := by
  have hP8 := hW.P8
  obtain ⟨⟨g0, g1, g2, g3, g4, g5, g6⟩, h2, h3, h4, h5, fr, h6, h7', h8⟩ := h
  have e : ∀ k, k ≠ 1 → ¬ (4 * cO' w + 41 ≤ k ∧ k ≤ 4 * cO' w + 44) → acW w nv dd kn k = w k := fun k q z => acW_ne q z
  refine ⟨⟨?_, by rw [f0, acW_1], ?_, ?_, ?_, ?_, ?_⟩, fun p hp => ?_, fun s hs => ?_, fun a ha => ?_, ?_, fr, h6, ?_, fun ago hg i hi => ?_⟩
  · rw [f 26 0 (by omega), e 0 (by omega) (by omega)]; exact g0
  · rw [f 26 2 (by omega), e 2 (by omega) (by omega)]; exact g2
  · rw [f 26 3 (by omega), e 5 (by omega) (by omega)]; exact g3
  · rw [f 26 4 (by omega), e 6 (by omega) (by omega)]; exact g4
  · rw [f 26 5 (by omega), e 4 (by omega) (by omega)]; exact g5
  · rw [f 26 6 (by omega), e 8 (by omega) (by omega)]; exact g6
  · rw [acW_P] at hp
    rw [ar _ (by omega), ar _ (by omega), ar _ (by omega), ar _ (by omega), e _ (by omega) (by omega), e _ (by omega) (by omega), e _ (by omega) (by omega), e _ (by omega) (by omega)]
    exact h2 p hp
  · rw [ar _ (by omega), acW_pin h5' hP8.2]; exact h3 s hs
  · rw [acW_O h5'] at ha
    rw [a1, a2, a3, a4]
    by_cases z : a = cO' w
    · subst z
      rw [if_pos rfl, if_pos rfl, if_pos rfl, if_pos rfl, acW_n.1, acW_n.2.1, acW_n.2.2.1, acW_n.2.2.2]
      exact ⟨rfl, rfl, rfl, rfl⟩
    · rw [if_neg z, if_neg z, if_neg z, if_neg z, e _ (by omega) (by omega), e _ (by omega) (by omega), e _ (by omega) (by omega), e _ (by omega) (by omega)]
      exact h4 a (by omega)
  · rw [f _ _ (by omega), e 7 (by omega) (by omega)]; exact h5
  · rw [f _ _ (by omega)]; exact h7'
  · rw [e 7 (by omega) (by omega)] at hg
    rw [ar _ (by omega), e _ (by omega) (by omega)]
    exact h8 ago hg i hi
theorem CR.num {i j : Nat} (h : CR S 26 w) (hij : (j = 3 ∧ i = 5) ∨ (j = 4 ∧ i = 6) ∨ (j = 5 ∧ i = 4)) (v : Int32) : CR (uF S 26 j v) 26 (upd w i v) := by
  obtain ⟨⟨a0, a1, a2, a3, a4, a5, a6⟩, h2, h3, h4, h5, fr, h6, h7, h8⟩ := h
  have e : ∀ k, k ≠ i → upd w i v k = w k := fun k hk => upd_ne _ _ hk
  have eP : cP (upd w i v) = cP w := by unfold cP; rw [e 0 (by omega)]
  have eO : cO' (upd w i v) = cO' w := by unfold cO'; rw [e 1 (by omega)]
  refine ⟨?_, fun q hq => ?_, fun s hs => ?_, fun a ha => ?_, ?_, fr, h6, ?_, fun ago hg l hl => ?_⟩
  · rcases hij with ⟨rfl, rfl⟩ | ⟨rfl, rfl⟩ | ⟨rfl, rfl⟩
    · exact ⟨a0, a1, a2, rfl, a4, a5, a6⟩
    · exact ⟨a0, a1, a2, a3, rfl, a5, a6⟩
    · exact ⟨a0, a1, a2, a3, a4, rfl, a6⟩
  · rw [eP] at hq
    rw [e _ (by omega), e _ (by omega), e _ (by omega), e _ (by omega)]
    exact h2 q hq
  · rw [pin_congr (w := w) (e 0 (by omega)) (fun q _ => by rw [e _ (by omega)])]
    exact h3 s hs
  · rw [eO] at ha
    rw [e _ (by omega), e _ (by omega), e _ (by omega), e _ (by omega)]
    exact h4 a ha
  · rw [zF_ne _ _ (by omega), e 7 (by omega)]; exact h5
  · rw [zF_ne _ _ (by omega)]; exact h7
  · rw [e 7 (by omega)] at hg
    rw [e _ (by omega)]
    exact h8 ago hg l hl
end DR
section DA
variable {Θ : GP} {S : PZ} {ω : OW} {n : Nat} {x : TX} {w : Nat → Int32}
theorem x_addProp (h : CR S 26 w) (hW : WB w) (h7 : cP w < 8) {d j wo sl : Int32} (hsl : sl = -1 ∨ ∃ s, s < 10 ∧ sl = nI s ∧ pin w sl = -1) : ∃ S', F_X1_addProp Θ (gb Θ + 196) d j wo sl (laz Θ S ω) n = some (.inl (none, laz Θ S' ω, n)) ∧ XDf S S' ∧ CR S' 26 (prW w d j wo sl) := by
  have e0 : zF S 26 0 = nI (cP w) := by rw [h.1.1, hW.P8.1]
  unfold F_X1_addProp J_X1_addProp_88 F_X0_hang
  rw [a196_1, a26_0, e0, if_neg (show ¬ (8 : Int32) ≤ nI (cP w) from nI_ge (b := 8) (by omega) (by omega)), a196_1, a26_7, z_sI (k := 27) rfl (show cP w < 8 from h7) (by decide), a196_1, a26_8, z_sI (k := 28) rfl (show cP w < 8 from h7) (by decide), a196_1, a26_9, z_sI (k := 29) rfl (show cP w < 8 from h7) (by decide), a196_1, a26_10, z_sI (k := 30) rfl (show cP w < 8 from h7) (by decide), a196_1, b26_0, nI_1]
  rcases hsl with q | ⟨s, s1, s2, s3⟩
  · rw [if_pos q]
    refine ⟨_, rfl, ?_, ?_⟩
    · exact (((((XDf.rf S).nA (by omega)).nA (by omega)).nA (by omega)).nA (by omega)).nF (by omega)
    · refine CR.prop h hW h7 (Or.inl q) (zF_eq _ _ _ _) (fun k j z => zF_ne _ _ z) (fun q => rfl) (fun q => rfl) (fun q => rfl) (fun i => ?_) (fun s hs => ?_) (fun k hk => ?_)
      · rw [q]; rfl
      · rw [q, if_neg (show ¬ -1 = nI s from fun u => (q_m1 (by omega)).mp u.symm)]; rfl
      · show zA (uA (uA (uA (uA S 27 _) 28 _) 29 _) 30 _) k = _
        rw [zA_ne _ _ (by omega), zA_ne _ _ (by omega), zA_ne _ _ (by omega), zA_ne _ _ (by omega)]
  · rw [if_neg (show ¬ sl = -1 by rw [s2, q_m1 (by omega)]; exact id), a196_1, d26, a26_10, z_sI (k := 30) rfl (show cP w < 8 from h7) (by decide), a26_11, s2, z_sI (k := 31) rfl (show s < 10 from s1) (by decide), kV_v]
    refine ⟨_, rfl, ?_, ?_⟩
    · exact (((((((XDf.rf S).nA (by omega)).nA (by omega)).nA (by omega)).nA (by omega)).nF (by omega)).nA (by omega)).nA (by omega)
    · rw [s2] at s3
      refine CR.prop h hW h7 (Or.inr s3) rfl (fun k j z => ?_) (fun q => rfl) (fun q => rfl) (fun q => rfl) (fun i => ?_) (fun t ht => ?_) (fun k hk => ?_)
      · rw [zF_uA, zF_uA, zF_ne _ _ z]; rfl
      · show upd (upd (zA S 30) (cP w) (-1)) (cP w) (nI s) i = _
        rw [upd_at, upd_at]
        by_cases z : i = cP w
        · rw [if_pos z, if_pos z]
        · rw [if_neg z, if_neg z, if_neg z]
      · show upd (zA S 31) s (nI (cP w)) t = _
        rw [upd_at]
        by_cases z : t = s
        · rw [if_pos z, if_pos (by rw [z])]
        · rw [if_neg z, if_neg (fun u => z ((nI_eq (by omega) (by omega)).mp u).symm)]
      · rw [zA_ne _ _ (by omega), zA_ne _ _ (by omega), zA_uF, zA_ne _ _ (by omega), zA_ne _ _ (by omega), zA_ne _ _ (by omega), zA_ne _ _ (by omega)]
theorem x_addAccused (h : CR S 26 w) (hW : WB w) (h5 : cO' w < 6) {nv dd kn : Int32} : ∃ S', F_X1_addAccused Θ (gb Θ + 196) nv dd kn (laz Θ S ω) n = some (.inl (none, laz Θ S' ω, n)) ∧ XDf S S' ∧ CR S' 26 (acW w nv dd kn) := by
  have e0 : zF S 26 1 = nI (cO' w) := by rw [h.1.2.1, hW.O6.1]
  unfold F_X1_addAccused J_X1_addAccused_71
  rw [a196_1, a26_1, e0, if_neg (show ¬ (6 : Int32) ≤ nI (cO' w) from nI_ge (b := 6) (by omega) (by omega)), a196_1, a26_13, z_sI (k := 33) rfl (show cO' w < 6 from h5) (by decide), a196_1, a26_12, z_sI (k := 32) rfl (show cO' w < 6 from h5) (by decide), a196_1, a26_14, z_sI (k := 34) rfl (show cO' w < 6 from h5) (by decide), a196_1, a26_15, z_sI (k := 35) rfl (show cO' w < 6 from h5) (by decide), a196_1, b26_1, nI_1]
  refine ⟨_, rfl, ?_, ?_⟩
  · exact (((((XDf.rf S).nA (by omega)).nA (by omega)).nA (by omega)).nA (by omega)).nF (by omega)
  · refine CR.accu h hW h5 (zF_eq _ _ _ _) (fun k j z => zF_ne _ _ z) (fun q => rfl) (fun q => rfl) (fun q => rfl) (fun q => rfl) (fun k hk => ?_)
    rw [zA_uF, zA_ne _ _ (by omega), zA_ne _ _ (by omega), zA_ne _ _ (by omega), zA_ne _ _ (by omega)]
theorem x_takeNumber (h : TC S x) {q : Nat} (t : TK S x q) (lo hi : Int32) : ∃ S', F_X1_takeNumber Θ (gb Θ + 196) lo hi (laz Θ S ω) n = some (.inl (some (.int (nmR x q lo hi)), laz Θ S' ω, n)) ∧ XTk S S' ∧ TK S' x (if nmR x q lo hi = -1 then q else skT x (deT x q)) := by
  unfold F_X1_takeNumber J_X1_takeNumber_22
  rw [a196_0, d1, x_number h t, kI_v]
  by_cases z : nmR x q lo hi = -1
  · rw [if_pos z, if_pos z]
    exact ⟨S, rfl, XTk.rf S, t⟩
  · obtain ⟨S', e, x1, t1⟩ := x_adv (Θ := Θ) (ω := ω) (n := n) h t
    rw [(nm_ne t.1 z).1] at t1
    rw [if_neg z, if_neg z, a196_0, d1, e, kV_v]
    exact ⟨S', rfl, x1, t1⟩
end DA
