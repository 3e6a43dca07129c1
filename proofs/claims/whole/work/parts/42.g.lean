/-! court: class and reference are at one again -/
theorem CR.texts {S : PZ} {w : Nat → Int32} (h : CR S 14 w) (v : Int32) : CR (uF S 14 2 v) 14 (upd w 2 v) := by
  obtain ⟨h1, h2, h3, h4, h5, fr, h6, h7, h8⟩ := h
  have e : ∀ k, k ≠ 2 → upd w 2 v k = w k := fun k hk => upd_ne _ _ hk
  have eP : cP (upd w 2 v) = cP w := by unfold cP; rw [e 0 (by decide)]
  have eO : cO' (upd w 2 v) = cO' w := by unfold cO'; rw [e 1 (by decide)]
  refine ⟨?_, fun q hq => ?_, fun s hs => ?_, fun a ha => ?_, by rw [e 7 (by decide)]; exact h5, fr, h6, h7, fun ago hg j hj => ?_⟩
  · obtain ⟨a0, a1, a2, a3, a4, a5, a6⟩ := h1
    exact ⟨a0, a1, rfl, a3, a4, a5, a6⟩
  · rw [eP] at hq
    rw [e _ (by omega), e _ (by omega), e _ (by omega), e _ (by omega)]
    exact h2 q hq
  · rw [pin_congr (w := w) (e 0 (by decide)) (fun q _ => by rw [e _ (by omega)])]
    exact h3 s hs
  · rw [eO] at ha
    rw [e _ (by omega), e _ (by omega), e _ (by omega), e _ (by omega)]
    exact h4 a ha
  · rw [e 7 (by decide)] at hg
    rw [e _ (by omega)]
    exact h8 ago hg j hj
theorem WB.texts {w : Nat → Int32} {v : Int32} (h : WB w) (hv : Rg v 12) : WB (upd w 2 v) := by
  obtain ⟨h0, h1, h2, h4, h5, h6, h7, hp, ha, hd⟩ := h
  have e : ∀ k, k ≠ 2 → upd w 2 v k = w k := fun k hk => upd_ne _ _ hk
  have eP : cP (upd w 2 v) = cP w := by unfold cP; rw [e 0 (by decide)]
  refine ⟨by rw [e 0 (by decide)]; exact h0, by rw [e 1 (by decide)]; exact h1, by rw [upd_same]; exact hv, by rw [e 4 (by decide)]; exact h4, by rw [e 5 (by decide)]; exact h5, by rw [e 6 (by decide)]; exact h6, by rw [e 7 (by decide)]; exact h7, fun p q => ?_, fun a q => ?_, fun p q a b c => ?_⟩
  · rw [e _ (by omega), e _ (by omega), e _ (by omega), e _ (by omega)]; exact hp p q
  · rw [e _ (by omega), e _ (by omega), e _ (by omega), e _ (by omega)]; exact ha a q
  · rw [eP] at b
    rw [e _ (by omega), e _ (by omega)] at c
    rw [e _ (by omega)]
    exact hd p q a b c
/-- the draft does not matter -/
theorem Core.dr {Θ : GP} {S S' : PZ} {ω : OW} (h : Core Θ S ω) (qF : ∀ k j, (14 ≤ k ∧ k < 26) ∨ (38 ≤ k ∧ k < 196) ∨ (k = 0 ∧ j = 3) ∨ (k = 218 ∧ (j = 6 ∨ j = 7)) → zF S' k j = zF S k j) (qA : ∀ k, (14 ≤ k ∧ k < 26) ∨ (38 ≤ k ∧ k < 196) ∨ k = 219 ∨ k = 220 ∨ k = 223 → zA S' k = zA S k) (qR : ∀ k j, (14 ≤ k ∧ k < 26) ∨ (38 ≤ k ∧ k < 196) → zR S' k j = zR S k j) (b1 : ∃ len, len ≤ 400 ∧ zF S' 1 0 = nI len ∧ zF S' 218 9 = nI len) (c1 : ∀ i, i < 400 → byR (zA S' 2 i) (zA S' 224 i)) (d1 : zF S' 0 14 = zF S' 218 14) : Core Θ S' ω := by
  obtain ⟨⟨a1, a2, lw, a3⟩, -, -, -, ⟨e1, e2, e3⟩, A, fr, f1, f2, f3, f4, f5, f6⟩ := h
  have w1 : zA S' 219 = zA S 219 := qA 219 (by omega)
  have w2 : zA S' 220 = zA S 220 := qA 220 (by omega)
  have w3 : zA S' 223 = zA S 223 := qA 223 (by omega)
  have hp : ∀ i, pastW S' i = pastW S i := fun i => by unfold pastW; rw [w1, w3]
  have cr : ∀ {c : Nat} {w : Nat → Int32}, c = 14 ∨ (38 ≤ c ∧ c + 12 ≤ 196) → CR S c w → CR S' c w := fun h1 z => z.congr (fun k j a b => qF k j (by omega)) (fun k a b => qA k (by omega))
  refine ⟨⟨by rw [w1]; exact a1, by rw [w1]; exact cr (by omega) a2, lw, by rw [w1, qR 14 17 (by omega)]; exact a3⟩, b1, c1, d1, ⟨by rw [qF 0 3 (by omega), qF 218 6 (by omega)]; exact e1, by rw [qF 218 6 (by omega)]; exact e2, ?_⟩, A, fr, f1, f2, by rw [qF 50 0 (by omega)]; exact f3, by rw [qF 50 1 (by omega)]; exact f4, by rw [qF 218 7 (by omega)]; exact f5, ?_⟩
  · rw [qF 218 6 (by omega), w2, qR 38 17 (by omega)]
    intro h
    obtain ⟨g1, g2, g3⟩ := e3 h
    exact ⟨g1, cr (by omega) g2, g3⟩
  · intro i hi
    obtain ⟨g1, g2, g3, g4⟩ := f6 i hi
    have hm : (fr + 12 - A + i) % 12 < 12 := Nat.mod_lt _ (by decide)
    rw [hp i, w1, qR _ 17 (by omega), qR 14 17 (by omega)]
    exact ⟨g1, cr (by omega) g2, g3, g4⟩
/-- a new court, nothing remembered -/
theorem Core.nw {Θ : GP} {S S' : PZ} {ω : OW} {lw : LW} (h : Core Θ S ω) (w1 : WB (zA S' 219)) (w2 : CR S' 14 (zA S' 219)) (w3 : LawR Θ ω (zR S' 14 17) (zA S' 219) lw) (qF : ∀ k j, (38 ≤ k ∧ k < 50) ∨ (k = 0 ∧ j = 3) ∨ (k = 218 ∧ j = 6) ∨ (k = 50 ∧ j = 1) → zF S' k j = zF S k j) (qA : ∀ k, (38 ≤ k ∧ k < 50) ∨ k = 220 → zA S' k = zA S k) (qR : zR S' 38 17 = zR S 38 17) (f0 : zF S' 50 0 = 0) (g0 : zF S' 218 7 = 0) (b1 : ∃ len, len ≤ 400 ∧ zF S' 1 0 = nI len ∧ zF S' 218 9 = nI len) (c1 : ∀ i, i < 400 → byR (zA S' 2 i) (zA S' 224 i)) (d1 : zF S' 0 14 = zF S' 218 14) : Core Θ S' ω := by
  obtain ⟨-, -, -, -, ⟨e1, e2, e3⟩, A, fr, f1, f2, f3, f4, f5, f6⟩ := h
  refine ⟨⟨w1, w2, lw, w3⟩, b1, c1, d1, ⟨by rw [qF 0 3 (by omega), qF 218 6 (by omega)]; exact e1, by rw [qF 218 6 (by omega)]; exact e2, ?_⟩, 0, fr, by omega, f2, f0, by rw [qF 50 1 (by omega)]; exact f4, g0, fun i hi => by omega⟩
  rw [qF 218 6 (by omega), qA 220 (by omega), qR]
  intro h
  obtain ⟨g1, g2, g3⟩ := e3 h
  exact ⟨g1, g2.congr (fun k j a b => qF k j (by omega)) (fun k a b => qA k (by omega)), g3⟩
theorem Idle.fr {Θ : GP} {S S' : PZ} (h : Idle Θ S) (qR : ∀ j, zR S' 214 j = zR S 214 j) (qA : ∀ k, k = 200 ∨ k = 216 ∨ k = 217 → zA S' k = zA S k) (qF : ∀ j, j = 23 ∨ j = 24 → zF S' 218 j = zF S 218 j) : Idle Θ S' := by
  obtain ⟨h1, h2, h3, h4⟩ := h
  exact ⟨by rw [qR, qR]; exact h1, by rw [qA 216 (by omega), qA 217 (by omega), qA 200 (by omega)]; exact h2, by rw [qF 23 (by omega)]; exact h3, by rw [qF 24 (by omega)]; exact h4⟩
theorem pc2 (Θ : GP) : PC_2 Θ (gb Θ) (gb Θ + 218) (gb Θ + 234) (Inv Θ) := by
  intro v xs i hI
  obtain ⟨S, ω, rfl, hC, hI⟩ := hI
  obtain ⟨lw, hL⟩ := hC.lw
  have hW := hC.1.1
  obtain ⟨len, h4, hl, hm⟩ := hC.2.1
  have hbb := fun i (hi : i < len) => tbN_eq hC (i := i) (by omega)
  obtain ⟨x, hx⟩ : ∃ x : TX, x = (len, tbN S) := ⟨_, rfl⟩
  have hx1 : x.1 = len := by rw [hx]
  have hx2 : x.2 = tbN S := by rw [hx]
  show stW Θ _ _ (fun ω n => W_court Θ (gb Θ) (gb Θ + 234) ω n) (fun ω n => F_X11_court Θ (gb Θ + 218) ω n) _ _
  refine fin_W fun n _ => ?_
  obtain ⟨S1, e1, hb⟩ := x_become (Θ := Θ) (S := S) (ω := ω) (n := n) (c := 26) (d := 14) (by decide) (by decide) (by omega)
  have hc1 := hC.1.2.1.bec hW hb
  have hb0 := hb
  obtain ⟨b1, b2, b3, b4, b5, b6, b7, b8, b9, b10, b11⟩ := hb0
  have ht1 : TC S1 x := ⟨by rw [b3 1 0 (by omega) (by omega), hx1]; exact hl, by omega, fun i hi => by rw [b8 2 (by omega), hx2]; exact ⟨(hbb i (by omega)).1, (hbb i (by omega)).2.1⟩⟩
  obtain ⟨S2, e2, a2, t2, c2⟩ := x_read (Θ := Θ) (ω := ω) (n := n) ht1 hc1 hW
  have ok := crA_ok (x := x) hW
  have f2 : ∀ k j, ¬ (k = 1 ∧ 1 ≤ j ∧ j ≤ 3) → ¬ (26 ≤ k ∧ k < 38) → zF S2 k j = zF S k j := fun k j q r => by rw [a2.1 k j q r, b3 k j (by omega) (by omega)]
  have g2 : ∀ k, ¬ (26 ≤ k ∧ k < 38) → zA S2 k = zA S k := fun k q => by rw [a2.2.1 k q, b8 k (by omega)]
  have r2 : ∀ k j, k ≠ 26 → zR S2 k j = zR S k j := fun k j q => by rw [a2.2.2.1, b10 k j q]
  have r26 : zR S2 26 17 = zR S 14 17 := by rw [a2.2.2.1, b9]
  have hMT : ∀ T : PZ, zF T 218 9 = nI len → zA T 224 = zA S 224 → MTx (rdU (ctC T)) x := by
    intro T q1 q2
    refine ⟨?_, by omega, fun i hi => ?_⟩
    · unfold rdU
      rw [zF_ne _ _ (by omega), zF_ne _ _ (by omega), zF_ne _ _ (by omega), zF_eq, hx1]
      exact q1
    · rw [show zA (rdU (ctC T)) 224 = zA T 224 from zA_ne _ _ (by decide), q2, hx2]
      exact (hbb i (by omega)).2
  -- the class refuses
  have hno : ∀ (fv kk : Int32) (p b : Nat) (g : Nat → Int32), Core Θ (ctT (uF (uF S2 0 14 fv) 1 0 0) (zA S 219) g p b fv kk) ω ∧ Idle Θ (ctT (uF (uF S2 0 14 fv) 1 0 0) (zA S 219) g p b fv kk) := by
    intro fv kk p b g
    constructor
    · refine hC.dr (fun k j q => ?_) (fun k q => ?_) (fun k j q => ?_) ⟨0, by omega, ?_, ?_⟩ ?_ ?_
      · rw [ctT_F (by omega), zF_ne _ _ (by omega), zF_ne _ _ (by omega), f2 k j (by omega) (by omega)]
      · by_cases z : k = 219
        · subst z; exact zA_eq _ _ _
        · rw [ctT_A (by omega)]; exact g2 k (by omega)
      · exact r2 k j (by omega)
      · rw [ctT_F (by omega), zF_eq]; rfl
      · unfold ctT rdU
        rw [zF_uA, zF_ne _ _ (by omega), zF_ne _ _ (by omega), mT_ne _ _ _ (by omega), zF_uA, zF_ne _ _ (by omega), zF_ne _ _ (by omega), zF_eq]; rfl
      · rw [ctT_A (by omega), ctT_A (by omega)]
        show ∀ i, i < 400 → byR (zA S2 2 i) (zA S2 224 i)
        rw [g2 2 (by omega), g2 224 (by omega)]
        exact hC.2.2.1
      · rw [ctT_F (by omega), zF_ne _ _ (by omega), zF_eq]
        unfold ctT
        rw [zF_uA, zF_ne _ _ (by omega), zF_eq]
    · refine hI.fr (fun j => r2 214 j (by omega)) (fun k q => ?_) (fun j q => ?_)
      · rw [ctT_A (by omega)]; exact g2 k (by omega)
      · rw [ctT_F (by omega), zF_ne _ _ (by omega), zF_ne _ _ (by omega), f2 218 j (by omega) (by omega)]
  have hw2 : zA (uF (uF S2 0 14 (-1)) 1 0 0) 219 = zA S 219 := g2 219 (by omega)
  have h224 : zA S2 224 = zA S 224 := g2 224 (by omega)
  have h9 : zF S2 218 9 = nI len := by rw [f2 218 9 (by omega) (by omega)]; exact hm
  cases ho : (crA x (zA S 219)).2.2 with
  | false =>
    rw [ho, if_neg (show ¬ false = true by decide)] at t2
    rw [ho] at e2
    refine ⟨1, uF (uF S2 0 14 (nI (crA x (zA S 219)).1)) 1 0 0, ω, ?_, fun n2 => ?_⟩
    · show W_court Θ (gb Θ) (gb Θ + 234) (laz Θ S ω) n = _
      unfold W_court F_X10_court J_X10_court_35
      rw [c10w, r10_1, r10_0, d26, e1, kV_v, r10_6, d196, e2, kI_v, if_pos (show b01 false = 0 from rfl), r10_5, a1_1, t2.2.1, w10_14, r10_5, b1_0, if_pos (show b01 false = 0 from rfl), wrI_x1]
    · have hw3 : zA (uF (uF S2 0 14 (nI (crA x (zA S 219)).1)) 1 0 0) 219 = zA S 219 := g2 219 (by omega)
      obtain ⟨p, b, -, -, m3⟩ := m_court (Θ := Θ) (S := uF (uF S2 0 14 (nI (crA x (zA S 219)).1)) 1 0 0) (ω := ω) (n := n2) (hMT _ h9 h224) (by rw [hw3]; exact hW)
      rw [hw3] at m3
      obtain ⟨q1, q2⟩ := hno (nI (crA x (zA S 219)).1) 1 p b (crA x (zA S 219)).2.1
      exact ⟨0, _, n2, m3 ho, (show zF (ctT _ _ _ _ _ _ 1) 218 0 = 1 by unfold ctT; rw [zF_uA, zF_eq]), fun u => absurd u (by decide), q1, q2⟩
  | true =>
    rw [ho] at e2
    have c2 := c2 ho
    have et : zF (uF (uF S2 0 14 (-1)) 1 0 0) 14 2 = zA S 219 2 := by
      rw [zF_ne _ _ (by omega), zF_ne _ _ (by omega), f2 14 2 (by omega) (by omega)]
      exact hC.1.2.1.1.2.2.1
    obtain ⟨tx, tx1, tx2⟩ := hW.2.2.1
    by_cases y : zA S 219 2 = 12
    · refine ⟨2, uF (uF S2 0 14 (-1)) 1 0 0, ω, ?_, fun n2 => ?_⟩
      · show W_court Θ (gb Θ) (gb Θ + 234) (laz Θ S ω) n = _
        unfold W_court F_X10_court J_X10_court_35
        rw [c10w, r10_1, r10_0, d26, e1, kV_v, r10_6, d196, e2, kI_v, if_neg (show ¬ b01 true = 0 by decide), w10_14, r10_5, b1_0, if_neg (show ¬ b01 true = 0 by decide), r10_0, a14_2, et, y, if_neg (by decide), wrI_x2 (by decide)]
      · obtain ⟨p, b, -, m2, -⟩ := m_court (Θ := Θ) (S := uF (uF S2 0 14 (-1)) 1 0 0) (ω := ω) (n := n2) (hMT _ h9 h224) (by rw [hw2]; exact hW)
        rw [hw2] at m2
        obtain ⟨q1, q2⟩ := hno (-1) 2 p b (crA x (zA S 219)).2.1
        exact ⟨0, _, n2, m2 ho y, (show zF (ctT _ _ _ _ _ _ 2) 218 0 = 2 by unfold ctT; rw [zF_uA, zF_eq]), fun u => absurd u (by decide), q1, q2⟩
    · have htx : tx < 12 := by
        apply Classical.byContradiction
        intro u
        exact y (by rw [tx2, show tx = 12 by omega]; rfl)
      obtain ⟨S3, e3, hb3⟩ := x_become (Θ := Θ) (S := uF (uF S2 0 14 (-1)) 1 0 0) (ω := ω) (n := n) (c := 14) (d := 26) (by decide) (by decide) (by omega)
      have hc2 : CR (uF (uF S2 0 14 (-1)) 1 0 0) 26 (crA x (zA S 219)).2.1 := c2.congr (fun k j a b => by rw [zF_ne _ _ (by omega), zF_ne _ _ (by omega)]) (fun k a b => rfl)
      have hc3 : CR S3 14 (crA x (zA S 219)).2.1 := hc2.bec ok.2.1 hb3
      have hb3' := hb3
      obtain ⟨j1, j2, j3, j4, j5, j6, j7, j8, j9, j10, j11⟩ := hb3'
      have h22 := ok.2.2 2 (by omega)
      have ev : zF S3 14 2 = nI tx := by rw [hc3.1.2.2.1, h22, tx2]
      refine ⟨0, uL (uF (uF S3 14 2 (nI (tx + 1))) 50 0 0) 234 (nI (tx + 1)).toInt64, ω, ?_, fun n2 => ?_⟩
      · show W_court Θ (gb Θ) (gb Θ + 234) (laz Θ S ω) n = _
        unfold W_court F_X10_court J_X10_court_35 F_X5_forget
        rw [c10w, r10_1, r10_0, d26, e1, kV_v, r10_6, d196, e2, kI_v, if_neg (show ¬ b01 true = 0 by decide), w10_14, r10_5, b1_0, if_neg (show ¬ b01 true = 0 by decide), r10_0, a14_2, et, tx2, if_pos (show nI tx < 12 from nI_lt (b := 12) htx (by omega)), r10_0, r10_1, d14, e3, kV_v, r10_0, a14_2, ev, nI_1, b14_2, r10_4, d50, b50_0, kV_v, r10_0, a14_2, zF_ne _ _ (by omega), zF_eq, wrI_v]
      · have k219 : zA (uL (uF (uF S3 14 2 (nI (tx + 1))) 50 0 0) 234 (nI (tx + 1)).toInt64) 219 = zA S 219 := (j8 219 (by omega)).trans (g2 219 (by omega))
        have kA : ∀ k, ¬ (14 ≤ k ∧ k < 38) → zA (uL (uF (uF S3 14 2 (nI (tx + 1))) 50 0 0) 234 (nI (tx + 1)).toInt64) k = zA S k := fun k q => (j8 k (by omega)).trans (g2 k (by omega))
        have kF : ∀ k j, ¬ (14 ≤ k ∧ k < 38) → ¬ (k = 1 ∧ j ≤ 3) → ¬ (k = 50 ∧ j = 0) → ¬ (k = 0 ∧ j = 14) → zF (uL (uF (uF S3 14 2 (nI (tx + 1))) 50 0 0) 234 (nI (tx + 1)).toInt64) k j = zF S k j := by
          intro k j q1 q2 q3 q4
          rw [zF_uL, zF_ne _ _ (by omega), zF_ne _ _ (by omega), j3 k j (by omega) (by omega), zF_ne _ _ (by omega), zF_ne _ _ (by omega), f2 k j (by omega) (by omega)]
        obtain ⟨p, b, m1, -, -⟩ := m_court (Θ := Θ) (S := uL (uF (uF S3 14 2 (nI (tx + 1))) 50 0 0) 234 (nI (tx + 1)).toInt64) (ω := ω) (n := n2) (hMT _ (by rw [kF 218 9 (by omega) (by omega) (by omega) (by omega)]; exact hm) (kA 224 (by omega))) (by rw [k219]; exact hW)
        rw [k219] at m1
        have m1 := m1 ho y
        rw [tx2, nI_1] at m1
        have okw := ok.2.1
        have okk := ok.2.2
        generalize hg : (crA x (zA S 219)).2.1 = g at *
        have hz219 : zA (ctD (uL (uF (uF S3 14 2 (nI (tx + 1))) 50 0 0) 234 (nI (tx + 1)).toInt64) (upd g 2 (nI (tx + 1))) g p b) 219 = upd g 2 (nI (tx + 1)) := zA_eq _ _ _
        have h305 : ∀ k, 305 ≤ k ∨ k = 3 → upd g 2 (nI (tx + 1)) k = zA S 219 k := fun k hk => by rw [upd_ne _ _ (by omega)]; exact okk k (by omega)
        refine ⟨nI (tx + 1), _, n2, m1, ?_, fun _ => ?_, ?_, ?_⟩
        · unfold ctD rdU
          rw [zF_ne _ _ (by omega), zF_uA, zF_ne _ _ (by omega), mT_ne _ _ _ (by omega), zF_uA, zF_ne _ _ (by omega), zF_ne _ _ (by omega), zF_ne _ _ (by omega), zF_ne _ _ (by omega), zF_eq]
        · show zL (uL _ 234 _) 234 = _
          rw [zL_uL, if_pos rfl]
        · refine hC.nw (lw := lw) ?_ ?_ ?_ (fun k j q => ?_) (fun k q => ?_) ?_ ?_ ?_ ⟨0, by omega, ?_, ?_⟩ ?_ ?_
          · rw [hz219]; exact okw.texts ⟨tx + 1, by omega, rfl⟩
          · rw [hz219]
            refine (hc3.texts (nI (tx + 1))).congr (fun k j a b => ?_) (fun k a b => ?_)
            · rw [ctD_F (by omega), zF_uL, zF_ne (uF S3 14 2 (nI (tx + 1))) _ (by omega)]
            · rw [ctD_A (by omega)]; rfl
          · rw [hz219]
            have : zR (ctD (uL (uF (uF S3 14 2 (nI (tx + 1))) 50 0 0) 234 (nI (tx + 1)).toInt64) (upd g 2 (nI (tx + 1))) g p b) 14 17 = zR S 14 17 := j9.trans r26
            rw [this]
            exact hL.congr h305
          · rw [ctD_F (by omega), kF k j (by omega) (by omega) (by omega) (by omega)]
          · rw [ctD_A (by omega), kA k (by omega)]
          · exact (j10 38 17 (by omega)).trans (r2 38 17 (by omega))
          · rw [ctD_F (by omega), zF_uL, zF_eq]
          · exact zF_eq _ _ _ _
          · rw [ctD_F (by omega), zF_uL, zF_ne _ _ (by omega), zF_ne _ _ (by omega), j3 1 0 (by omega) (by omega), zF_eq]; rfl
          · unfold ctD rdU
            rw [zF_ne _ _ (by omega), zF_uA, zF_ne _ _ (by omega), mT_ne _ _ _ (by omega), zF_uA, zF_ne _ _ (by omega), zF_ne _ _ (by omega), zF_eq]; rfl
          · rw [ctD_A (by omega), ctD_A (by omega), kA 2 (by omega), kA 224 (by omega)]
            exact hC.2.2.1
          · rw [ctD_F (by omega), zF_uL, zF_ne _ _ (by omega), zF_ne _ _ (by omega), j3 0 14 (by omega) (by omega), zF_ne _ _ (by omega), zF_eq]
            unfold ctD
            rw [zF_ne _ _ (by omega), zF_uA, zF_eq]
        · refine hI.fr (fun j => (j10 214 j (by omega)).trans (r2 214 j (by omega))) (fun k q => ?_) (fun j q => ?_)
          · rw [ctD_A (by omega), kA k (by omega)]
          · rw [ctD_F (by omega), kF 218 j (by omega) (by omega) (by omega) (by omega)]
