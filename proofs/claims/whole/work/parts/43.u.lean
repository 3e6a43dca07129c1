/-! law: class and reference are at one again -/
theorem LawX.om {Θ : GP} {ω ω' : OW} {la : Nat} {told : Int32} {lw : LW} (h : ∀ a q, notOurs Θ a → ω a = some q → ω' a = some q) (q : LawX Θ ω la told lw) : LawX Θ ω' la told lw := by
  obtain ⟨ak, aa, as, ac, lk, ll, ls, lc, sf, cf, ⟨c0, c1, c2, c3, c4⟩, ⟨n0, n1, n2, n3, n4⟩, r⟩ := q
  exact ⟨ak, aa, as, ac, lk, ll, ls, lc, sf, cf, ⟨h _ _ n0 c0, h _ _ n1 c1, h _ _ n2 c2, h _ _ n3 c3, h _ _ n4 c4⟩, ⟨n0, n1, n2, n3, n4⟩, r⟩
theorem Core.om {Θ : GP} {S : PZ} {ω ω' : OW} (hC : Core Θ S ω) (h : ∀ a q, notOurs Θ a → ω a = some q → ω' a = some q) : Core Θ S ω' := by
  obtain ⟨⟨a1, a2, lw, a3⟩, b, c, d, ⟨e1, e2, e3⟩, f⟩ := hC
  refine ⟨⟨a1, a2, lw, a3.1.om h, a3.2⟩, b, c, d, ⟨e1, e2, fun z => ?_⟩, f⟩
  obtain ⟨g1, g2, lw', g3⟩ := e3 z
  exact ⟨g1, g2, lw', g3.1.om h, g3.2⟩
/-- the draft of the law does not matter -/
theorem Core.dl {Θ : GP} {S S' : PZ} {ω : OW} (h : Core Θ S ω) (qF : ∀ k j, (14 ≤ k ∧ k < 196) ∨ (k = 0 ∧ j = 3) ∨ (k = 218 ∧ (j = 6 ∨ j = 7)) → zF S' k j = zF S k j) (qA : ∀ k, (14 ≤ k ∧ k < 196) ∨ k = 220 ∨ k = 223 → zA S' k = zA S k) (q9 : ∀ k, k < 1154 → zA S' 219 k = zA S 219 k) (qR : ∀ k j, 14 ≤ k → k < 196 → zR S' k j = zR S k j) (b1 : ∃ len, len ≤ 400 ∧ zF S' 1 0 = nI len ∧ zF S' 218 9 = nI len) (c1 : ∀ i, i < 400 → byR (zA S' 2 i) (zA S' 224 i)) (d1 : zF S' 0 14 = zF S' 218 14) : Core Θ S' ω := by
  obtain ⟨⟨a1, a2, lw, a3⟩, -, -, -, ⟨e1, e2, e3⟩, A, fr, f1, f2, f3, f4, f5, f6⟩ := h
  have w2 : zA S' 220 = zA S 220 := qA 220 (by omega)
  have w3 : zA S' 223 = zA S 223 := qA 223 (by omega)
  have hp : ∀ i k, k < 305 → pastW S' i k = pastW S i k := fun i k hk => by unfold pastW; rw [if_pos hk, if_pos hk, w3]
  have cr : ∀ {c : Nat} {w : Nat → Int32}, 14 ≤ c → c + 12 ≤ 196 → CR S c w → CR S' c w := fun h1 h2 z => z.congr (fun k j a b => qF k j (by omega)) (fun k a b => qA k (by omega))
  refine ⟨⟨a1.wc (fun k hk => q9 k (by omega)), cr (by omega) (by omega) (a2.wc (fun k hk => q9 k (by omega)) a1), lw, by rw [qR 14 17 (by omega) (by omega)]; exact a3.wc q9⟩, b1, c1, d1, ⟨by rw [qF 0 3 (by omega), qF 218 6 (by omega)]; exact e1, by rw [qF 218 6 (by omega)]; exact e2, ?_⟩, A, fr, f1, f2, by rw [qF 50 0 (by omega)]; exact f3, by rw [qF 50 1 (by omega)]; exact f4, by rw [qF 218 7 (by omega)]; exact f5, ?_⟩
  · rw [qF 218 6 (by omega), w2, qR 38 17 (by omega) (by omega)]
    intro h
    obtain ⟨g1, g2, g3⟩ := e3 h
    exact ⟨g1, cr (by omega) (by omega) g2, g3⟩
  · intro i hi
    obtain ⟨g1, g2, g3, g4⟩ := f6 i hi
    have hm : (fr + 12 - A + i) % 12 < 12 := Nat.mod_lt _ (by decide)
    refine ⟨g1.wc (fun k hk => hp i k (by omega)), cr (by omega) (by omega) (g2.wc (fun k hk => hp i k hk) g1), ?_, ?_⟩
    · rw [qR _ 17 (by omega) (by omega), qR 14 17 (by omega) (by omega)]
      exact g3
    · rw [hp i 3 (by omega), q9 3 (by omega)]
      exact g4
theorem Idle.fl {Θ : GP} {S S' : PZ} (h : Idle Θ S) (qR : ∀ j, zR S' 214 j = zR S 214 j) (qA : ∀ k, k = 216 ∨ k = 217 → zA S' k = zA S k) (q0 : zA S' 200 0 = zA S 200 0) (qF : ∀ j, j = 23 ∨ j = 24 → zF S' 218 j = zF S 218 j) : Idle Θ S' := by
  obtain ⟨h1, h2, h3, h4⟩ := h
  exact ⟨by rw [qR, qR]; exact h1, by rw [qA 216 (by omega), qA 217 (by omega), q0]; exact h2, by rw [qF 23 (by omega)]; exact h3, by rw [qF 24 (by omega)]; exact h4⟩
theorem CR.told {S : PZ} {c : Nat} {w : Nat → Int32} (h : CR S c w) (v : Int32) : CR S c (upd w 3 v) := by
  obtain ⟨h1, h2, h3, h4, h5, fr, h6, h7, h8⟩ := h
  have e : ∀ k, k ≠ 3 → upd w 3 v k = w k := fun k hk => upd_ne _ _ hk
  have eP : cP (upd w 3 v) = cP w := by unfold cP; rw [e 0 (by decide)]
  have eO : cO' (upd w 3 v) = cO' w := by unfold cO'; rw [e 1 (by decide)]
  refine ⟨?_, fun q hq => ?_, fun s hs => ?_, fun a ha => ?_, by rw [e 7 (by decide)]; exact h5, fr, h6, h7, fun ago hg j hj => ?_⟩
  · rw [e 0 (by decide), e 1 (by decide), e 2 (by decide), e 4 (by decide), e 5 (by decide), e 6 (by decide), e 8 (by decide)]
    exact h1
  · rw [eP] at hq
    rw [e _ (by omega), e _ (by omega), e _ (by omega), e _ (by omega)]
    exact h2 q hq
  · rw [pin_congr (w := w) (e 0 (by decide)) (fun q _ => by rw [e _ (by omega)])]
    exact h3 s hs
  · rw [eO] at ha
    rw [e _ (by omega), e _ (by omega), e _ (by omega), e _ (by omega)]
    exact h4 a ha
  · rw [e 7 (by decide)] at hg
    rw [e _ (by omega)]
    exact h8 ago hg j hj
theorem WB.told {w : Nat → Int32} {v : Int32} (h : WB w) : WB (upd w 3 v) := by
  obtain ⟨h0, h1, h2, h4, h5, h6, h7, hp, ha, hd⟩ := h
  have e : ∀ k, k ≠ 3 → upd w 3 v k = w k := fun k hk => upd_ne _ _ hk
  have eP : cP (upd w 3 v) = cP w := by unfold cP; rw [e 0 (by decide)]
  refine ⟨by rw [e 0 (by decide)]; exact h0, by rw [e 1 (by decide)]; exact h1, by rw [e 2 (by decide)]; exact h2, by rw [e 4 (by decide)]; exact h4, by rw [e 5 (by decide)]; exact h5, by rw [e 6 (by decide)]; exact h6, by rw [e 7 (by decide)]; exact h7, fun p q => ?_, fun a q => ?_, fun p q a b c => ?_⟩
  · rw [e _ (by omega), e _ (by omega), e _ (by omega), e _ (by omega)]; exact hp p q
  · rw [e _ (by omega), e _ (by omega), e _ (by omega), e _ (by omega)]; exact ha a q
  · rw [eP] at b
    rw [e _ (by omega), e _ (by omega)] at c
    rw [e _ (by omega)]
    exact hd p q a b c
theorem pc3 (Θ : GP) : PC_3 Θ (gb Θ) (gb Θ + 218) (gb Θ + 234) (Inv Θ) := by
  intro v xs i hI
  obtain ⟨S, ω, rfl, hC, hI⟩ := hI
  have hW := hC.1.1
  obtain ⟨len, h4, hl, hm⟩ := hC.2.1
  have hbb := fun i (hi : i < len) => tbN_eq hC (i := i) (by omega)
  obtain ⟨x, hx⟩ : ∃ x : TX, x = (len, tbN S) := ⟨_, rfl⟩
  have hx1 : x.1 = len := by rw [hx]
  have hx2 : x.2 = tbN S := by rw [hx]
  have hx4 : x.1 ≤ 400 := by omega
  show stW Θ _ _ (fun ω n => W_law Θ (gb Θ) (gb Θ + 234) ω n) (fun ω n => F_X11_law Θ (gb Θ + 218) ω n) _ _
  refine fin_W fun n hn => ?_
  have hf : gb Θ + 234 < n := hn _ _ laz_o
  have ht : TC S x := ⟨by rw [hx1]; exact hl, by omega, fun i hi => by rw [hx2]; exact ⟨(hbb i (by omega)).1, (hbb i (by omega)).2.1⟩⟩
  have h0 : zA S 200 0 = 0 := (hI.2.1 0 (by omega)).2.2
  have hMT : ∀ T : PZ, zF T 218 9 = nI len → zA T 224 = zA S 224 → MTx (rdU T) x := by
    intro T q1 q2
    refine ⟨?_, by omega, fun i hi => ?_⟩
    · unfold rdU
      rw [zF_ne _ _ (by omega), zF_ne _ _ (by omega), zF_ne _ _ (by omega), zF_eq, hx1]
      exact q1
    · rw [show zA (rdU T) 224 = zA T 224 from rfl, q2, hx2]
      exact (hbb i (by omega)).2
  have rdA : ∀ (T : PZ) (k : Nat), zA (rdU T) k = zA T k := fun T k => rfl
  have rd9 : ∀ T : PZ, zF (rdU T) 218 9 = 0 := fun T => by unfold rdU; rw [zF_ne _ _ (by omega), zF_ne _ _ (by omega), zF_eq]
  have rd0 : ∀ T : PZ, zF (rdU T) 218 0 = 0 := fun T => by unfold rdU; rw [zF_ne _ _ (by omega), zF_ne _ _ (by omega), zF_ne _ _ (by omega), zF_ne _ _ (by omega), zF_eq]
  rcases x_rdLaw (Θ := Θ) (ω := ω) hf ht h0 with ⟨o1, S1, e1, q1, t1⟩ | ⟨L, S1, ω1, n1, fk, fa, o1, e1, q1, k1, k2, k3⟩
  · obtain ⟨T, hT⟩ : ∃ T, T = uF (uF S1 0 14 (nI (lwP x).1)) 1 0 0 := ⟨_, rfl⟩
    have tF : ∀ k j, ¬ (k = 1 ∧ j ≤ 3) → ¬ (k = 197 ∧ (j = 1 ∨ j = 2)) → ¬ (k = 0 ∧ j = 14) → zF T k j = zF S k j := fun k j a b c => by rw [hT, zF_ne _ _ (by omega), zF_ne _ _ (by omega), q1.1 k j (by omega) b]
    have tA : ∀ k, ¬ (198 ≤ k ∧ k ≤ 201) → zA T k = zA S k := fun k a => by rw [hT]; exact q1.2.1 k a
    have tR : ∀ k j, zR T k j = zR S k j := fun k j => by rw [hT]; exact q1.2.2.1 k j
    refine ⟨1, T, ω, ?_, fun n2 => ?_⟩
    · show W_law Θ (gb Θ) (gb Θ + 234) (laz Θ S ω) n = _
      unfold W_law F_X10_law
      rw [c10w, r10_7, d197, e1, kN_0, r10_5, a1_1, t1, w10_14, r10_5, b1_0, wrJ_x, hT]
    · obtain ⟨S', p, b, r1, r2, _⟩ := m_law (Θ := Θ) (S := T) (ω := ω) (n := n2) (hMT T (by rw [tF 218 9 (by omega) (by omega) (by omega)]; exact hm) (tA 224 (by omega)))
      have r2 := r2 o1
      have uFx : ∀ k j, ¬ (k = 218 ∧ (j = 0 ∨ 9 ≤ j ∧ j ≤ 16)) → zF (uF (uF (mT S' p b) 218 14 (nI (lwP x).1)) 218 0 1) k j = zF T k j := fun k j a => by rw [zF_ne _ _ (by omega), zF_ne _ _ (by omega), mT_ne _ _ _ (by omega), r1.1 k j (by omega), rdU_F a]
      refine ⟨0, _, n2, r2, zF_eq _ _ _ _, fun u => absurd u (by decide), ?_, ?_⟩
      · refine hC.dl (fun k j q => ?_) (fun k q => ?_) (fun k q => ?_) (fun k j a c => ?_) ⟨0, by omega, ?_, ?_⟩ ?_ ?_
        · rw [uFx k j (by omega), tF k j (by omega) (by omega) (by omega)]
        · exact (r1.2.1 k (by omega)).trans (tA k (by omega))
        · exact (r1.2.2.1 k q).trans (by rw [rdA, tA 219 (by omega)])
        · exact (r1.2.2.2.1 k j).trans (tR k j)
        · rw [uFx 1 0 (by omega), hT, zF_eq]; rfl
        · rw [zF_ne _ _ (by omega), zF_ne _ _ (by omega), mT_ne _ _ _ (by omega), r1.1 218 9 (by omega), rd9]; rfl
        · show ∀ i, i < 400 → byR (zA S' 2 i) (zA S' 224 i)
          rw [r1.2.1 2 (by omega), r1.2.1 224 (by omega), rdA, rdA, tA 2 (by omega), tA 224 (by omega)]
          exact hC.2.2.1
        · rw [uFx 0 14 (by omega), hT, zF_ne _ _ (by omega), zF_eq, zF_ne _ _ (by omega), zF_eq]
      · refine hI.fl (fun j => (r1.2.2.2.1 214 j).trans (tR 214 j)) (fun k q => (r1.2.1 k (by omega)).trans (tA k (by omega))) ?_ (fun j q => ?_)
        · show zA S' 200 0 = _
          rw [r1.2.1 200 (by omega), rdA, hT]
          exact q1.2.2.2.2
        · rw [uFx 218 j (by omega), tF 218 j (by omega) (by omega) (by omega)]
  · obtain ⟨g1, g2, g3, g4⟩ := (lwPG hx4).2 L o1
    have g0 := (lwPG hx4).1
    obtain ⟨T, hT⟩ : ∃ T, T = uL (uF (uR (uF (uF S1 0 14 (-1)) 1 0 0) 14 17 n) 50 0 0) 234 (nI L.length).toInt64 := ⟨_, rfl⟩
    have tF : ∀ k j, ¬ (k = 1 ∧ j ≤ 3) → ¬ (k = 197 ∧ (j = 1 ∨ j = 2)) → ¬ (k = 0 ∧ j = 14) → ¬ (k = 50 ∧ j = 0) → zF T k j = zF S k j := fun k j a b c d => by rw [hT, zF_uL, zF_ne _ _ (by omega), zF_uR, zF_ne _ _ (by omega), zF_ne _ _ (by omega), q1.1 k j (by omega) b]
    have tA : ∀ k, ¬ (198 ≤ k ∧ k ≤ 201) → zA T k = zA S k := fun k a => by rw [hT]; exact q1.2.1 k a
    have tR : ∀ k j, ¬ (k = 14 ∧ j = 17) → zR T k j = zR S k j := fun k j a => by
      rw [hT]
      show zR (uR (uF (uF S1 0 14 (-1)) 1 0 0) 14 17 n) k j = _
      rw [zR_uR, if_neg a]
      exact q1.2.2.1 k j
    have hX := k2
    obtain ⟨ak, aa, as, ac, lk, ll, ls, lc, sf, cf, ⟨c0, _⟩, ⟨n0, _⟩, _⟩ := hX
    refine ⟨0, T, ω1, ?_, fun n2 => ?_⟩
    · show W_law Θ (gb Θ) (gb Θ + 234) (laz Θ S ω) n = _
      unfold W_law F_X10_law F_X5_forget
      rw [c10w, r10_7, d197, e1, kN_v, w10_14, r10_5, b1_0, r10_0, b14_17, r10_4, d50, b50_0, kV_v, z_ro (x := nI L.length) n0 c0 rfl, wrJ_v, hT]
    · obtain ⟨S', p, b, r1, _, r3⟩ := m_law (Θ := Θ) (S := T) (ω := ω1) (n := n2) (hMT T (by rw [tF 218 9 (by omega) (by omega) (by omega) (by omega)]; exact hm) (tA 224 (by omega)))
      obtain ⟨r3, r4⟩ := r3 L o1 g1
      have hS9 : ∀ k, k < 305 → lwC (upd (zA S' 219) 1154 (nI L.length)) 849 k = zA S 219 k := fun k hk => by
        unfold lwC
        rw [if_neg (by omega), upd_ne _ _ (by omega), r1.2.2.1 k (by omega), rdA, tA 219 (by omega)]
      have hLM := law_M (w := zA S' 219) g1 (by omega) g4 r3 k3
      generalize hg : lwC (upd (zA S' 219) 1154 (nI L.length)) 849 = g at *
      have uFx : ∀ k j, ¬ (k = 218 ∧ (j = 0 ∨ j = 7 ∨ 9 ≤ j ∧ j ≤ 16)) → zF (uF (uA (uF (mT S' p b) 218 14 (-1)) 219 (upd g 3 1)) 218 7 0) k j = zF T k j := fun k j a => by rw [zF_ne _ _ (by omega), zF_uA, zF_ne _ _ (by omega), mT_ne _ _ _ (by omega), r1.1 k j (by omega), rdU_F (by omega)]
      have uAx : ∀ k, k ≠ 219 → zA (uF (uA (uF (mT S' p b) 218 14 (-1)) 219 (upd g 3 1)) 218 7 0) k = zA T k := fun k a => by
        rw [zA_uF, zA_ne _ _ a]
        exact (r1.2.1 k a).trans (rdA T k)
      have u9 : zA (uF (uA (uF (mT S' p b) 218 14 (-1)) 219 (upd g 3 1)) 218 7 0) 219 = upd g 3 1 := zA_eq _ _ _
      have uRx : ∀ k j, zR (uF (uA (uF (mT S' p b) 218 14 (-1)) 219 (upd g 3 1)) 218 7 0) k j = zR T k j := fun k j => r1.2.2.2.1 k j
      have uLx : zL (uF (uA (uF (mT S' p b) 218 14 (-1)) 219 (upd g 3 1)) 218 7 0) 234 = (nI L.length).toInt64 := by
        refine (r1.2.2.2.2 234).trans ?_
        show zL T 234 = _
        rw [hT, zL_uL, if_pos rfl]
      have u0 : zF (uF (uA (uF (mT S' p b) 218 14 (-1)) 219 (upd g 3 1)) 218 7 0) 218 0 = 0 := by
        rw [zF_ne _ _ (by omega), zF_uA, zF_ne _ _ (by omega), mT_ne _ _ _ (by omega), r1.1 218 0 (by omega), rd0]
      have u99 : zF (uF (uA (uF (mT S' p b) 218 14 (-1)) 219 (upd g 3 1)) 218 7 0) 218 9 = 0 := by
        rw [zF_ne _ _ (by omega), zF_uA, zF_ne _ _ (by omega), mT_ne _ _ _ (by omega), r1.1 218 9 (by omega), rd9]
      have u14 : zF (uF (uA (uF (mT S' p b) 218 14 (-1)) 219 (upd g 3 1)) 218 7 0) 218 14 = -1 := by
        rw [zF_ne _ _ (by omega), zF_uA, zF_eq]
      have u7 : zF (uF (uA (uF (mT S' p b) 218 14 (-1)) 219 (upd g 3 1)) 218 7 0) 218 7 = 0 := zF_eq _ _ _ _
      generalize uF (uA (uF (mT S' p b) 218 14 (-1)) 219 (upd g 3 1)) 218 7 0 = D at *
      have hCo : Core Θ S ω1 := hC.om (fun a q ha hq => by rw [k1 a (hn a q (by rw [laz_out Θ S ω ha]; exact hq))]; exact hq)
      refine ⟨nI L.length, D, n2, r4, u0, fun _ => uLx, ?_, ?_⟩
      · refine hCo.nw (lw := (L.length, fk, fa, mnL L)) ?_ ?_ ?_ (fun k j q => ?_) (fun k q => ?_) ?_ ?_ u7 ⟨0, by omega, ?_, u99⟩ ?_ ?_
        · rw [u9]; exact (hW.wc (fun k hk => hS9 k (by omega))).told
        · rw [u9]
          refine ((hC.1.2.1.wc hS9 hW).told 1).congr (fun k j a c => ?_) (fun k a c => ?_)
          · rw [uFx k j (by omega), tF k j (by omega) (by omega) (by omega) (by omega)]
          · rw [uAx k (by omega), tA k (by omega)]
        · rw [u9, uRx 14 17, show zR T 14 17 = n by rw [hT]; rfl]
          refine ⟨?_, hLM⟩
          rw [upd_same]
          exact k2
        · rw [uFx k j (by omega), tF k j (by omega) (by omega) (by omega) (by omega)]
        · rw [uAx k (by omega), tA k (by omega)]
        · rw [uRx 38 17, tR 38 17 (by omega)]
        · rw [uFx 50 0 (by omega), hT, zF_uL, zF_eq]
        · rw [uFx 1 0 (by omega), hT, zF_uL, zF_ne _ _ (by omega), zF_uR, zF_eq]; rfl
        · rw [uAx 2 (by omega), uAx 224 (by omega), tA 2 (by omega), tA 224 (by omega)]
          exact hC.2.2.1
        · rw [uFx 0 14 (by omega), u14, hT, zF_uL, zF_ne _ _ (by omega), zF_uR, zF_ne _ _ (by omega), zF_eq]
      · refine hI.fl (fun j => by rw [uRx 214 j, tR 214 j (by omega)]) (fun k q => by rw [uAx k (by omega), tA k (by omega)]) ?_ (fun j q => ?_)
        · rw [uAx 200 (by omega), hT]
          exact q1.2.2.2.2
        · rw [uFx 218 j (by omega), tF 218 j (by omega) (by omega) (by omega) (by omega)]
