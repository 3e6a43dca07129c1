/-! ways: the class's side, one of the accused -/
theorem wyD_lt {c : RPar} (h : nvN c ≤ 60) (h8 : npS c ten ≤ 8) {s : Nat} (hs : s ≤ 10) (u : Nat) : wyD c s u < 2 ^ 31 := by
  have h1 := wyD_le h hs u
  have h2 := p3_le h8
  have h3 : wyD c s u ≤ wyD c s u * 3 ^ (npS c ten - npS c s) := Nat.le_mul_of_pos_right _ (Nat.pow_pos (by omega))
  omega
def IdW (Θ : GP) (S : PZ) : Prop := ∃ h t, zHT Θ S h t ∧ ∀ u, u ≤ 60 → zA S h u = 0 ∧ zA S t u = 0
theorem Idle.w {Θ : GP} {S : PZ} (hI : Idle Θ S) : IdW Θ S := by
  obtain ⟨h1, h2, _⟩ := hI
  rcases h1 with ⟨a, b⟩ | ⟨a, b⟩
  · exact ⟨216, 217, ⟨Or.inl ⟨rfl, rfl⟩, a, b⟩, fun u hu => ⟨(h2 u hu).1, (h2 u hu).2.1⟩⟩
  · exact ⟨217, 216, ⟨Or.inr ⟨rfl, rfl⟩, a, b⟩, fun u hu => ⟨(h2 u hu).2.1, (h2 u hu).1⟩⟩
theorem IdW.idle {Θ : GP} {S : PZ} (hI : IdW Θ S) (h200 : zA S 200 0 = 0) (h23 : zF S 218 23 = 0) (h24 : zF S 218 24 = 0) : Idle Θ S := by
  obtain ⟨h, t, ⟨e1, e2, e3⟩, e4⟩ := hI
  rcases e1 with ⟨rfl, rfl⟩ | ⟨rfl, rfl⟩
  · exact ⟨Or.inl ⟨e2, e3⟩, fun u hu => ⟨(e4 u hu).1, (e4 u hu).2, h200⟩, h23, h24⟩
  · exact ⟨Or.inr ⟨e2, e3⟩, fun u hu => ⟨(e4 u hu).2, (e4 u hu).1, h200⟩, h23, h24⟩
/-- S' is as S but for what counting of one writes -/
def XW (S S' : PZ) : Prop := (∀ k j, k ≠ 214 → ¬ (k = 202 ∧ 3 ≤ j ∧ j ≤ 5) → zF S' k j = zF S k j) ∧ (∀ k, k ≠ 207 → k ≠ 215 → k ≠ 216 → k ≠ 217 → zA S' k = zA S k) ∧ (∀ k j, ¬ (k = 214 ∧ (j = 4 ∨ j = 5)) → zR S' k j = zR S k j) ∧ (∀ k, zL S' k = zL S k)
theorem XW.rf (S : PZ) : XW S S := ⟨fun _ _ _ _ => rfl, fun _ _ _ _ _ => rfl, fun _ _ _ => rfl, fun _ => rfl⟩
theorem XW.trans {S S' S'' : PZ} (h : XW S S') (g : XW S' S'') : XW S S'' := ⟨fun k j q r => (g.1 k j q r).trans (h.1 k j q r), fun k a b c d => (g.2.1 k a b c d).trans (h.2.1 k a b c d), fun k j q => (g.2.2.1 k j q).trans (h.2.2.1 k j q), fun k => (g.2.2.2 k).trans (h.2.2.2 k)⟩
theorem XG.xw {S S' : PZ} (h : XG S S') : XW S S' := ⟨fun k j q _ => h.1 k j q, h.2.1, h.2.2.1, h.2.2.2⟩
theorem XW.nB {S S' : PZ} (h : XW S S') {j : Nat} {v : Int32} (q : 3 ≤ j ∧ j ≤ 5) : XW S (uF S' 202 j v) := ⟨fun k i a b => by rw [zF_ne _ _ (by rintro ⟨rfl, rfl⟩; exact b ⟨rfl, q⟩), h.1 k i a b], h.2.1, h.2.2.1, h.2.2.2⟩
theorem RLd.xw {Θ : GP} {S S' : PZ} {ω : OW} {w : Nat → Int32} {lw : LW} {tk : Nat → Int32} {es : Nat → Bool} (h : RLd Θ S ω w lw tk es) (x : XW S S') : RLd Θ S' ω w lw tk es := by
  obtain ⟨h1, h2, h3, h4, h5⟩ := h
  obtain ⟨x1, x2, x3, x4⟩ := x
  refine ⟨by rw [x3 14 17 (by omega)]; exact h1, by rw [x1 14 3 (by omega) (by omega)]; exact h2, ?_, ?_, ?_⟩
  · rw [x2 15 (by omega) (by omega) (by omega) (by omega), x2 16 (by omega) (by omega) (by omega) (by omega), x2 204 (by omega) (by omega) (by omega) (by omega)]; exact h3
  · rw [x2 203 (by omega) (by omega) (by omega) (by omega)]; exact h4
  · rw [x1 202 6 (by omega) (by omega)]; exact h5
section WC
variable {Θ : GP} {S S0 : PZ} {ω : OW} {n : Nat} {c : RPar} {h t : Nat}
theorem x_trk (r : RX Θ S ω 202 c) {s : Nat} (hs : s < 10) : zA S 203 s = c.2.2.1 s ∧ ((c.2.2.1 s < 0) ↔ c.2.2.1 s = -1) ∧ ((0 ≤ c.2.2.1 s) ↔ c.2.2.1 s ≠ -1) := by
  refine ⟨r.2.2.2.2.1 s hs, ?_, ?_⟩
  · rcases r.1.2.2.1 s hs with z | ⟨p, hp, e1, _⟩
    · rw [z]; decide
    · have := r.1.1.P8
      rw [e1]
      exact ⟨fun u => absurd u (nI_pos (by omega)), fun u => ((q_m1 (by omega)).mp u).elim⟩
  · rcases r.1.2.2.1 s hs with z | ⟨p, hp, e1, _⟩
    · rw [z]; decide
    · have := r.1.1.P8
      rw [e1]
      exact ⟨fun _ u => ((q_m1 (by omega)).mp u).elim, fun _ => nI_pos' (by omega)⟩
theorem x_rows15_L (r : RX Θ S ω 202 c) (e : zHT Θ S h t) : ∀ (m s f : Nat), s + m = 10 → m < f → L_X9_countOf_15 Θ f (gb Θ + 214) (nI s) (laz Θ (uF S 214 2 (nI (3 ^ npS c s))) ω) n = L_X9_countOf_77 Θ 5000 (gb Θ + 214) (nI (3 ^ npS c 10)) 0 (laz Θ (uF (uA (uF (uF S 214 2 (nI (3 ^ npS c 10))) 214 0 0) h (upd (zA S h) 0 1)) 214 3 0) ω) n := by
  obtain ⟨k1, k2, k3, k4, k5, k6, k7⟩ := e.1.kd
  intro m
  induction m with
  | zero =>
    intro s f h1 h2
    obtain ⟨f, rfl⟩ : ∃ g, f = g + 1 := ⟨f - 1, by omega⟩
    have : s = 10 := by omega
    subst this
    unfold L_X9_countOf_15 B_X9_countOf_15
    rw [if_pos (show (10 : Int32) ≤ nI 10 from nI_le (a := 10) (by omega) (by omega)), b214_0, a214_4, zR_uF, zR_uF, e.2.1, sI_lit, z_sI (i := 0) k1 (by rw [k3]; decide) (by rw [k3]; decide), b214_3, a214_2, zF_ne _ _ (by omega), zF_uA, zF_ne _ _ (by omega), zF_eq]
    rfl
  | succ m ih =>
    intro s f h1 h2
    obtain ⟨f, rfl⟩ : ∃ g, f = g + 1 := ⟨f - 1, by omega⟩
    have ht := x_trk r (show s < 10 by omega)
    rw [show L_X9_countOf_15 Θ (f + 1) (gb Θ + 214) (nI s) (laz Θ (uF S 214 2 (nI (3 ^ npS c s))) ω) n = B_X9_countOf_15 Θ (L_X9_countOf_15 Θ f) (gb Θ + 214) (nI s) (laz Θ (uF S 214 2 (nI (3 ^ npS c s))) ω) n from rfl, ← ih (s + 1) f (by omega) (by omega), show npS c (s + 1) = npS c s + (if c.2.2.1 s = -1 then 0 else 1) from rfl]
    unfold B_X9_countOf_15 J_X9_countOf_43
    rw [if_neg (show ¬ (10 : Int32) ≤ nI s from nI_ge (b := 10) (by omega) (by omega)), a214_2, zF_eq, a214_7, a202_1, l_203 (by omega), zA_uF, ht.1, nI_1]
    by_cases z : c.2.2.1 s = -1
    · rw [if_pos (ht.2.1.mpr z), if_pos z, b214_2, uF_uF, Int32.mul_one, Nat.add_zero (npS c s)]
    · rw [if_neg (fun u => z (ht.2.1.mp u)), if_neg z, b214_2, uF_uF, show (3 : Int32) = nI 3 from rfl, nI_mul, Nat.pow_succ]
theorem x_cnt77_L (hes : ∀ p, c.2.2.2.1 p = false) (h8 : npS c ten ≤ 8) {v : Int32} : ∀ (m s f h t : Nat) (S : PZ), s + m = 10 → m < f → XG S0 S → RX Θ S ω 202 c → CS Θ S h t (wyD c s) → zF S 214 0 = nI (wyT c s) → zF S 214 2 = v → (∀ u, u < s → zA S 215 u = nI (wyA c u)) → ∃ S', L_X9_countOf_77 Θ f (gb Θ + 214) (nI (3 ^ (npS c ten - npS c s))) (nI s) (laz Θ S ω) n = some (.inl (none, laz Θ S' ω, n)) ∧ XG S0 S' ∧ IdW Θ S' ∧ zF S' 214 0 = nI (wyT c 10) ∧ zF S' 214 2 = v ∧ ∀ u, u < 10 → zA S' 215 u = nI (wyA c u) := by
  intro m
  induction m with
  | zero =>
    intro s f h t S h1 h2 xg r cs h0 hv hA
    obtain ⟨f, rfl⟩ : ∃ g, f = g + 1 := ⟨f - 1, by omega⟩
    have hs : s = 10 := by omega
    subst hs
    obtain ⟨e1, e2, _⟩ := cs
    obtain ⟨k1, k2, k3, k4, k5, k6, k7⟩ := e1.1.kd
    refine ⟨uA S h (fun j => if 0 ≤ j ∧ j < alz h then 0 else zA S h j), ?_, xg.nA (k := h) (by omega), ⟨h, t, ⟨e1.1, e1.2.1, e1.2.2⟩, fun u hu => ⟨?_, ?_⟩⟩, h0, hv, fun u hu => ?_⟩
    · unfold L_X9_countOf_77 B_X9_countOf_77
      rw [if_pos (show (10 : Int32) ≤ nI 10 from nI_le (a := 10) (by omega) (by omega)), a214_4, e1.2.1, x_fill k1 (by omega), kV_v]
    · rw [zA_eq, if_pos (by omega)]
    · rw [zA_ne _ _ (fun y => k5 y.symm)]; exact (e2 u hu).2
    · rw [zA_ne _ _ (by omega)]; exact hA u hu
  | succ m ih =>
    intro s f h t S h1 h2 xg r cs h0 hv hA
    obtain ⟨f, rfl⟩ : ∃ g, f = g + 1 := ⟨f - 1, by omega⟩
    have hs : s < 10 := by omega
    have ht := x_trk r hs
    have hnv := r.1.nv
    have hcm := r.1.cm
    obtain ⟨k1, k2, k3, k4, k5, k6, k7⟩ := cs.1.1.kd
    have cs0 : CS Θ (uA S 215 (upd (zA S 215) s 0)) h t (wyD c s) := by
      obtain ⟨e1, e2, e3⟩ := cs
      refine ⟨⟨e1.1, e1.2.1, e1.2.2⟩, fun u hu => ?_, e3⟩
      rw [zA_ne _ _ (by omega), zA_ne _ _ (by omega)]; exact e2 u hu
    have xg0 : XG S (uA S 215 (upd (zA S 215) s 0)) := (XG.rf S).nA (by omega)
    have r0 := r.xg xg0
    have hm := npS_mono c (s + 1) (10 - (s + 1))
    rw [show s + 1 + (10 - (s + 1)) = 10 by omega] at hm
    have hm : npS c (s + 1) ≤ npS c ten := by rw [ten_eq]; exact hm
    rw [show L_X9_countOf_77 Θ (f + 1) (gb Θ + 214) (nI (3 ^ (npS c ten - npS c s))) (nI s) (laz Θ S ω) n = B_X9_countOf_77 Θ (L_X9_countOf_77 Θ f) (gb Θ + 214) (nI (3 ^ (npS c ten - npS c s))) (nI s) (laz Θ S ω) n from rfl]
    unfold B_X9_countOf_77 J_X9_countOf_141
    rw [if_neg (show ¬ (10 : Int32) ≤ nI s from nI_ge (b := 10) (by omega) (by omega)), a214_1, s_215 hs, a214_7, a202_1, l_203 hs, zA_ne _ _ (show 203 ≠ 215 by decide), ht.1]
    by_cases z : c.2.2.1 s = -1
    · have en : npS c (s + 1) = npS c s := by show npS c s + _ = _; rw [if_pos z]; rfl
      have eD : wyD c (s + 1) = eaR (cmN c) (wyD c s) 61 := if_pos z
      have eA : wyA c s = 0 := by unfold wyA wyE; rw [if_pos z, Nat.zero_mul]
      obtain ⟨S1, e1, x1, c1, g0, g2, g15⟩ := x_ease (Θ := Θ) (ω := ω) (n := n) cs0 (cm := cmN c) (r0.2.2.1.trans hcm.1) hcm.2
      obtain ⟨S2, e2, x2, i2, o2⟩ := ih (s + 1) f h t S1 (by omega) (by omega) ((xg.trans xg0).trans x1) (r0.xg x1) (by rw [eD]; exact c1) (by rw [g0]; show zF S 214 0 = nI (wyT c s + wyA c s); rw [eA, Nat.add_zero]; exact h0) (by rw [g2]; exact hv) (fun u hu => by
        rw [g15, zA_eq]
        by_cases y : u = s
        · subst y; rw [upd_same, eA]; rfl
        · rw [upd_ne _ _ y]; exact hA u (by omega))
      refine ⟨S2, ?_, x2, i2, o2⟩
      rw [if_neg (fun u => (ht.2.2.mp u) z), d214, e1, kV_v, nI_1, ← e2, en]
    · have en : npS c (s + 1) = npS c s + 1 := by show npS c s + _ = _; rw [if_neg z]
      have eD : wyD c (s + 1) = (spR (frN c s) (nvN c) (wyD c s) 61).1 := if_neg z
      have eA : (spR (frN c s) (nvN c) (wyD c s) 61).2 * 3 ^ (npS c ten - npS c (s + 1)) = wyA c s := by unfold wyA wyE; rw [if_neg z]
      have ex : nI (3 ^ (npS c ten - npS c s)) / 3 = nI (3 ^ (npS c ten - npS c (s + 1))) := by
        have h3 := p3_le h8
        have hb : 3 ^ (npS c ten - npS c s) ≤ 3 ^ npS c ten := Nat.pow_le_pow_right (by omega) (by omega)
        rw [show (3 : Int32) = nI 3 from rfl, nI_div (by omega) (by omega), show npS c ten - npS c s = (npS c ten - npS c (s + 1)) + 1 by omega, Nat.pow_succ, Nat.mul_div_cancel _ (by omega)]
      obtain ⟨S1, e1, x1, c1, g0, g2, g15⟩ := x_spread (Θ := Θ) (ω := ω) (n := n) r0 hes hs z cs0 (fun u _ => wyD_lt hnv.2 h8 (by omega) u)
      have xg1 : XG S0 S1 := (xg.trans xg0).trans x1
      have a1 : zF (uA S1 215 (upd (zA S1 215) s (nI (wyA c s)))) 214 0 = nI (wyT c s) := by rw [zF_uA, g0]; exact h0
      obtain ⟨S2, e2, x2, i2, o2⟩ := ih (s + 1) f t h (uF (uA S1 215 (upd (zA S1 215) s (nI (wyA c s)))) 214 0 (nI (wyT c s) + nI (wyA c s))) (by omega) (by omega) ((xg1.nA (by omega)).nF) (r0.xg ((x1.nA (by omega)).nF)) (by
        rw [eD]
        obtain ⟨b1, b2, tp, b3, b4, b5⟩ := c1
        refine ⟨⟨b1.1, b1.2.1, b1.2.2⟩, fun u hu => ?_, tp, b3, ?_, b5⟩
        · rw [zA_uF, zA_uF, zA_ne _ _ (by omega), zA_ne _ _ (by omega)]; exact b2 u hu
        · rw [zF_ne _ _ (by omega), zF_uA]; exact b4) (by rw [zF_eq, nI_add]; rfl) (by rw [zF_ne _ _ (by omega), zF_uA, g2]; exact hv) (fun u hu => by
        rw [zA_uF, zA_eq]
        by_cases y : u = s
        · subst y; rw [upd_same]
        · rw [upd_ne _ _ y, g15, zA_eq, upd_ne _ _ y]; exact hA u (by omega))
      refine ⟨S2, ?_, x2, i2, o2⟩
      rw [if_pos (ht.2.2.mpr z), a214_1, d214, e1, kI_v, ex, nI_mul, eA, s_215 hs, a214_0, a1, a214_1, l_215 hs, zA_eq, upd_same, b214_0, nI_1, e2]
theorem x_countOf {w : Nat → Int32} {lw : LW} {a : Nat} (hW : WB w) (hM : LawM w lw) (ha : a < 6) (hl : RLd Θ S ω w lw (fun s => pin w (nI s)) (fun _ => false)) (hb : zA S 20 a = w (4 * a + 41) ∧ zA S 21 a = w (4 * a + 42) ∧ zA S 22 a = w (4 * a + 43)) (hi : IdW Θ S) : ∃ S', F_X9_countOf Θ (gb Θ + 214) (nI a) (laz Θ S ω) n = some (.inl (none, laz Θ S' ω, n)) ∧ XW S S' ∧ IdW Θ S' ∧ zF S' 214 0 = nI (wyT (cPar w lw a false false) ten) ∧ zF S' 214 2 = nI (3 ^ npS (cPar w lw a false false) ten) ∧ ∀ u, u < 10 → zA S' 215 u = nI (wyA (cPar w lw a false false) u) := by
  have hR : isR 202 := Or.inl rfl
  obtain ⟨h, t, e, hz⟩ := hi
  obtain ⟨k1, k2, k3, k4, k5, k6, k7⟩ := e.1.kd
  have h8 := np_le8 hW (c := cPar w lw a false false) (fun s _ => rfl)
  have r1 : RX Θ (uF (uF (uF S 202 3 (zA S 20 a)) 202 4 (zA S 21 a)) 202 5 (zA S 22 a)) ω 202 (cPar w lw a false false) := by
    refine RLd.rx (((hl.nF (by decide)).nF (by decide)).nF (by decide)) (cPar_ok hW hM ha false false) ?_ ?_ ?_
    · rw [zF_ne _ _ (by omega), zF_ne _ _ (by omega), zF_eq]; exact hb.1
    · rw [zF_ne _ _ (by omega), zF_eq]; exact hb.2.1
    · rw [zF_eq]; exact hb.2.2
  have xw1 : XW S (uF (uF (uF S 202 3 (zA S 20 a)) 202 4 (zA S 21 a)) 202 5 (zA S 22 a)) := (((XW.rf S).nB (by omega)).nB (by omega)).nB (by omega)
  have e1 : zHT Θ (uF (uF (uF S 202 3 (zA S 20 a)) 202 4 (zA S 21 a)) 202 5 (zA S 22 a)) h t := ⟨e.1, e.2.1, e.2.2⟩
  have hz1 : ∀ u, u ≤ 60 → zA (uF (uF (uF S 202 3 (zA S 20 a)) 202 4 (zA S 21 a)) 202 5 (zA S 22 a)) h u = 0 ∧ zA (uF (uF (uF S 202 3 (zA S 20 a)) 202 4 (zA S 21 a)) 202 5 (zA S 22 a)) t u = 0 := hz
  unfold F_X9_countOf
  rw [a214_7, d202, x_board hR ha, kV_v, b214_2]
  generalize uF (uF (uF S 202 3 (zA S 20 a)) 202 4 (zA S 21 a)) 202 5 (zA S 22 a) = S1 at r1 xw1 e1 hz1 ⊢
  have e2 : L_X9_countOf_15 Θ 5000 (gb Θ + 214) 0 (laz Θ (uF S1 214 2 1) ω) n = _ := x_rows15_L (Θ := Θ) (ω := ω) (n := n) r1 e1 10 0 5000 (by omega) (by omega)
  have xg2 : XG S1 (uF (uA (uF (uF S1 214 2 (nI (3 ^ npS (cPar w lw a false false) 10))) 214 0 0) h (upd (zA S1 h) 0 1)) 214 3 0) := ((((XG.rf S1).nF).nF).nA (by omega)).nF
  obtain ⟨S2, e3, x3, i3, a3, b3, d3⟩ := x_cnt77_L (Θ := Θ) (S0 := S1) (ω := ω) (n := n) (c := cPar w lw a false false) (fun _ => rfl) h8 (v := nI (3 ^ npS (cPar w lw a false false) ten)) 10 0 5000 h t (uF (uA (uF (uF S1 214 2 (nI (3 ^ npS (cPar w lw a false false) 10))) 214 0 0) h (upd (zA S1 h) 0 1)) 214 3 0) (by omega) (by omega) xg2 (r1.xg xg2) (by
    refine ⟨⟨e1.1, e1.2.1, e1.2.2⟩, fun u hu => ⟨?_, ?_⟩, 0, by omega, zF_eq _ _ _ _, fun u hu => if_neg (by omega)⟩
    · rw [zA_uF, zA_eq]
      show upd (zA S1 h) 0 1 u = nI (if u = 0 then 1 else 0)
      by_cases z : u = 0
      · subst z; rw [upd_same, if_pos rfl]; rfl
      · rw [upd_ne _ _ z, if_neg z, (hz1 u hu).1]; rfl
    · rw [zA_uF, zA_ne _ _ (fun y => k5 y.symm)]; exact (hz1 u hu).2) (by
    rw [zF_ne _ _ (by omega), zF_uA, zF_eq]; rfl) (by
    rw [zF_ne _ _ (by omega), zF_uA, zF_ne _ _ (by omega), zF_eq, ten_eq]) (fun u hu => by omega)
  have e3 : L_X9_countOf_77 Θ 5000 (gb Θ + 214) (nI (3 ^ (npS (cPar w lw a false false) ten - 0))) 0 (laz Θ (uF (uA (uF (uF S1 214 2 (nI (3 ^ npS (cPar w lw a false false) 10))) 214 0 0) h (upd (zA S1 h) 0 1)) 214 3 0) ω) n = _ := e3
  refine ⟨S2, ?_, xw1.trans x3.xw, i3, by rw [a3, ten_eq], b3, d3⟩
  rw [Nat.sub_zero, ten_eq] at e3
  rw [e2, e3]
theorem x_oddsOf {w : Nat → Int32} {lw : LW} {a : Nat} (hW : WB w) (hM : LawM w lw) (ha : a < 6) (hl : RLd Θ S ω w lw (fun s => pin w (nI s)) (fun _ => false)) (hb : zA S 20 a = w (4 * a + 41) ∧ zA S 21 a = w (4 * a + 42) ∧ zA S 22 a = w (4 * a + 43)) (hi : IdW Θ S) : ∃ S', F_X9_oddsOf Θ (gb Θ + 214) (nI a) (laz Θ S ω) n = some (.inl (some (.int (nI (odN (cPar w lw a false false)))), laz Θ S' ω, n)) ∧ XW S S' ∧ IdW Θ S' := by
  obtain ⟨S', e1, x1, i1, a1, b1, _⟩ := x_countOf (Θ := Θ) (S := S) (ω := ω) (n := n) (w := w) (lw := lw) (a := a) hW hM ha hl hb hi
  have h8 := np_le8 hW (c := cPar w lw a false false) (fun s _ => rfl)
  have h3 := p3_le h8
  have hn := (cPar_ok hW hM ha false false).nv.2
  have hT : wyT (cPar w lw a false false) ten ≤ 3 ^ npS (cPar w lw a false false) ten := wyT_le hn (s := ten) (by rw [ten_eq]; omega)
  refine ⟨S', ?_, x1, i1⟩
  unfold F_X9_oddsOf J_X9_oddsOf_29 odN nz
  rw [d214, e1, kV_v, a214_2, b1, if_neg (nI_ne0 h3.2 (by omega)), a214_0, a1, a214_2, b1, if_neg (nI_ne0 h3.2 (by omega)), show (10000 : Int32) = nI 10000 from rfl, nI_mul, nI_div (by omega) (by omega)]
end WC
/-! gap on both sides, on a world that may be another -/
/-- S' is as S but for the ride 202 and the counting -/
def XKw (S S' : PZ) : Prop := (∀ k j, k ≠ 202 → k ≠ 214 → zF S' k j = zF S k j) ∧ (∀ k, ¬ (202 < k ∧ k < 208) → k ≠ 215 → k ≠ 216 → k ≠ 217 → zA S' k = zA S k) ∧ (∀ k j, ¬ (k = 214 ∧ (j = 4 ∨ j = 5)) → zR S' k j = zR S k j) ∧ (∀ k, zL S' k = zL S k)
theorem XKw.rf (S : PZ) : XKw S S := ⟨fun _ _ _ _ => rfl, fun _ _ _ _ _ => rfl, fun _ _ _ => rfl, fun _ => rfl⟩
theorem XKw.trans {S S' S'' : PZ} (h : XKw S S') (g : XKw S' S'') : XKw S S'' := ⟨fun k j q r => (g.1 k j q r).trans (h.1 k j q r), fun k a b c d => (g.2.1 k a b c d).trans (h.2.1 k a b c d), fun k j q => (g.2.2.1 k j q).trans (h.2.2.1 k j q), fun k => (g.2.2.2 k).trans (h.2.2.2 k)⟩
theorem XW.xk {S S' : PZ} (h : XW S S') : XKw S S' := ⟨fun k j a b => h.1 k j b (by omega), fun k a b c d => h.2.1 k (by omega) b c d, h.2.2.1, h.2.2.2⟩
theorem XL.xk {S S' : PZ} (h : XL 202 S S') : XKw S S' := ⟨fun k j a _ => h.1 k j a, fun k a _ _ _ => h.2.1 k a, fun k j _ => h.2.2.1 k j, h.2.2.2⟩
theorem XKw.kp {S S' : PZ} (h : XKw S S') : Kp S S' := by
  obtain ⟨h1, h2, h3, h4⟩ := h
  refine ⟨fun k j q => h1 k j ?_ ?_, fun k q => h2 k ?_ ?_ ?_ ?_, fun k j a b => h3 k j (by omega)⟩
  · rintro rfl; simp [kpF] at q
  · rintro rfl; simp [kpF] at q
  · rintro ⟨a, b⟩; simp [kpA] at q; omega
  · rintro rfl; simp [kpA] at q
  · rintro rfl; simp [kpA] at q
  · rintro rfl; simp [kpA] at q
theorem IdW.xl {Θ : GP} {S S' : PZ} (h : IdW Θ S) (x : XL 202 S S') : IdW Θ S' := by
  obtain ⟨a, b, e, z⟩ := h
  obtain ⟨k1, k2, k3, k4, k5, k6, k7⟩ := e.1.kd
  refine ⟨a, b, ⟨e.1, by rw [x.2.2.1]; exact e.2.1, by rw [x.2.2.1]; exact e.2.2⟩, ?_⟩
  rw [x.2.1 a (by omega), x.2.1 b (by omega)]
  exact z
/-- who is on the track is as in w0 -/
def SmO (w0 w : Nat → Int32) : Prop := w 1 = w0 1 ∧ ∀ a, a < 6 → w (4 * a + 41) = w0 (4 * a + 41) ∧ w (4 * a + 42) = w0 (4 * a + 42) ∧ w (4 * a + 43) = w0 (4 * a + 43) ∧ w (4 * a + 44) = w0 (4 * a + 44)
theorem SmO.rf (w : Nat → Int32) : SmO w w := ⟨rfl, fun _ _ => ⟨rfl, rfl, rfl, rfl⟩⟩
theorem SmO.o {w0 w : Nat → Int32} (h : SmO w0 w) : cO' w = cO' w0 := by unfold cO'; rw [h.1]
section GP'
variable {Θ : GP} {S S0 : PZ} {ω : OW} {n : Nat} {w : Nat → Int32} {lw : LW}
theorem x_bd (hC : Core Θ S0 ω) (xk : XKw S0 S) (hs : SmO (zA S0 219) w) {a : Nat} (ha : a < cO' (zA S0 219)) : zA S 20 a = w (4 * a + 41) ∧ zA S 21 a = w (4 * a + 42) ∧ zA S 22 a = w (4 * a + 43) := by
  have hO := hC.O
  have h := CRa hC.1.2.1 ha
  have g := hs.2 a (by omega)
  rw [xk.2.1 20 (by omega) (by omega) (by omega) (by omega), xk.2.1 21 (by omega) (by omega) (by omega) (by omega), xk.2.1 22 (by omega) (by omega) (by omega) (by omega), g.1, g.2.1, g.2.2.1]
  exact ⟨h.1, h.2.1, h.2.2.1⟩
theorem x_gap_L (hC : Core Θ S0 ω) (hW : WB w) (hM : LawM w lw) (hs : SmO (zA S0 219) w) : ∀ (k a f : Nat) (x : Int32) (S : PZ), a + k = cO' (zA S0 219) → k < f → XKw S0 S → RLd Θ S ω w lw (fun s => pin w (nI s)) (fun _ => false) → IdW Θ S → ∃ S', L_X10_gapAsLaid_4 Θ f (gb Θ) x (nI a) (laz Θ S ω) n = some (.inl (some (.int (gpS w lw k a x)), laz Θ S' ω, n)) ∧ XW S S' ∧ IdW Θ S' := by
  have hO := hC.O
  intro k
  induction k with
  | zero =>
    intro a f x S h1 h2 xk hl hi
    obtain ⟨f, rfl⟩ : ∃ g, f = g + 1 := ⟨f - 1, by omega⟩
    refine ⟨S, ?_, XW.rf S, hi⟩
    unfold L_X10_gapAsLaid_4 B_X10_gapAsLaid_4
    rw [r10_0, a14_1, xk.1 14 1 (by omega) (by omega), hO.2.2, if_pos (nI_le (by omega) (by omega))]
    rfl
  | succ k ih =>
    intro a f x S h1 h2 xk hl hi
    obtain ⟨f, rfl⟩ : ∃ g, f = g + 1 := ⟨f - 1, by omega⟩
    have ha : a < cO' (zA S0 219) := by omega
    have ga := hs.2 a (by omega)
    rw [show L_X10_gapAsLaid_4 Θ (f + 1) (gb Θ) x (nI a) (laz Θ S ω) n = B_X10_gapAsLaid_4 Θ (L_X10_gapAsLaid_4 Θ f) (gb Θ) x (nI a) (laz Θ S ω) n from rfl, show gpS w lw (k + 1) a x = gpS w lw k (a + 1) (if w (4 * a + 44) = 0 then (if w (4 * a + 41) = 0 then x + nI (odN (cPar w lw a false false)) else x + - nI (odN (cPar w lw a false false))) else x) from rfl]
    unfold B_X10_gapAsLaid_4 J_X10_gapAsLaid_53 J_X10_gapAsLaid_55
    rw [r10_0, a14_1, xk.1 14 1 (by omega) (by omega), hO.2.2, if_neg (nI_ge (by omega) (by omega)), r10_0, d14, x_waits hC (xk.2.1 23 (by omega) (by omega) (by omega) (by omega)) ha, kI_v, nI_1, ← ga.2.2.2]
    by_cases z : w (4 * a + 44) = 0
    · obtain ⟨S1, e1, x1, i1⟩ := x_oddsOf (Θ := Θ) (S := S) (ω := ω) (n := n) hW hM (show a < 6 by omega) hl (x_bd hC xk hs ha) hi
      have xk1 := xk.trans x1.xk
      rw [if_pos z, if_pos z, if_neg (show ¬ (1 : Int32) = 0 by decide), r10_10, d214, e1, kI_v, r10_0, d14, x_isInnocent hC (xk1.2.1 20 (by omega) (by omega) (by omega) (by omega)) ha, kI_v, ← ga.1]
      by_cases y : w (4 * a + 41) = 0
      · rw [if_pos y, if_pos y, if_neg (show ¬ (1 : Int32) = 0 by decide)]
        obtain ⟨S2, e2, x2, i2⟩ := ih (a + 1) f (x + nI (odN (cPar w lw a false false))) S1 (by omega) (by omega) xk1 (hl.xw x1) i1
        exact ⟨S2, e2, x1.trans x2, i2⟩
      · rw [if_neg y, if_neg y, if_pos rfl]
        obtain ⟨S2, e2, x2, i2⟩ := ih (a + 1) f (x + - nI (odN (cPar w lw a false false))) S1 (by omega) (by omega) xk1 (hl.xw x1) i1
        exact ⟨S2, e2, x1.trans x2, i2⟩
    · rw [if_neg z, if_neg z, if_pos rfl]
      exact ih (a + 1) f x S (by omega) (by omega) xk hl hi
noncomputable def gpW (w : Nat → Int32) (lw : LW) : Int32 := gpS w lw (cO' w) 0 0
theorem x_gapAsLaid (hC : Core Θ S0 ω) (hW : WB w) (hM : LawM w lw) (hs : SmO (zA S0 219) w) (xk : XKw S0 S) (hl : RLd Θ S ω w lw (fun s => pin w (nI s)) (fun _ => false)) (hi : IdW Θ S) : ∃ S', F_X10_gapAsLaid Θ (gb Θ) (laz Θ S ω) n = some (.inl (some (.int (gpW w lw)), laz Θ S' ω, n)) ∧ XW S S' ∧ IdW Θ S' := by
  have hO := hC.O
  have := x_gap_L (Θ := Θ) (n := n) hC hW hM hs (cO' (zA S0 219)) 0 5000 0 S (by omega) (by omega) xk hl hi
  unfold gpW
  rw [hs.o]
  exact this
theorem m_gap_L (hW : WB w) (hM : LawM w lw) : ∀ (k a f : Nat) (x : Int32) (S : PZ), a + k = cO' w → k < f → zA S 219 = w → ∃ S', L_X11_gapNow_4 Θ f (gb Θ + 218) x (nI a) (laz Θ S ω) n = some (.inl (some (.int (gpS w lw k a x)), laz Θ S' ω, n)) ∧ XY S S' := by
  have h6 := hW.O6
  intro k
  induction k with
  | zero =>
    intro a f x S h1 h2 hw
    obtain ⟨f, rfl⟩ : ∃ g, f = g + 1 := ⟨f - 1, by omega⟩
    refine ⟨S, ?_, XY.rf S⟩
    unfold L_X11_gapNow_4 B_X11_gapNow_4
    rw [d218, m_oneCount, kI_v, hw, h6.1, if_pos (nI_le (by omega) (by omega))]
    rfl
  | succ k ih =>
    intro a f x S h1 h2 hw
    obtain ⟨f, rfl⟩ : ∃ g, f = g + 1 := ⟨f - 1, by omega⟩
    rw [show L_X11_gapNow_4 Θ (f + 1) (gb Θ + 218) x (nI a) (laz Θ S ω) n = B_X11_gapNow_4 Θ (L_X11_gapNow_4 Θ f) (gb Θ + 218) x (nI a) (laz Θ S ω) n from rfl, show gpS w lw (k + 1) a x = gpS w lw k (a + 1) (if w (4 * a + 44) = 0 then (if w (4 * a + 41) = 0 then x + nI (odN (cPar w lw a false false)) else x + - nI (odN (cPar w lw a false false))) else x) from rfl]
    unfold B_X11_gapNow_4 J_X11_gapNow_43 J_X11_gapNow_45
    rw [d218, m_oneCount, kI_v, hw, h6.1, if_neg (nI_ge (by omega) (by omega)), d218, m_waits (by omega), kI_v, hw, nI_1]
    by_cases z : w (4 * a + 44) = 0
    · obtain ⟨S1, e1, x1⟩ := m_oddsOf (Θ := Θ) (ω := ω) (n := n) (a := a) hw hW hM (by omega)
      have w1 := (x1.2.1 219 (by decide) (by decide) (by decide) (by decide)).trans hw
      rw [if_pos z, if_pos z, if_neg (show ¬ (1 : Int32) = 0 by decide), d218, m_isInnocent (by omega), kI_v, hw]
      by_cases y : w (4 * a + 41) = 0
      · obtain ⟨S2, e2, x2⟩ := ih (a + 1) f (x + nI (odN (cPar w lw a false false))) S1 (by omega) (by omega) w1
        rw [if_pos y, if_pos y, if_neg (show ¬ (1 : Int32) = 0 by decide), d218, e1, kI_v]
        exact ⟨S2, e2, x1.trans x2⟩
      · obtain ⟨S2, e2, x2⟩ := ih (a + 1) f (x + - nI (odN (cPar w lw a false false))) S1 (by omega) (by omega) w1
        rw [if_neg y, if_neg y, if_pos rfl, d218, e1, kI_v]
        exact ⟨S2, e2, x1.trans x2⟩
    · rw [if_neg z, if_neg z, if_pos rfl]
      exact ih (a + 1) f x S (by omega) (by omega) hw
theorem m_gapNow (hw : zA S 219 = w) (hW : WB w) (hM : LawM w lw) : ∃ S', F_X11_gapNow Θ (gb Θ + 218) (laz Θ S ω) n = some (.inl (some (.int (gpW w lw)), laz Θ S' ω, n)) ∧ XY S S' := by
  have h6 := hW.O6
  exact m_gap_L (Θ := Θ) (ω := ω) (n := n) hW hM (cO' w) 0 5000 0 S (by omega) (by omega) hw
end GP'
