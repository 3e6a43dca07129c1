/-! a line of the court, read by the class -/
theorem nI_cap {v k : Nat} (hv : v < 2 ^ 31) (hk : k < 2 ^ 31) (h : ¬ nI k < nI v) : v ≤ k := by
  apply Classical.byContradiction
  intro u
  exact h (nI_lt (by omega) (by omega))
theorem wd_tkE {x : TX} {q s : Nat} (hs : s < 21) (z : isWd x q s = true) : tkE x q = weT x q := by
  have hz := of_decide_eq_true z
  have hE1 := wsE_r s hs
  have hlt : ltP x q = true := by
    apply Classical.byContradiction
    intro u
    rw [weT_n (Bool.eq_false_iff.mpr u)] at hz
    omega
  unfold tkE
  rw [if_neg (by have := (of_decide_eq_true hlt).1; omega), if_pos hlt]
theorem lt_tkE {x : TX} {q : Nat} (hlt : ltP x q = true) : tkE x q = weT x q := by
  unfold tkE
  rw [if_neg (by have := (of_decide_eq_true hlt).1; omega), if_pos hlt]
theorem le_lt {x : TX} {q : Nat} (h : ¬ leR x q = -1) : ltP x q = true := by
  unfold leR at h
  by_cases z : ltP x q = true ∧ weT x q - q = 1 ∧ x.2 q < 103
  · exact z.1
  · rw [if_neg z] at h; exact absurd rfl h
theorem dd_lt {x : TX} {q : Nat} (h : ¬ ddR x q = -1) : ltP x q = true := by
  unfold ddR at h
  by_cases z : ltP x q = true
  · exact z
  · rw [if_neg z] at h; exact absurd rfl h
/-- where the class ends: the answer, where its tape is, the draft -/
def XLo (Θ : GP) (S : PZ) (ω : OW) (n : Nat) (x : TX) (o : LO) (r : RO) : Prop := ∃ S', r = some (.inl (some (.int (b01 o.2.2)), laz Θ S' ω, n)) ∧ XDr S S' ∧ TK S' x (if o.2.2 = true then skT x o.1 else o.1) ∧ (o.2.2 = true → CR S' 26 o.2.1)
section XL
variable {Θ : GP} {S S1 : PZ} {ω : OW} {n : Nat} {x : TX} {w : Nat → Int32}
theorem XLo.of {o : LO} {r : RO} (h : XDr S S1) (g : XLo Θ S1 ω n x o r) : XLo Θ S ω n x o r := by
  obtain ⟨S', e, a, b, c⟩ := g
  exact ⟨S', e, h.trans a, b, c⟩
theorem XLo.f {o : LO} {r : RO} {q : Nat} (e : r = some (.inl (some (.int 0), laz Θ S ω, n))) (t : TK S x q) {w' : Nat → Int32} (ho : o = (q, w', false)) : XLo Θ S ω n x o r := by
  subst ho
  exact ⟨S, e, XDr.rf S, by rw [if_neg (show ¬ false = true by decide)]; exact t, fun u => absurd u (show ¬ false = true by decide)⟩
theorem x_rp137 (c : CR S 26 w) (hW : WB w) (h7 : cP w < 8) {d j sl wo : Int32} (hwo : ¬ wo = -1) (hsl : sl = -1 ∨ ∃ s, s < 10 ∧ sl = nI s ∧ pin w sl = -1) {p : Nat} (t : TK S x (skT x p)) : XLo Θ S ω n x (p, prW w d j wo sl, true) (J_X1_readProp_137 Θ (gb Θ + 196) d j sl wo (laz Θ S ω) n) := by
  obtain ⟨S', e, a, b⟩ := x_addProp (Θ := Θ) (ω := ω) (n := n) c hW h7 (d := d) (j := j) (wo := wo) hsl
  unfold J_X1_readProp_137
  rw [if_neg hwo, d196, e, kV_v]
  exact ⟨S', rfl, a.r, by rw [if_pos rfl]; exact t.xdf a, fun _ => b⟩
theorem x_rp113 (h : TC S x) (c : CR S 26 w) (hW : WB w) (h7 : cP w < 8) {d j sl : Int32} (hsl : sl = -1 ∨ ∃ s, s < 10 ∧ sl = nI s ∧ pin w sl = -1) {p : Nat} (t : TK S x (skT x p)) : XLo Θ S ω n x (lnP4 x w d j sl p) (J_X1_readProp_113 Θ (gb Θ + 196) d j sl (laz Θ S ω) n) := by
  obtain ⟨S1, e1, a1, t1⟩ := x_takeWord (Θ := Θ) (ω := ω) (n := n) h t (s := 2) (by decide) (c := 2003792494) (by decide)
  unfold J_X1_readProp_113 lnP4
  rw [a196_0, d1, e1, kI_v]
  refine XLo.of a1.r ?_
  cases hz : isWd x (skT x p) 2 with
  | false =>
    rw [hz, if_neg (show ¬ false = true by decide)] at t1
    rw [if_pos (show b01 false = 0 from rfl), if_neg (show ¬ false = true by decide)]
    exact x_rp137 (c.xtk a1) hW h7 (by decide) hsl (by rw [skT_sk]; exact t1)
  | true =>
    rw [hz, if_pos rfl] at t1
    obtain ⟨S2, e2, a2, t2⟩ := x_takeNumber (Θ := Θ) (ω := ω) (n := n) (h.xtk a1) t1 0 99
    rw [if_neg (show ¬ b01 true = 0 by decide), if_pos rfl, d196, e2, kI_v]
    refine XLo.of a2.r ?_
    by_cases y : nmR x (skT x (weT x (skT x p))) 0 99 = -1
    · rw [if_pos y] at t2
      rw [if_pos y]
      unfold J_X1_readProp_137
      rw [if_pos y]
      exact XLo.f rfl t2 rfl
    · rw [if_neg y] at t2
      rw [if_neg y]
      exact x_rp137 ((c.xtk a1).xtk a2) hW h7 y hsl t2
theorem x_rp53 (h : TC S x) (c : CR S 26 w) (hW : WB w) (h7 : cP w < 8) {d j : Int32} (hj : ¬ j = -1) {p : Nat} (t : TK S x (skT x p)) : XLo Θ S ω n x (lnP3 x w d j p) (J_X1_readProp_53 Θ (gb Θ + 196) d j (laz Θ S ω) n) := by
  obtain ⟨S1, e1, a1, t1⟩ := x_takeWord (Θ := Θ) (ω := ω) (n := n) h t (s := 1) (by decide) (c := 24948) (by decide)
  unfold J_X1_readProp_53 J_X1_readProp_104 lnP3
  rw [if_neg hj, a196_0, d1, e1, kI_v]
  refine XLo.of a1.r ?_
  have h1 := h.xtk a1
  have c1 := c.xtk a1
  cases hz : isWd x (skT x p) 1 with
  | false =>
    rw [hz, if_neg (show ¬ false = true by decide)] at t1
    rw [if_pos (show b01 false = 0 from rfl), if_neg (show ¬ false = true by decide)]
    exact x_rp113 h1 c1 hW h7 (Or.inl rfl) (by rw [skT_sk]; exact t1)
  | true =>
    rw [hz, if_pos rfl] at t1
    rw [if_neg (show ¬ b01 true = 0 by decide), if_pos rfl, a196_0, d1, x_number h1 t1, kI_v]
    by_cases y : nmR x (skT x (weT x (skT x p))) 0 9 = -1
    · rw [if_pos y, if_pos (Or.inl y)]
      exact XLo.f rfl t1 rfl
    · obtain ⟨v, v1, v2, _, v4, v5⟩ := nm_rg t1.1 y
      have v9 : v ≤ 9 := nI_cap (k := 9) (by omega) (by omega) v4
      rw [if_neg y, v2, a196_1, a26_11, z_lI (k := 31) rfl (show v < 10 by omega) (by decide), c1.2.2.1 v (by omega)]
      by_cases u : pin w (nI v) = -1
      · obtain ⟨S2, e2, a2, t2⟩ := x_adv (Θ := Θ) (ω := ω) (n := n) h1 t1
        rw [v5] at t2
        rw [if_pos ((pin_neg hW.P8.2).mpr u), if_neg (show ¬ (nI v = -1 ∨ ¬ pin w (nI v) = -1) from fun g => g.elim (fun g => (q_m1 (by omega)).mp g) (fun g => g u)), a196_0, d1, e2, kV_v]
        exact XLo.of a2.r (x_rp113 (h1.xtk a2) (c1.xtk a2) hW h7 (Or.inr ⟨v, by omega, rfl, u⟩) t2)
      · rw [if_neg (fun g => u ((pin_neg hW.P8.2).mp g)), if_pos (Or.inr u)]
        exact XLo.f rfl t1 rfl
theorem x_readProp (h : TC S x) (c : CR S 26 w) (hW : WB w) (h7 : cP w < 8) {q : Nat} (t : TK S x q) (hw : isWd x q 6 = true) : XLo Θ S ω n x (lnP x w q) (F_X1_readProp Θ (gb Θ + 196) (laz Θ S ω) n) := by
  obtain ⟨S1, e1, a1, t1⟩ := x_adv (Θ := Θ) (ω := ω) (n := n) h t
  rw [wd_tkE (by decide) hw] at t1
  have h1 := h.xtk a1
  have c1 := c.xtk a1
  unfold F_X1_readProp lnP
  rw [if_neg (show ¬ 8 ≤ cP w by omega), a196_0, d1, e1, kV_v, a196_0, d1, x_letter h1 t1, kI_v]
  refine XLo.of a1.r ?_
  by_cases y : leR x (skT x (weT x q)) = -1
  · rw [if_pos y, if_pos y]
    exact XLo.f rfl t1 rfl
  · obtain ⟨S2, e2, a2, t2⟩ := x_adv (Θ := Θ) (ω := ω) (n := n) h1 t1
    rw [lt_tkE (le_lt y)] at t2
    have h2 := h1.xtk a2
    have c2 := c1.xtk a2
    obtain ⟨S3, e3, a3, t3⟩ := x_takeWord (Θ := Θ) (ω := ω) (n := n) h2 t2 (s := 0) (by decide) (c := 1785033323) (by decide)
    have h3 := h2.xtk a3
    have c3 := c2.xtk a3
    unfold lnP2
    rw [if_neg y, if_neg y, a196_0, d1, e2, kV_v, a196_0, d1, e3, kI_v]
    refine XLo.of a2.r (XLo.of a3.r ?_)
    cases hz : isWd x (skT x (weT x (skT x (weT x q)))) 0 with
    | false =>
      rw [hz, if_neg (show ¬ false = true by decide)] at t3
      rw [if_pos (show b01 false = 0 from rfl), if_neg (show ¬ false = true by decide)]
      unfold J_X1_readProp_53
      rw [if_pos rfl]
      exact XLo.f rfl t3 rfl
    | true =>
      rw [hz, if_pos rfl] at t3
      obtain ⟨S4, e4, a4, t4⟩ := x_takeNumber (Θ := Θ) (ω := ω) (n := n) h3 t3 0 20
      rw [if_neg (show ¬ b01 true = 0 by decide), if_pos rfl, d196, e4, kI_v]
      refine XLo.of a4.r ?_
      by_cases u : nmR x (skT x (weT x (skT x (weT x (skT x (weT x q)))))) 0 20 = -1
      · rw [if_pos u] at t4
        unfold J_X1_readProp_53
        rw [if_pos u, if_pos u]
        exact XLo.f rfl t4 rfl
      · rw [if_neg u] at t4
        rw [if_neg u]
        exact x_rp53 (h3.xtk a4) (c3.xtk a4) hW h7 u t4
theorem x_ra120 (c : CR S 26 w) (hW : WB w) (h5 : cO' w < 6) {nv dd kn : Int32} {p : Nat} (t : TK S x (skT x p)) : XLo Θ S ω n x (p, acW w nv dd kn, true) (J_X1_readAccused_120 Θ (gb Θ + 196) nv dd kn (laz Θ S ω) n) := by
  obtain ⟨S', e, a, b⟩ := x_addAccused (Θ := Θ) (ω := ω) (n := n) c hW h5 (nv := nv) (dd := dd) (kn := kn)
  unfold J_X1_readAccused_120
  rw [d196, e, kV_v]
  exact ⟨S', rfl, a.r, by rw [if_pos rfl]; exact t.xdf a, fun _ => b⟩
theorem x_ra76 (h : TC S x) (c : CR S 26 w) (hW : WB w) (h5 : cO' w < 6) {nv dd : Int32} {p : Nat} (t : TK S x (skT x p)) : XLo Θ S ω n x (lnA3 x w nv dd p) (J_X1_readAccused_76 Θ (gb Θ + 196) nv dd (laz Θ S ω) n) := by
  obtain ⟨S1, e1, a1, t1⟩ := x_takeWord (Θ := Θ) (ω := ω) (n := n) h t (s := 5) (by decide) (c := 461414299507) (by decide)
  have h1 := h.xtk a1
  have c1 := c.xtk a1
  unfold J_X1_readAccused_76 lnA3
  rw [a196_0, d1, e1, kI_v]
  refine XLo.of a1.r ?_
  cases hz : isWd x (skT x p) 5 with
  | false =>
    rw [hz, if_neg (show ¬ false = true by decide)] at t1
    rw [if_pos (show b01 false = 0 from rfl), if_neg (show ¬ false = true by decide)]
    exact x_ra120 c1 hW h5 (by rw [skT_sk]; exact t1)
  | true =>
    rw [hz, if_pos rfl] at t1
    obtain ⟨S2, e2, a2, t2⟩ := x_takeNumber (Θ := Θ) (ω := ω) (n := n) h1 t1 0 (w 0 - 1)
    rw [if_neg (show ¬ b01 true = 0 by decide), if_pos rfl, a196_1, a26_0, c1.1.1, d196, e2, kI_v]
    refine XLo.of a2.r ?_
    by_cases y : nmR x (skT x (weT x (skT x p))) 0 (w 0 - 1) = -1
    · rw [if_pos y] at t2
      rw [if_pos y, if_pos y]
      exact XLo.f rfl t2 rfl
    · rw [if_neg y] at t2
      rw [if_neg y, if_neg y]
      exact x_ra120 (c1.xtk a2) hW h5 t2
theorem x_ra31 (h : TC S x) (c : CR S 26 w) (hW : WB w) (h5 : cO' w < 6) {nv : Int32} (hn : ¬ nv = -1) {p : Nat} (t : TK S x (skT x p)) : XLo Θ S ω n x (lnA2 x w nv p) (J_X1_readAccused_31 Θ (gb Θ + 196) nv (laz Θ S ω) n) := by
  obtain ⟨S1, e1, a1, t1⟩ := x_takeWord (Θ := Θ) (ω := ω) (n := n) h t (s := 4) (by decide) (c := 6580580) (by decide)
  have h1 := h.xtk a1
  have c1 := c.xtk a1
  unfold J_X1_readAccused_31 lnA2
  rw [if_neg hn, a196_0, d1, e1, kI_v]
  refine XLo.of a1.r ?_
  cases hz : isWd x (skT x p) 4 with
  | false =>
    rw [hz, if_neg (show ¬ false = true by decide)] at t1
    rw [if_pos (show b01 false = 0 from rfl), if_neg (show ¬ false = true by decide)]
    exact x_ra76 h1 c1 hW h5 (by rw [skT_sk]; exact t1)
  | true =>
    rw [hz, if_pos rfl] at t1
    rw [if_neg (show ¬ b01 true = 0 by decide), if_pos rfl, a196_0, d1, x_deeds h1 t1, kI_v]
    by_cases y : ddR x (skT x (weT x (skT x p))) = -1
    · rw [if_pos y, if_pos y]
      exact XLo.f rfl t1 rfl
    · obtain ⟨S2, e2, a2, t2⟩ := x_adv (Θ := Θ) (ω := ω) (n := n) h1 t1
      rw [lt_tkE (dd_lt y)] at t2
      rw [if_neg y, if_neg y, a196_0, d1, e2, kV_v]
      exact XLo.of a2.r (x_ra76 (h1.xtk a2) (c1.xtk a2) hW h5 t2)
theorem x_readAccused (h : TC S x) (c : CR S 26 w) (hW : WB w) (h5 : cO' w < 6) {q : Nat} (t : TK S x q) (hw : isWd x q 7 = true) : XLo Θ S ω n x (lnA x w q) (F_X1_readAccused Θ (gb Θ + 196) (laz Θ S ω) n) := by
  obtain ⟨S1, e1, a1, t1⟩ := x_adv (Θ := Θ) (ω := ω) (n := n) h t
  rw [wd_tkE (by decide) hw] at t1
  have h1 := h.xtk a1
  have c1 := c.xtk a1
  obtain ⟨S3, e3, a3, t3⟩ := x_takeWord (Θ := Θ) (ω := ω) (n := n) h1 t1 (s := 3) (by decide) (c := 474148402789) (by decide)
  have h3 := h1.xtk a3
  have c3 := c1.xtk a3
  unfold F_X1_readAccused lnA
  rw [if_neg (show ¬ 6 ≤ cO' w by omega), a196_0, d1, e1, kV_v, a196_0, d1, e3, kI_v]
  refine XLo.of a1.r (XLo.of a3.r ?_)
  cases hz : isWd x (skT x (weT x q)) 3 with
  | false =>
    rw [hz, if_neg (show ¬ false = true by decide)] at t3
    rw [if_pos (show b01 false = 0 from rfl), if_neg (show ¬ false = true by decide)]
    unfold J_X1_readAccused_31
    rw [if_pos rfl]
    exact XLo.f rfl t3 rfl
  | true =>
    rw [hz, if_pos rfl] at t3
    obtain ⟨S4, e4, a4, t4⟩ := x_takeNumber (Θ := Θ) (ω := ω) (n := n) h3 t3 1 60
    rw [if_neg (show ¬ b01 true = 0 by decide), if_pos rfl, d196, e4, kI_v]
    refine XLo.of a4.r ?_
    by_cases u : nmR x (skT x (weT x (skT x (weT x q)))) 1 60 = -1
    · rw [if_pos u] at t4
      unfold J_X1_readAccused_31
      rw [if_pos u, if_pos u]
      exact XLo.f rfl t4 rfl
    · rw [if_neg u] at t4
      rw [if_neg u]
      exact x_ra31 (h3.xtk a4) (c3.xtk a4) hW h5 u t4
theorem x_num {i j : Nat} (c : CR S 26 w) (hij : (j = 3 ∧ i = 5) ∨ (j = 4 ∧ i = 6) ∨ (j = 5 ∧ i = 4)) {v : Int32} {q : Nat} (t : TK S x (if v = -1 then q else skT x (deT x q))) : XLo Θ S ω n x (if v = -1 then (q, w, false) else (deT x q, upd w i v, true)) (if v = -1 then some (.inl (some (.int 0), laz Θ (uF S 26 j v) ω, n)) else some (.inl (some (.int 1), laz Θ (uF S 26 j v) ω, n))) := by
  have f := (XDf.rf S).nF (k := 26) (j := j) (v := v) (by omega)
  by_cases y : v = -1
  · rw [if_pos y] at t
    rw [if_pos y, if_pos y]
    exact XLo.of f.r (XLo.f rfl (t.xdf f) rfl)
  · rw [if_neg y] at t
    rw [if_neg y, if_neg y]
    exact ⟨_, rfl, f.r, by rw [if_pos rfl]; exact t.xdf f, fun _ => c.num hij v⟩
theorem XLo.bz {o : LO} {r : RO} {k : Int32 → OW → Nat → RO} (hk0 : ∀ v m, k 0 v m = some (.inl (some (.int 0), v, m))) (hk1 : ∀ v m, k 1 v m = some (.inl (some (.int 1), v, m))) (g : XLo Θ S ω n x o r) : XLo Θ S ω n x o (kI r k) := by
  obtain ⟨S', e, a⟩ := g
  refine ⟨S', ?_, a⟩
  rw [e, kI_v]
  cases o.2.2 with
  | false => exact hk0 _ _
  | true => exact hk1 _ _
theorem x_readLine (h : TC S x) (c : CR S 26 w) (hW : WB w) {q : Nat} (t : TK S x q) : XLo Θ S ω n x (lnC x w q) (F_X1_readLine Θ (gb Θ + 196) (laz Θ S ω) n) := by
  have hP := hW.P8
  have hO := hW.O6
  have e0 : zF S 26 0 = nI (cP w) := by rw [c.1.1, hP.1]
  have e1 : zF S 26 1 = nI (cO' w) := by rw [c.1.2.1, hO.1]
  unfold F_X1_readLine lnC
  rw [a196_0, d1, x_isWord h t (s := 6) (by decide) (c := 1886547824) (by decide), kI_v]
  cases h6 : isWd x q 6 with
  | true =>
    rw [if_neg (show ¬ b01 true = 0 by decide), if_pos rfl, a196_1, a26_0, e0]
    by_cases z : 8 ≤ cP w
    · rw [if_pos (show (8 : Int32) ≤ nI (cP w) from nI_le (a := 8) z (by omega))]
      exact XLo.f rfl t (by unfold lnP; rw [if_pos z])
    · rw [if_neg (show ¬ (8 : Int32) ≤ nI (cP w) from nI_ge (b := 8) (by omega) (by omega)), d196]
      exact (x_readProp h c hW (by omega) t h6).bz (fun v m => rfl) (fun v m => rfl)
  | false =>
    rw [if_pos (show b01 false = 0 from rfl), if_neg (show ¬ false = true by decide), a196_0, d1, x_isWord h t (s := 7) (by decide) (c := 27412351564342628) (by decide), kI_v]
    cases h7 : isWd x q 7 with
    | true =>
      rw [if_neg (show ¬ b01 true = 0 by decide), if_pos rfl, a196_1, a26_1, e1]
      by_cases z : 6 ≤ cO' w
      · rw [if_pos (show (6 : Int32) ≤ nI (cO' w) from nI_le (a := 6) z (by omega))]
        exact XLo.f rfl t (by unfold lnA; rw [if_pos z])
      · rw [if_neg (show ¬ (6 : Int32) ≤ nI (cO' w) from nI_ge (b := 6) (by omega) (by omega)), d196]
        exact (x_readAccused h c hW (by omega) t h7).bz (fun v m => rfl) (fun v m => rfl)
    | false =>
      obtain ⟨S1, f1, a1, t1⟩ := x_takeWord (Θ := Θ) (ω := ω) (n := n) h t (s := 8) (by decide) (c := 1667329133) (by decide)
      rw [if_pos (show b01 false = 0 from rfl), if_neg (show ¬ false = true by decide), a196_0, d1, f1, kI_v]
      have h1 := h.xtk a1
      have c1 := c.xtk a1
      refine XLo.of a1.r ?_
      cases h8 : isWd x q 8 with
      | true =>
        rw [h8, if_pos rfl] at t1
        obtain ⟨S2, f2, a2, t2⟩ := x_takeNumber (Θ := Θ) (ω := ω) (n := n) h1 t1 0 9
        rw [if_neg (show ¬ b01 true = 0 by decide), if_pos rfl, d196, f2, kI_v, a196_1, b26_3]
        exact XLo.of a2.r (x_num (c1.xtk a2) (Or.inl ⟨rfl, rfl⟩) t2)
      | false =>
        rw [h8, if_neg (show ¬ false = true by decide)] at t1
        obtain ⟨S2, f2, a2, t2⟩ := x_takeWord (Θ := Θ) (ω := ω) (n := n) h1 t1 (s := 9) (by decide) (c := 1701013615) (by decide)
        rw [if_pos (show b01 false = 0 from rfl), if_neg (show ¬ false = true by decide), a196_0, d1, f2, kI_v]
        have h2 := h1.xtk a2
        have c2 := c1.xtk a2
        refine XLo.of a2.r ?_
        cases h9 : isWd x q 9 with
        | true =>
          rw [h9, if_pos rfl] at t2
          obtain ⟨S3, f3, a3, t3⟩ := x_takeNumber (Θ := Θ) (ω := ω) (n := n) h2 t2 0 20
          rw [if_neg (show ¬ b01 true = 0 by decide), if_pos rfl, d196, f3, kI_v, a196_1, b26_4]
          exact XLo.of a3.r (x_num (c2.xtk a3) (Or.inr (Or.inl ⟨rfl, rfl⟩)) t3)
        | false =>
          rw [h9, if_neg (show ¬ false = true by decide)] at t2
          obtain ⟨S3, f3, a3, t3⟩ := x_takeWord (Θ := Θ) (ω := ω) (n := n) h2 t2 (s := 10) (by decide) (c := 6578553) (by decide)
          rw [if_pos (show b01 false = 0 from rfl), if_neg (show ¬ false = true by decide), a196_0, d1, f3, kI_v]
          have h3 := h2.xtk a3
          have c3 := c2.xtk a3
          refine XLo.of a3.r ?_
          cases h10 : isWd x q 10 with
          | true =>
            rw [h10, if_pos rfl] at t3
            obtain ⟨S4, f4, a4, t4⟩ := x_takeNumber (Θ := Θ) (ω := ω) (n := n) h3 t3 0 999
            rw [if_neg (show ¬ b01 true = 0 by decide), if_pos rfl, d196, f4, kI_v, a196_1, b26_5]
            exact XLo.of a4.r (x_num (c3.xtk a4) (Or.inr (Or.inr ⟨rfl, rfl⟩)) t4)
          | false =>
            rw [h10, if_neg (show ¬ false = true by decide)] at t3
            rw [if_pos (show b01 false = 0 from rfl), if_neg (show ¬ false = true by decide)]
            exact XLo.f rfl t3 rfl
end XL
