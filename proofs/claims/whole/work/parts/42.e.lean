/-! all lines of the court -/
def crL (x : TX) : Nat → (Nat → Int32) → Nat → LO
  | 0, w, q => (q, w, false)
  | k + 1, w, q => if (lnC x w q).2.2 = true then (if x.1 ≤ skT x (lnC x w q).1 then (skT x (lnC x w q).1, (lnC x w q).2.1, true) else if isSg x (skT x (lnC x w q).1) 59 = true then crL x k (lnC x w q).2.1 (skT x (skT x (lnC x w q).1 + 1)) else (skT x (lnC x w q).1, (lnC x w q).2.1, false)) else ((lnC x w q).1, (lnC x w q).2.1, false)
def crA (x : TX) (w : Nat → Int32) : LO := if x.1 ≤ skT x 0 then (skT x 0, w, true) else crL x 14 w (skT x 0)
def LOk (x : TX) (w : Nat → Int32) (o : LO) : Prop := o.1 ≤ x.1 ∧ WB o.2.1 ∧ ∀ k, 305 ≤ k ∨ k = 2 ∨ k = 3 → o.2.1 k = w k
theorem nI_ex (v : Int32) : ∃ k : Nat, v = nI k := ⟨v.toBitVec.toNat, Int32.toBitVec_inj.mp (by show v.toBitVec = BitVec.ofNat 32 v.toBitVec.toNat; simp)⟩
theorem nm_Rg {x : TX} {q hi : Nat} (hq : q ≤ x.1) (hh : hi ≤ 999) {lo : Int32} (h : ¬ nmR x q lo (nI hi) = -1) : Rg (nmR x q lo (nI hi)) hi := by
  obtain ⟨v, v1, v2, _, v4, _⟩ := nm_rg hq h
  rw [v2]
  exact ⟨v, nI_cap (by omega) (by omega) v4, rfl⟩
theorem sh_tb : ∀ v, v < 8 → 2 ^ v ≤ 255 ∧ (1 : Int32) <<< (nI v &&& 31) = nI (2 ^ v) := by decide +kernel
section LK
variable {x : TX} {w : Nat → Int32}
theorem LOk.f (hW : WB w) {q : Nat} (hq : q ≤ x.1) : LOk x w (q, w, false) := ⟨hq, hW, fun _ _ => rfl⟩
theorem lnP4_ok (hW : WB w) (h7 : cP w < 8) {d j sl : Int32} (hd : Rg d 5) (hj : Rg j 20) (hsl : sl = -1 ∨ Rg sl 9) (hf : sl = -1 ∨ pin w sl = -1) {p : Nat} (hp : p ≤ x.1) : LOk x w (lnP4 x w d j sl p) := by
  have hq := skT_b hp
  have hw := weT_b hq.2
  have hq2 := skT_b hw.2
  have hd2 := deT_b hq2.2
  unfold lnP4
  by_cases z : isWd x (skT x p) 2 = true
  · rw [if_pos z]
    by_cases y : nmR x (skT x (weT x (skT x p))) 0 99 = -1
    · rw [if_pos y]; exact LOk.f hW hq2.2
    · rw [if_neg y]
      exact ⟨hd2.2, prW_wb hW h7 hd hj (nm_Rg (hi := 99) hq2.2 (by omega) y) hsl hf, fun k hk => prW_ne (by omega) (by omega)⟩
  · rw [if_neg z]
    exact ⟨hq.2, prW_wb hW h7 hd hj ⟨0, by omega, rfl⟩ hsl hf, fun k hk => prW_ne (by omega) (by omega)⟩
theorem lnP3_ok (hW : WB w) (h7 : cP w < 8) {d j : Int32} (hd : Rg d 5) (hj : Rg j 20) {p : Nat} (hp : p ≤ x.1) : LOk x w (lnP3 x w d j p) := by
  have hq := skT_b hp
  have hw := weT_b hq.2
  have hq2 := skT_b hw.2
  have hd2 := deT_b hq2.2
  unfold lnP3
  by_cases z : isWd x (skT x p) 1 = true
  · rw [if_pos z]
    by_cases y : nmR x (skT x (weT x (skT x p))) 0 9 = -1 ∨ ¬ pin w (nmR x (skT x (weT x (skT x p))) 0 9) = -1
    · rw [if_pos y]; exact LOk.f hW hq2.2
    · rw [if_neg y]
      exact lnP4_ok hW h7 hd hj (Or.inr (nm_Rg (hi := 9) hq2.2 (by omega) (fun u => y (Or.inl u)))) (Or.inr (Classical.byContradiction (fun u => y (Or.inr u)))) hd2.2
  · rw [if_neg z]
    exact lnP4_ok hW h7 hd hj (Or.inl rfl) (Or.inl rfl) hq.2
theorem lnP_ok (hW : WB w) {q : Nat} (hq0 : q ≤ x.1) : LOk x w (lnP x w q) := by
  have hw0 := weT_b hq0
  have hq1 := skT_b hw0.2
  have hw1 := weT_b hq1.2
  have hq2 := skT_b hw1.2
  have hw2 := weT_b hq2.2
  have hq3 := skT_b hw2.2
  have hd3 := deT_b hq3.2
  unfold lnP
  by_cases z : 8 ≤ cP w
  · rw [if_pos z]; exact LOk.f hW hq0
  · rw [if_neg z]
    rcases le_dd hq1.2 with ⟨e1, _⟩ | ⟨d, hd, e1, _⟩
    · rw [if_pos e1]; exact LOk.f hW hq1.2
    · rw [e1, if_neg (show ¬ nI d = -1 by rw [q_m1 (by omega)]; exact id)]
      unfold lnP2
      by_cases y : isWd x (skT x (weT x (skT x (weT x q)))) 0 = true
      · rw [if_pos y]
        by_cases u : nmR x (skT x (weT x (skT x (weT x (skT x (weT x q)))))) 0 20 = -1
        · rw [if_pos u]; exact LOk.f hW hq3.2
        · rw [if_neg u]
          exact lnP3_ok hW (by omega) ⟨d, by omega, rfl⟩ (nm_Rg (hi := 20) hq3.2 (by omega) u) hd3.2
      · rw [if_neg y]; exact LOk.f hW hq2.2
theorem lnA3_ok (hW : WB w) (h5 : cO' w < 6) {nv dd : Int32} (hn : Rg nv 60) (hd : Rg dd 63) {p : Nat} (hp : p ≤ x.1) : LOk x w (lnA3 x w nv dd p) := by
  have hq := skT_b hp
  have hw := weT_b hq.2
  have hq2 := skT_b hw.2
  have hd2 := deT_b hq2.2
  have hP := hW.P8
  unfold lnA3
  by_cases z : isWd x (skT x p) 5 = true
  · rw [if_pos z]
    by_cases y : nmR x (skT x (weT x (skT x p))) 0 (w 0 - 1) = -1
    · rw [if_pos y]; exact LOk.f hW hq2.2
    · rw [if_neg y]
      obtain ⟨v, v1, v2, _, v4, _⟩ := nm_rg hq2.2 y
      have h8 : v < 8 := by
        rw [hP.1] at v4
        by_cases c0 : cP w = 0
        · rw [c0] at v4
          exact absurd (show (nI 0 : Int32) - 1 < nI v from by
            have := nI_pos' (n := v) (by omega)
            rw [Int32.lt_iff_toInt_lt]
            rw [Int32.le_iff_toInt_le] at this
            exact Int.lt_of_lt_of_le (by decide) this) v4
        · rw [show (1 : Int32) = nI 1 from rfl, nI_sub (by omega)] at v4
          have := nI_cap (by omega) (by omega) v4
          omega
      rw [v2]
      exact ⟨hd2.2, acW_wb hW h5 hn hd ⟨2 ^ v, (sh_tb v h8).1, (sh_tb v h8).2⟩, fun k hk => acW_ne (by omega) (by omega)⟩
  · rw [if_neg z]
    exact ⟨hq.2, acW_wb hW h5 hn hd ⟨0, by omega, rfl⟩, fun k hk => acW_ne (by omega) (by omega)⟩
theorem lnA_ok (hW : WB w) {q : Nat} (hq0 : q ≤ x.1) : LOk x w (lnA x w q) := by
  have hw0 := weT_b hq0
  have hq1 := skT_b hw0.2
  have hw1 := weT_b hq1.2
  have hq2 := skT_b hw1.2
  have hd2 := deT_b hq2.2
  have hq3 := skT_b hd2.2
  have hw3 := weT_b hq3.2
  have hq4 := skT_b hw3.2
  have hw4 := weT_b hq4.2
  unfold lnA
  by_cases z : 6 ≤ cO' w
  · rw [if_pos z]; exact LOk.f hW hq0
  · rw [if_neg z]
    by_cases y : isWd x (skT x (weT x q)) 3 = true
    · rw [if_pos y]
      by_cases u : nmR x (skT x (weT x (skT x (weT x q)))) 1 60 = -1
      · rw [if_pos u]; exact LOk.f hW hq2.2
      · rw [if_neg u]
        have hn := nm_Rg (hi := 60) hq2.2 (by omega) u
        unfold lnA2
        by_cases t : isWd x (skT x (deT x (skT x (weT x (skT x (weT x q)))))) 4 = true
        · rw [if_pos t]
          rcases dd_rg hq4.2 with e | ⟨k, k1, k2, _⟩
          · rw [if_pos e]; exact LOk.f hW hq4.2
          · rw [k2, if_neg (show ¬ nI k = -1 by rw [q_m1 (by omega)]; exact id)]
            exact lnA3_ok hW (by omega) hn ⟨k, by omega, rfl⟩ hw4.2
        · rw [if_neg t]
          exact lnA3_ok hW (by omega) hn ⟨0, by omega, rfl⟩ hq3.2
    · rw [if_neg y]; exact LOk.f hW hq1.2
theorem lnN_ok (hW : WB w) {q i hi : Nat} (hq0 : q ≤ x.1) (h : (i = 5 ∧ hi = 9) ∨ (i = 6 ∧ hi = 20) ∨ (i = 4 ∧ hi = 999)) : LOk x w (lnN x w q i (nI hi)) := by
  have hw0 := weT_b hq0
  have hq1 := skT_b hw0.2
  have hd1 := deT_b hq1.2
  unfold lnN
  by_cases z : nmR x (skT x (weT x q)) 0 (nI hi) = -1
  · rw [if_pos z]; exact LOk.f hW hq1.2
  · rw [if_neg z]
    have hr := nm_Rg hq1.2 (by omega) z
    refine ⟨hd1.2, hW.put (by omega) (fun u => ?_) (fun u => ?_) (fun u => ?_) (fun u => by omega) (fun p hp => ⟨fun u => by omega, fun u => by omega, fun u => by omega, fun u => by omega⟩) (fun p hp => ⟨fun u => by omega, fun u => by omega, fun u => by omega, fun u => by omega⟩), fun k hk => upd_ne _ _ (by omega)⟩
    · obtain ⟨k, k1, k2⟩ := hr
      exact ⟨k, by omega, k2⟩
    · obtain ⟨k, k1, k2⟩ := hr
      exact ⟨k, by omega, k2⟩
    · obtain ⟨k, k1, k2⟩ := hr
      exact ⟨k, by omega, k2⟩
theorem lnC_ok (hW : WB w) {q : Nat} (hq0 : q ≤ x.1) : LOk x w (lnC x w q) := by
  unfold lnC
  by_cases h6 : isWd x q 6 = true
  · rw [if_pos h6]; exact lnP_ok hW hq0
  · rw [if_neg h6]
    by_cases h7 : isWd x q 7 = true
    · rw [if_pos h7]; exact lnA_ok hW hq0
    · rw [if_neg h7]
      by_cases h8 : isWd x q 8 = true
      · rw [if_pos h8]; exact lnN_ok (hi := 9) hW hq0 (by omega)
      · rw [if_neg h8]
        by_cases h9 : isWd x q 9 = true
        · rw [if_pos h9]; exact lnN_ok (hi := 20) hW hq0 (by omega)
        · rw [if_neg h9]
          by_cases h10 : isWd x q 10 = true
          · rw [if_pos h10]; exact lnN_ok (hi := 999) hW hq0 (by omega)
          · rw [if_neg h10]; exact LOk.f hW hq0
theorem sg_lt {q c : Nat} (h : isSg x q c = true) : q < x.1 := (of_decide_eq_true h).1
theorem crL_ok : ∀ (k : Nat) (w : Nat → Int32) (q : Nat), WB w → q ≤ x.1 → LOk x w (crL x k w q) := by
  intro k
  induction k with
  | zero => intro w q hW hq; exact LOk.f hW hq
  | succ k ih =>
    intro w q hW hq
    obtain ⟨a, b, c⟩ := lnC_ok (x := x) hW hq
    have hs := skT_b a
    unfold crL
    by_cases z : (lnC x w q).2.2 = true
    · rw [if_pos z]
      by_cases y : x.1 ≤ skT x (lnC x w q).1
      · rw [if_pos y]; exact ⟨hs.2, b, c⟩
      · rw [if_neg y]
        by_cases u : isSg x (skT x (lnC x w q).1) 59 = true
        · rw [if_pos u]
          have := ih (lnC x w q).2.1 (skT x (skT x (lnC x w q).1 + 1)) b (skT_b (by omega)).2
          exact ⟨this.1, this.2.1, fun k hk => (this.2.2 k hk).trans (c k hk)⟩
        · rw [if_neg u]; exact ⟨hs.2, b, c⟩
    · rw [if_neg z]; exact ⟨a, b, c⟩
theorem crA_ok (hW : WB w) : LOk x w (crA x w) := by
  have hs := skT_b (x := x) (Nat.zero_le _)
  unfold crA
  by_cases z : x.1 ≤ skT x 0
  · rw [if_pos z]; exact ⟨hs.2, hW, fun _ _ => rfl⟩
  · rw [if_neg z]; exact crL_ok 14 w _ hW hs.2
end LK
section XR
variable {Θ : GP} {ω : OW} {n : Nat} {x : TX}
theorem x_read_L : ∀ (k l f : Nat) (S : PZ) (w : Nat → Int32) (q : Nat), l + k = 14 → k < f → TC S x → CR S 26 w → WB w → TK S x q → XLo Θ S ω n x (crL x k w q) (L_X1_read_21 Θ f (gb Θ + 196) (nI l) (laz Θ S ω) n) := by
  intro k
  induction k with
  | zero =>
    intro l f S w q h1 h2 h c hW t
    obtain ⟨f, rfl⟩ : ∃ g, f = g + 1 := ⟨f - 1, by omega⟩
    unfold L_X1_read_21 B_X1_read_21
    rw [if_pos (show (14 : Int32) ≤ nI l from nI_le (a := 14) (by omega) (by omega))]
    exact XLo.f rfl t rfl
  | succ k ih =>
    intro l f S w q h1 h2 h c hW t
    obtain ⟨f, rfl⟩ : ∃ g, f = g + 1 := ⟨f - 1, by omega⟩
    obtain ⟨S1, e1, a1, t1, c1⟩ := x_readLine (Θ := Θ) (ω := ω) (n := n) h c hW t
    obtain ⟨b1, b2, b3⟩ := lnC_ok (x := x) hW t.1
    unfold L_X1_read_21 B_X1_read_21 crL
    rw [if_neg (show ¬ (14 : Int32) ≤ nI l from nI_ge (b := 14) (by omega) (by omega)), d196, e1, kI_v]
    refine XLo.of a1 ?_
    by_cases z : (lnC x w q).2.2 = true
    · rw [if_pos z] at t1
      have c1 := c1 z
      have h1' := h.xdr a1
      rw [if_pos z, z, if_neg (show ¬ b01 true = 0 by decide), a196_0, d1, x_isEnded t1, kI_v]
      by_cases y : x.1 ≤ skT x (lnC x w q).1
      · rw [if_pos y, decide_eq_true y, if_neg (show ¬ b01 true = 0 by decide)]
        exact ⟨S1, rfl, XDr.rf S1, by rw [if_pos rfl, skT_sk]; exact t1, fun _ => c1⟩
      · obtain ⟨S2, e2, a2, t2⟩ := x_takeSign (Θ := Θ) (ω := ω) (n := n) h1' t1 (c := 59) (by omega)
        have e2 : F_X8_takeSign Θ (gb Θ + 1) 59 (laz Θ S1 ω) n = _ := e2
        rw [if_neg y, decide_eq_false y, if_pos (show b01 false = 0 from rfl), a196_0, d1, e2, kI_v]
        refine XLo.of a2.r ?_
        cases u : isSg x (skT x (lnC x w q).1) 59 with
        | true =>
          rw [u, if_pos rfl] at t2
          rw [if_neg (show ¬ b01 true = 0 by decide), if_pos rfl, nI_1]
          exact ih (l + 1) f S2 _ _ (by omega) (by omega) (h1'.xtk a2) (c1.xtk a2) b2 t2
        | false =>
          rw [u, if_neg (show ¬ false = true by decide)] at t2
          rw [if_pos (show b01 false = 0 from rfl), if_neg (show ¬ false = true by decide)]
          exact XLo.f rfl t2 rfl
    · rw [if_neg z] at t1
      rw [if_neg z, Bool.eq_false_iff.mpr z, if_pos (show b01 false = 0 from rfl)]
      exact XLo.f rfl t1 rfl
theorem x_read {S : PZ} {w : Nat → Int32} (h : TC S x) (c : CR S 26 w) (hW : WB w) : XLo Θ S ω n x (crA x w) (F_X1_read Θ (gb Θ + 196) (laz Θ S ω) n) := by
  have a0 : XTk S (uF S 1 2 0) := (XTk.rf S).nF (by omega)
  obtain ⟨S1, e1, a1, t1⟩ := x_advance (Θ := Θ) (ω := ω) (n := n) (h.xtk a0) (p := 0) (Nat.zero_le _) (zF_eq _ _ _ _)
  have h1 := (h.xtk a0).xtk a1
  have c1 := (c.xtk a0).xtk a1
  unfold F_X1_read F_X8_open crA
  rw [a196_0, d1, b1_2, d1, e1, kV_v, kV_v, a196_0, d1, x_isEnded t1, kI_v]
  refine XLo.of a0.r (XLo.of a1.r ?_)
  by_cases y : x.1 ≤ skT x 0
  · rw [if_pos y, decide_eq_true y, if_neg (show ¬ b01 true = 0 by decide)]
    exact ⟨S1, rfl, XDr.rf S1, by rw [if_pos rfl, skT_sk]; exact t1, fun _ => c1⟩
  · rw [if_neg y, decide_eq_false y, if_pos (show b01 false = 0 from rfl)]
    exact x_read_L 14 0 5000 S1 w _ (by omega) (by omega) h1 c1 hW t1
end XR
/-- where the reference ends: how many lines, the world, where something begins -/
def MAo (Θ : GP) (S : PZ) (ω : OW) (n : Nat) (o : LO) (r : RO) : Prop := ∃ p b v, r = some (.inl (some (.int v), laz Θ (mT (uA S 219 o.2.1) p b) ω, n)) ∧ (if o.2.2 = true then ∃ c, c ≤ 14 ∧ v = nI c else v = -1 ∧ b = o.1)
section MR'
variable {Θ : GP} {S : PZ} {ω : OW} {n : Nat} {x : TX}
theorem MAo.f {o : LO} {r : RO} {p b : Nat} {w' : Nat → Int32} (e : r = some (.inl (some (.int (-1)), laz Θ (mT (uA S 219 w') p b) ω, n))) (ho : o = (b, w', false)) : MAo Θ S ω n o r := by
  subst ho
  exact ⟨p, b, -1, e, by rw [if_neg (show ¬ false = true by decide)]; exact ⟨rfl, rfl⟩⟩
theorem m_readAll_L (h : MTx S x) : ∀ (k l f : Nat) (w : Nat → Int32) (p b : Nat), l + k = 14 → k < f → WB w → p ≤ x.1 → MAo Θ S ω n (crL x k w (skT x p)) (L_X11_readAll_28 Θ f (gb Θ + 218) 1 (nI l) (laz Θ (mT (uA S 219 w) p b) ω) n) := by
  intro k
  induction k with
  | zero =>
    intro l f w p b h1 h2 hW hp
    obtain ⟨f, rfl⟩ : ∃ g, f = g + 1 := ⟨f - 1, by omega⟩
    unfold L_X11_readAll_28 B_X11_readAll_28 F_X11_readLine J_X11_readLine_16 J_X11_readLine_45 J_X11_readLine_46
    rw [d218, d218, m_letters h.nA hp, kV_v, if_neg (show ¬ (1 : Int32) = 0 by decide), if_pos (show (14 : Int32) ≤ nI l from nI_le (a := 14) (by omega) (by omega)), bz_0, kI_v, if_pos rfl]
    exact MAo.f rfl rfl
  | succ k ih =>
    intro l f w p b h1 h2 hW hp
    obtain ⟨f, rfl⟩ : ∃ g, f = g + 1 := ⟨f - 1, by omega⟩
    have hs := skT_b hp
    obtain ⟨b1, b2, b3⟩ := lnC_ok (x := x) hW hs.2
    obtain ⟨p', b', e1, g1, g2⟩ := m_courtLine (Θ := Θ) (S := S) (ω := ω) (n := n) (w := w) h hW hs.2
    have hs2 := skT_b g1
    unfold L_X11_readAll_28 B_X11_readAll_28 F_X11_readLine J_X11_readLine_16 J_X11_readLine_45 J_X11_readLine_41 J_X11_readLine_46 crL
    rw [d218, d218, m_letters h.nA hp, kV_v, if_neg (show ¬ (1 : Int32) = 0 by decide), if_neg (show ¬ (14 : Int32) ≤ nI l from nI_ge (b := 14) (by omega) (by omega)), if_neg (show ¬ (1 : Int32) = 0 by decide), d218, e1, kI_v]
    by_cases z : (lnC x w (skT x p)).2.2 = true
    · rw [if_pos z] at g2
      subst g2
      rw [if_pos z, z, if_neg (show ¬ b01 true = 0 by decide), bz_1, kI_v, if_neg (show ¬ (1 : Int32) = 0 by decide), d218, m_blanks h.nA g1, kV_v, a218_10, mT_p, a218_11, mT_ne _ _ _ (by omega), zF_uA, h.1]
      by_cases y : x.1 ≤ skT x (lnC x w (skT x p)).1
      · rw [if_pos y, if_pos (show nI (skT x (lnC x w (skT x p)).1) = nI x.1 by rw [show skT x (lnC x w (skT x p)).1 = x.1 by omega]), nI_1]
        exact ⟨_, _, _, rfl, by rw [if_pos rfl]; exact ⟨l + 1, by omega, rfl⟩⟩
      · have h4 := h.2.1
        have ei := m_isAt (Θ := Θ) (ω := ω) (n := n) (b := skT x (lnC x w (skT x p)).1) (h.nA (f := (lnC x w (skT x p)).2.1)) (lo := 59) (hi := 59) hs2.2 (by omega) (by omega) (by omega)
        have ei : F_X11_isAt Θ (gb Θ + 218) 59 59 _ n = _ := ei
        rw [if_neg y, if_neg (show ¬ nI (skT x (lnC x w (skT x p)).1) = nI x.1 from fun u => y (by have := (nI_eq (by omega) (by omega)).mp u; omega)), d218, ei, kI_v]
        by_cases u : isSg x (skT x (lnC x w (skT x p)).1) 59 = true
        · have hu := of_decide_eq_true u
          rw [if_pos u, decide_eq_true (show skT x (lnC x w (skT x p)).1 < x.1 ∧ 59 ≤ x.2 (skT x (lnC x w (skT x p)).1) ∧ x.2 (skT x (lnC x w (skT x p)).1) ≤ 59 by omega), if_neg (show ¬ b01 true = 0 by decide), a218_10, mT_p, nI_1, b218_10, mT_up, nI_1]
          exact ih (l + 1) f _ _ _ (by omega) (by omega) b2 (by omega)
        · rw [if_neg u, decide_eq_false (fun v => u (decide_eq_true (by omega))), if_pos (show b01 false = 0 from rfl)]
          exact MAo.f rfl rfl
    · rw [if_neg z] at g2
      subst g2
      rw [if_neg z, Bool.eq_false_iff.mpr z, if_pos (show b01 false = 0 from rfl), bz_0, kI_v, if_pos rfl]
      exact MAo.f rfl rfl
def rdU (S : PZ) : PZ := uF (uF (uF (uF (uF S 218 0 0) 218 11 (zF S 218 9)) 218 9 0) 218 10 0) 218 16 0
theorem rdU_mT (S : PZ) : ∃ b, rdU S = mT (uA (rdU S) 219 (zA S 219)) 0 b := by
  obtain ⟨b, hb⟩ := nI_ex (zF (rdU S) 218 12)
  refine ⟨b, ?_⟩
  have e0 : zF (rdU S) 218 10 = nI 0 := by unfold rdU; rw [zF_ne _ _ (by omega), zF_eq]; rfl
  rw [show uA (rdU S) 219 (zA S 219) = rdU S from uA_self (rdU S) 219]
  unfold mT
  rw [← e0, uF_self, ← hb, uF_self]
theorem m_readAll (h : MTx (rdU S) x) (hW : WB (zA S 219)) : MAo Θ (rdU S) ω n (crA x (zA S 219)) (F_X11_readAll Θ (gb Θ + 218) 1 (laz Θ S ω) n) := by
  obtain ⟨b, hb⟩ := rdU_mT S
  have h4 := h.2.1
  have hs := skT_b (x := x) (Nat.zero_le _)
  unfold F_X11_readAll crA
  rw [d218, m_uses, kV_v, b218_16, show uF (uF (uF (uF (uF S 218 0 0) 218 11 (zF S 218 9)) 218 9 0) 218 10 0) 218 16 0 = rdU S from rfl]
  generalize rdU S = U at *
  rw [hb, d218, m_blanks h.nA (Nat.zero_le _), kV_v, a218_10, mT_p, a218_11, mT_ne _ _ _ (by omega), zF_uA, h.1]
  by_cases y : x.1 ≤ skT x 0
  · rw [if_pos y, if_pos (show nI (skT x 0) = nI x.1 by rw [show skT x 0 = x.1 by omega])]
    rw [← hb]
    exact ⟨_, _, _, rfl, by rw [if_pos rfl]; exact ⟨0, by omega, rfl⟩⟩
  · rw [if_neg y, if_neg (show ¬ nI (skT x 0) = nI x.1 from fun u => y (by have := (nI_eq (by omega) (by omega)).mp u; omega)), ← hb]
    have := m_readAll_L (Θ := Θ) (ω := ω) (n := n) h 14 0 5000 (zA S 219) (skT x 0) (skT x 0) (by omega) (by omega) hW hs.2
    rw [skT_sk] at this
    exact this
end MR'
