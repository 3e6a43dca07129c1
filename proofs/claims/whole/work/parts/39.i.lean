/-! promise 27: next -/
theorem gp_bd {w : Nat → Int32} {lw : LW} (hW : WB w) (hM : LawM w lw) : ∀ (k a : Nat) (x : Int32) (B : Nat), a + k ≤ 6 → -(B : Int) ≤ x.toInt → x.toInt ≤ B → B + 10000 * k ≤ 100000 → -((B + 10000 * k : Nat) : Int) ≤ (gpS w lw k a x).toInt ∧ (gpS w lw k a x).toInt ≤ ((B + 10000 * k : Nat) : Int) := by
  intro k
  induction k with
  | zero => intro a x B h1 h2 h3 h4; exact ⟨by show -((B + 10000 * 0 : Nat) : Int) ≤ x.toInt; omega, by show x.toInt ≤ ((B + 10000 * 0 : Nat) : Int); omega⟩
  | succ k ih =>
    intro a x B h1 h2 h3 h4
    have ho := od_lt (a := a) hW hM (by omega)
    show -((B + 10000 * (k + 1) : Nat) : Int) ≤ (gpS w lw k (a + 1) (if w (4 * a + 44) = 0 then (if w (4 * a + 41) = 0 then x + nI (odN (cPar w lw a false false)) else x + - nI (odN (cPar w lw a false false))) else x)).toInt ∧ (gpS w lw k (a + 1) (if w (4 * a + 44) = 0 then (if w (4 * a + 41) = 0 then x + nI (odN (cPar w lw a false false)) else x + - nI (odN (cPar w lw a false false))) else x)).toInt ≤ _
    rw [show B + 10000 * (k + 1) = (B + 10000) + 10000 * k by omega]
    generalize odN (cPar w lw a false false) = m at *
    have hm : (nI m).toInt = (m : Int) := nI_toInt (by omega)
    by_cases z : w (4 * a + 44) = 0
    · rw [if_pos z]
      by_cases y : w (4 * a + 41) = 0
      · rw [if_pos y]
        have e := toInt_add_small (x := x) (y := nI m) rfl hm (by omega) (by omega)
        exact ih (a + 1) _ (B + 10000) (by omega) (by rw [e]; omega) (by rw [e]; omega) (by omega)
      · rw [if_neg y]
        have e := toInt_sub_small (x := x) (y := nI m) rfl hm (by omega) (by omega)
        rw [Int32.sub_eq_add_neg] at e
        exact ih (a + 1) _ (B + 10000) (by omega) (by rw [e]; omega) (by rw [e]; omega) (by omega)
    · rw [if_neg z]
      exact ih (a + 1) x (B + 10000) (by omega) (by omega) (by omega) (by omega)
theorem gpW_gt {w : Nat → Int32} {lw : LW} (hW : WB w) (hM : LawM w lw) : ¬ gpW w lw ≤ -100000000 := by
  have h6 := hW.O6
  have h := gp_bd hW hM (cO' w) 0 0 0 (by omega) (by decide) (by decide) (by omega)
  unfold gpW
  rw [Int32.le_iff_toInt_le]
  have e : (-100000000 : Int32).toInt = -100000000 := by decide
  rw [e]
  omega
noncomputable def nx1 (w : Nat → Int32) (lw : LW) (p s : Nat) (q : Int32 × Int32) : Int32 × Int32 := if w (4 * p + 12) = -1 ∧ pin w (nI s) = -1 then (if gpW (upd w (4 * p + 12) (nI s)) lw ≤ q.2 then q else ((10 * nI p) + nI s, gpW (upd w (4 * p + 12) (nI s)) lw)) else q
noncomputable def nxL (w : Nat → Int32) (lw : LW) (p : Nat) : Nat → Nat → Int32 × Int32 → Int32 × Int32
  | 0, _, q => q
  | m + 1, s, q => nxL w lw p m (s + 1) (nx1 w lw p s q)
noncomputable def nxO (w : Nat → Int32) (lw : LW) : Nat → Nat → Int32 × Int32 → Int32
  | 0, _, q => q.1
  | m + 1, p, q => nxO w lw m (p + 1) (nxL w lw p 10 0 q)
def nxI (q : Int32 × Int32) : Prop := q.1 = -1 → q.2 = -100000000
theorem ix10 {p s : Nat} (hp : p < 8) (hs : s < 10) : ¬ ((10 * nI p) + nI s) = -1 := by
  rw [show (10 : Int32) = nI 10 from rfl, nI_mul, nI_add, q_m1 (by omega)]
  exact id
theorem nx1_I {w : Nat → Int32} {lw : LW} {p s : Nat} (hp : p < 8) (hs : s < 10) {q : Int32 × Int32} (h : nxI q) : nxI (nx1 w lw p s q) := by
  unfold nx1
  split
  · split
    · exact h
    · exact fun u => absurd u (ix10 hp hs)
  · exact h
theorem nxL_I {w : Nat → Int32} {lw : LW} {p : Nat} (hp : p < 8) : ∀ (m s : Nat) (q : Int32 × Int32), s + m ≤ 10 → nxI q → nxI (nxL w lw p m s q) := by
  intro m
  induction m with
  | zero => intro s q _ h; exact h
  | succ m ih => intro s q hs h; exact ih (s + 1) _ (by omega) (nx1_I hp (by omega) h)
section NW
variable {w : Nat → Int32} {lw : LW} {p s : Nat}
theorem nw_wb (hW : WB w) (hp : p < cP w) (hs : s < 10) (h2 : pin w (nI s) = -1) : WB (upd w (4 * p + 12) (nI s)) := by
  have h8 := hW.P8
  refine hW.slot (by omega) (Or.inr ⟨s, by omega, rfl⟩) (fun q hq _ e => ?_)
  rcases pin_cases w (nI s) with ⟨_, y⟩ | ⟨r, r1, r2, _⟩
  · exact absurd e (y q hq)
  · rw [r2] at h2; exact ((q_m1 (by omega)).mp h2).elim
theorem nw_law (hM : LawM w lw) (hp : p < 8) : LawM (upd w (4 * p + 12) (nI s)) lw := hM.congr (fun k hk => upd_ne _ _ (by omega))
theorem nw_sm (hp : p < 8) : SmO w (upd w (4 * p + 12) (nI s)) := ⟨upd_ne _ _ (by omega), fun o ho => ⟨upd_ne _ _ (by omega), upd_ne _ _ (by omega), upd_ne _ _ (by omega), upd_ne _ _ (by omega)⟩⟩
theorem nw_back (h : w (4 * p + 12) = -1) : upd (upd w (4 * p + 12) (nI s)) (4 * p + 12) (-1) = w := by
  funext k
  by_cases z : k = 4 * p + 12
  · subst z; rw [upd_same, h]
  · rw [upd_ne _ _ z, upd_ne _ _ z]
end NW
section NX
variable {Θ : GP} {S S0 : PZ} {ω : OW} {n : Nat} {w : Nat → Int32} {lw : LW} {p : Nat}
theorem m_nx24_L (hW : WB w) (hM : LawM w lw) {K : Nat → Int32 → Int32 → Int32 → OW → Nat → RO} (hp : p < cP w) : ∀ (m s f : Nat) (q : Int32 × Int32) (S : PZ), s + m = 10 → m < f → zA S 219 = w → ∃ S', L_X11_next_24 Θ K f (gb Θ + 218) q.1 q.2 (nI p) (nI s) (laz Θ S ω) n = K (gb Θ + 218) (nxL w lw p m s q).1 (nxL w lw p m s q).2 (nI (p + 1)) (laz Θ S' ω) n ∧ XY S S' := by
  have h8 := hW.P8
  intro m
  induction m with
  | zero =>
    intro s f q S h1 h2 hw
    obtain ⟨f, rfl⟩ : ∃ g, f = g + 1 := ⟨f - 1, by omega⟩
    refine ⟨S, ?_, XY.rf S⟩
    unfold L_X11_next_24 B_X11_next_24
    rw [if_pos (show (10 : Int32) ≤ nI s from nI_le (a := 10) (by omega) (by omega)), nI_1]
    rfl
  | succ m ih =>
    intro s f q S h1 h2 hw
    obtain ⟨f, rfl⟩ : ∃ g, f = g + 1 := ⟨f - 1, by omega⟩
    have hs : s < 10 := by omega
    rw [show L_X11_next_24 Θ K (f + 1) (gb Θ + 218) q.1 q.2 (nI p) (nI s) (laz Θ S ω) n = B_X11_next_24 Θ K (L_X11_next_24 Θ K f) (gb Θ + 218) q.1 q.2 (nI p) (nI s) (laz Θ S ω) n from rfl, show nxL w lw p (m + 1) s q = nxL w lw p m (s + 1) (nx1 w lw p s q) from rfl]
    unfold B_X11_next_24 J_X11_next_98 J_X11_next_106 F_X11_propAt
    rw [if_neg (show ¬ (10 : Int32) ≤ nI s from nI_ge (b := 10) (by omega) (by omega)), d218, m_isNailed (by omega), kI_v, hw, nI_1]
    by_cases z : w (4 * p + 12) = -1
    · rw [if_pos z, if_pos rfl, d218, m_propIn' hw hW, kI_v]
      by_cases y : pin w (nI s) = -1
      · have hW' := nw_wb hW hp hs y
        have hM' := nw_law (s := s) hM (show p < 8 by omega)
        obtain ⟨S1, e1, x1⟩ := m_gapNow (Θ := Θ) (S := uA S 219 (upd w (4 * p + 12) (nI s))) (ω := ω) (n := n) (w := upd w (4 * p + 12) (nI s)) (lw := lw) (zA_eq _ _ _) hW' hM'
        have w1 : zA S1 219 = upd w (4 * p + 12) (nI s) := by rw [x1.2.1 219 (by decide) (by decide) (by decide) (by decide), zA_eq]
        have x2 := x1.back hw
        obtain ⟨S3, e3, x3⟩ := ih (s + 1) f (nx1 w lw p s q) (uA S1 219 w) (by omega) (by omega) (zA_eq _ _ _)
        refine ⟨S3, ?_, x2.trans x3⟩
        rw [if_pos y, a218_1, kI_v, ixp3, s_219 (by omega), hw, d218, e1, kI_v, a218_1, kI_v, s_219 (by omega), w1, nw_back z, ← e3]
        have en : nx1 w lw p s q = if gpW (upd w (4 * p + 12) (nI s)) lw ≤ q.2 then q else ((10 * nI p) + nI s, gpW (upd w (4 * p + 12) (nI s)) lw) := if_pos ⟨z, y⟩
        rw [en]
        by_cases v : gpW (upd w (4 * p + 12) (nI s)) lw ≤ q.2
        · rw [if_pos v, if_pos v, if_neg (q_nlt.mpr v)]
        · rw [if_neg v, if_neg v, if_pos (nle_32 v).2]
      · have e : nx1 w lw p s q = q := if_neg (fun u => y u.2)
        rw [if_neg y, e]
        exact ih (s + 1) f q S (by omega) (by omega) hw
    · have e : nx1 w lw p s q = q := if_neg (fun u => z u.1)
      rw [if_neg z, if_neg (show ¬ (1 : Int32) = 0 by decide), e]
      exact ih (s + 1) f q S (by omega) (by omega) hw
theorem m_nx13_L (hW : WB w) (hM : LawM w lw) : ∀ (m p f : Nat) (q : Int32 × Int32) (S : PZ), p + m = cP w → m < f → zA S 219 = w → ∃ S', L_X11_next_13 Θ f (gb Θ + 218) q.1 q.2 (nI p) (laz Θ S ω) n = some (.inl (some (.int (nxO w lw m p q)), laz Θ S' ω, n)) ∧ XY S S' := by
  have h8 := hW.P8
  intro m
  induction m with
  | zero =>
    intro p f q S h1 h2 hw
    obtain ⟨f, rfl⟩ : ∃ g, f = g + 1 := ⟨f - 1, by omega⟩
    refine ⟨S, ?_, XY.rf S⟩
    unfold L_X11_next_13 B_X11_next_13
    rw [d218, m_props, kI_v, hw, h8.1, if_pos (nI_le (by omega) (by omega))]
    rfl
  | succ m ih =>
    intro p f q S h1 h2 hw
    obtain ⟨f, rfl⟩ : ∃ g, f = g + 1 := ⟨f - 1, by omega⟩
    obtain ⟨S1, e1, x1⟩ := m_nx24_L (Θ := Θ) (ω := ω) (n := n) (p := p) hW hM (K := L_X11_next_13 Θ f) (by omega) 10 0 5000 q S (by omega) (by omega) hw
    have e1 : L_X11_next_24 Θ (L_X11_next_13 Θ f) 5000 (gb Θ + 218) q.1 q.2 (nI p) 0 (laz Θ S ω) n = _ := e1
    obtain ⟨S2, e2, x2⟩ := ih (p + 1) f (nxL w lw p 10 0 q) S1 (by omega) (by omega) ((x1.2.1 219 (by decide) (by decide) (by decide) (by decide)).trans hw)
    refine ⟨S2, ?_, x1.trans x2⟩
    rw [show L_X11_next_13 Θ (f + 1) (gb Θ + 218) q.1 q.2 (nI p) (laz Θ S ω) n = B_X11_next_13 Θ (L_X11_next_13 Θ f) (gb Θ + 218) q.1 q.2 (nI p) (laz Θ S ω) n from rfl]
    unfold B_X11_next_13
    rw [d218, m_props, kI_v, hw, h8.1, if_neg (nI_ge (by omega) (by omega)), e1, e2]
    rfl
theorem RLd.nw {s : Nat} (hW : WB w) (h : RLd Θ S ω w lw (fun s => pin w (nI s)) (fun _ => false)) (hp : p < cP w) (hs : s < 10) (h1 : w (4 * p + 12) = -1) (h2 : pin w (nI s) = -1) : RLd Θ (uA S 203 (upd (zA S 203) s (nI p))) ω (upd w (4 * p + 12) (nI s)) lw (fun t => pin (upd w (4 * p + 12) (nI s)) (nI t)) (fun _ => false) := by
  have h8 := hW.P8
  obtain ⟨g1, g2, g3, g4, g5⟩ := h
  have eP : cP (upd w (4 * p + 12) (nI s)) = cP w := by unfold cP; rw [upd_ne _ _ (by omega)]
  refine ⟨g1, by rw [upd_ne _ _ (by omega)]; exact g2, fun r hr => ?_, fun t ht => ?_, g5⟩
  · rw [eP] at hr
    rw [upd_ne _ _ (by omega), upd_ne _ _ (by omega), upd_ne _ _ (by omega)]
    exact g3 r hr
  · rw [zA_eq]
    show _ = pin (upd w (4 * p + 12) (nI s)) (nI t)
    rw [pin_nail hW hp hs h1 h2 t ht]
    by_cases y : t = s
    · subst y; rw [upd_same, if_pos rfl]
    · rw [upd_ne _ _ y, if_neg y]; exact g4 t ht
theorem RLd.nwb {s : Nat} (hW : WB w) (h : RLd Θ S ω (upd w (4 * p + 12) (nI s)) lw (fun t => pin (upd w (4 * p + 12) (nI s)) (nI t)) (fun _ => false)) (hp : p < cP w) (hs : s < 10) (h1 : w (4 * p + 12) = -1) (h2 : pin w (nI s) = -1) : RLd Θ (uA S 203 (upd (zA S 203) s (-1))) ω w lw (fun t => pin w (nI t)) (fun _ => false) := by
  have h8 := hW.P8
  obtain ⟨g1, g2, g3, g4, g5⟩ := h
  have eP : cP (upd w (4 * p + 12) (nI s)) = cP w := by unfold cP; rw [upd_ne _ _ (by omega)]
  refine ⟨g1, by rw [upd_ne _ _ (by omega)] at g2; exact g2, fun r hr => ?_, fun t ht => ?_, g5⟩
  · have := g3 r (by rw [eP]; exact hr)
    rw [upd_ne _ _ (by omega), upd_ne _ _ (by omega), upd_ne _ _ (by omega)] at this
    exact this
  · have : zA S 203 t = pin (upd w (4 * p + 12) (nI s)) (nI t) := g4 t ht
    rw [pin_nail hW hp hs h1 h2 t ht] at this
    rw [zA_eq]
    by_cases y : t = s
    · subst y; rw [upd_same]; exact h2.symm
    · rw [upd_ne _ _ y, this, if_neg y]
theorem x_nx27_L (hC : Core Θ S0 ω) (hM : LawM (zA S0 219) lw) {K : Nat → Int32 → Int32 → Int32 → OW → Nat → RO} (hp : p < cP (zA S0 219)) : ∀ (m s f : Nat) (q : Int32 × Int32) (S : PZ), s + m = 10 → m < f → nxI q → XKw S0 S → RLd Θ S ω (zA S0 219) lw (fun s => pin (zA S0 219) (nI s)) (fun _ => false) → IdW Θ S → ∃ S', L_X10_next_27 Θ K f (gb Θ) q.1 (if q.1 = -1 then 0 else q.2) (nI p) (nI s) (laz Θ S ω) n = K (gb Θ) (nxL (zA S0 219) lw p m s q).1 (if (nxL (zA S0 219) lw p m s q).1 = -1 then 0 else (nxL (zA S0 219) lw p m s q).2) (nI (p + 1)) (laz Θ S' ω) n ∧ XKw S0 S' ∧ RLd Θ S' ω (zA S0 219) lw (fun s => pin (zA S0 219) (nI s)) (fun _ => false) ∧ IdW Θ S' := by
  have hW := hC.1.1
  have h8 := hW.P8
  intro m
  induction m with
  | zero =>
    intro s f q S h1 h2 hq xk hl hi
    obtain ⟨f, rfl⟩ : ∃ g, f = g + 1 := ⟨f - 1, by omega⟩
    refine ⟨S, ?_, xk, hl, hi⟩
    rw [show L_X10_next_27 Θ K (f + 1) (gb Θ) q.1 (if q.1 = -1 then 0 else q.2) (nI p) (nI s) (laz Θ S ω) n = B_X10_next_27 Θ K (L_X10_next_27 Θ K f) (gb Θ) q.1 (if q.1 = -1 then 0 else q.2) (nI p) (nI s) (laz Θ S ω) n from rfl]
    unfold B_X10_next_27
    rw [if_pos (show (10 : Int32) ≤ nI s from nI_le (a := 10) (by omega) (by omega)), nI_1]
    rfl
  | succ m ih =>
    intro s f q S h1 h2 hq xk hl hi
    obtain ⟨f, rfl⟩ : ∃ g, f = g + 1 := ⟨f - 1, by omega⟩
    have hs : s < 10 := by omega
    have hq' := nx1_I (w := zA S0 219) (lw := lw) (show p < 8 by omega) hs hq
    have hwh : zA S 18 p = zA S0 219 (4 * p + 12) := by rw [xk.2.1 18 (by omega) (by omega) (by omega) (by omega)]; exact (CRp hC.1.2.1 hp).2.2.2
    have htk : zA S 19 s = pin (zA S0 219) (nI s) := by rw [xk.2.1 19 (by omega) (by omega) (by omega) (by omega)]; exact CRt hC.1.2.1 hs
    have hwr := (hW.2.2.2.2.2.2.2.1 p (by omega)).2.2.2
    rw [show L_X10_next_27 Θ K (f + 1) (gb Θ) q.1 (if q.1 = -1 then 0 else q.2) (nI p) (nI s) (laz Θ S ω) n = B_X10_next_27 Θ K (L_X10_next_27 Θ K f) (gb Θ) q.1 (if q.1 = -1 then 0 else q.2) (nI p) (nI s) (laz Θ S ω) n from rfl, show nxL (zA S0 219) lw p (m + 1) s q = nxL (zA S0 219) lw p m (s + 1) (nx1 (zA S0 219) lw p s q) from rfl]
    unfold B_X10_next_27 J_X10_next_101 J_X10_next_112
    rw [if_neg (show ¬ (10 : Int32) ≤ nI s from nI_ge (b := 10) (by omega) (by omega)), r10_0, a14_10, l_18 (by omega), hwh, nI_1]
    by_cases z : zA S0 219 (4 * p + 12) = -1
    · rw [z, if_neg (by decide), r10_0, a14_11, l_19 hs, htk]
      by_cases y : pin (zA S0 219) (nI s) = -1
      · have hl' := hl.nw hW hp hs z y
        have xl1 : XL 202 S (uA S 203 (upd (zA S 203) s (nI p))) := (XL.rf 202 S).nA (by omega)
        obtain ⟨S1, e1, x1, i1⟩ := x_gapAsLaid (Θ := Θ) (n := n) hC (nw_wb hW hp hs y) (nw_law (s := s) hM (by omega)) (nw_sm (by omega)) (xk.trans xl1.xk) hl' (hi.xl xl1)
        have hl2 := (hl'.xw x1).nwb hW hp hs z y
        have xl2 : XL 202 S1 (uA S1 203 (upd (zA S1 203) s (-1))) := (XL.rf 202 S1).nA (by omega)
        have xk2 := ((xk.trans xl1.xk).trans x1.xk).trans xl2.xk
        have i2 := i1.xl xl2
        obtain ⟨S3, e3, o3⟩ := ih (s + 1) f (nx1 (zA S0 219) lw p s q) _ (by omega) (by omega) hq' xk2 hl2 i2
        have hgt := gpW_gt (nw_wb hW hp hs y) (nw_law (s := s) hM (show p < 8 by omega))
        refine ⟨S3, ?_, o3⟩
        rw [y, if_pos (by decide), r10_8, a202_1, s_203 hs, c10, e1, kI_v, r10_8, a202_1, s_203 hs, ← e3]
        have en : nx1 (zA S0 219) lw p s q = if gpW (upd (zA S0 219) (4 * p + 12) (nI s)) lw ≤ q.2 then q else ((10 * nI p) + nI s, gpW (upd (zA S0 219) (4 * p + 12) (nI s)) lw) := if_pos ⟨z, y⟩
        rw [en]
        by_cases v : q.1 = -1
        · have hn : ¬ gpW (upd (zA S0 219) (4 * p + 12) (nI s)) lw ≤ q.2 := by rw [hq v]; exact hgt
          rw [if_pos v, if_neg hn]
          dsimp only
          rw [if_neg (ix10 (show p < 8 by omega) hs)]
        · rw [if_neg v, if_neg v]
          by_cases u : gpW (upd (zA S0 219) (4 * p + 12) (nI s)) lw ≤ q.2
          · rw [if_pos u, if_pos u, if_neg v]
          · rw [if_neg u, if_neg u]
            dsimp only
            rw [if_neg (ix10 (show p < 8 by omega) hs)]
      · have e : nx1 (zA S0 219) lw p s q = q := if_neg (fun u => y u.2)
        rw [if_neg (fun u => y ((pin_neg h8.2).mp u)), e]
        exact ih (s + 1) f q S (by omega) (by omega) hq xk hl hi
    · have e : nx1 (zA S0 219) lw p s q = q := if_neg (fun u => z u.1)
      have hge : (0 : Int32) ≤ zA S0 219 (4 * p + 12) := q_nlt.mp (fun u => z ((wh_neg hwr).mp u))
      rw [if_pos hge, e]
      exact ih (s + 1) f q S (by omega) (by omega) hq xk hl hi
theorem x_nx13_L (hC : Core Θ S0 ω) (hM : LawM (zA S0 219) lw) : ∀ (m p f : Nat) (q : Int32 × Int32) (S : PZ), p + m = cP (zA S0 219) → m < f → nxI q → XKw S0 S → RLd Θ S ω (zA S0 219) lw (fun s => pin (zA S0 219) (nI s)) (fun _ => false) → IdW Θ S → ∃ S', L_X10_next_13 Θ f (gb Θ) q.1 (if q.1 = -1 then 0 else q.2) (nI p) (laz Θ S ω) n = some (.inl (some (.int (nxO (zA S0 219) lw m p q)), laz Θ S' ω, n)) ∧ XKw S0 S' ∧ IdW Θ S' := by
  have hP := hC.P
  intro m
  induction m with
  | zero =>
    intro p f q S h1 h2 hq xk hl hi
    obtain ⟨f, rfl⟩ : ∃ g, f = g + 1 := ⟨f - 1, by omega⟩
    refine ⟨S, ?_, xk, hi⟩
    rw [show L_X10_next_13 Θ (f + 1) (gb Θ) q.1 (if q.1 = -1 then 0 else q.2) (nI p) (laz Θ S ω) n = B_X10_next_13 Θ (L_X10_next_13 Θ f) (gb Θ) q.1 (if q.1 = -1 then 0 else q.2) (nI p) (laz Θ S ω) n from rfl]
    unfold B_X10_next_13
    rw [r10_0, a14_0, xk.1 14 0 (by omega) (by omega), hP.2.2, if_pos (nI_le (by omega) (by omega))]
    rfl
  | succ m ih =>
    intro p f q S h1 h2 hq xk hl hi
    obtain ⟨f, rfl⟩ : ∃ g, f = g + 1 := ⟨f - 1, by omega⟩
    obtain ⟨S1, e1, x1, l1, i1⟩ := x_nx27_L (Θ := Θ) (n := n) (p := p) hC hM (K := L_X10_next_13 Θ f) (by omega) 10 0 5000 q S (by omega) (by omega) hq xk hl hi
    have e1 : L_X10_next_27 Θ (L_X10_next_13 Θ f) 5000 (gb Θ) q.1 (if q.1 = -1 then 0 else q.2) (nI p) 0 (laz Θ S ω) n = _ := e1
    obtain ⟨S2, e2, o2⟩ := ih (p + 1) f (nxL (zA S0 219) lw p 10 0 q) S1 (by omega) (by omega) (nxL_I (by omega) 10 0 q (by omega) hq) x1 l1 i1
    refine ⟨S2, ?_, o2⟩
    rw [show L_X10_next_13 Θ (f + 1) (gb Θ) q.1 (if q.1 = -1 then 0 else q.2) (nI p) (laz Θ S ω) n = B_X10_next_13 Θ (L_X10_next_13 Θ f) (gb Θ) q.1 (if q.1 = -1 then 0 else q.2) (nI p) (laz Θ S ω) n from rfl]
    unfold B_X10_next_13
    rw [r10_0, a14_0, xk.1 14 0 (by omega) (by omega), hP.2.2, if_neg (nI_ge (by omega) (by omega)), e1, e2]
    rfl
end NX
theorem pc25 (Θ : GP) : PC_25 Θ (gb Θ) (gb Θ + 218) (gb Θ + 234) (Inv Θ) := by
  intro v xs i hI
  obtain ⟨S, ω, rfl, hC, hI⟩ := hI
  have hP := hC.P
  obtain ⟨lw, hL⟩ := hC.lw
  show stI (gb Θ) (gb Θ + 218) (fun ω n => F_X10_next Θ (gb Θ) ω n) (fun ω n => F_X11_next Θ (gb Θ + 218) ω n) (Inv Θ) _
  refine fin_I fun n _ => ?_
  obtain ⟨S1, e1, x1, l1, i1⟩ := x_ldy (n := n) hC hI hL
  obtain ⟨S3, e3, xk, i3⟩ := x_nx13_L (Θ := Θ) (n := n) hC hL.2 (cP (zA S 219)) 0 5000 (-1, -100000000) S1 (by omega) (by omega) (fun _ => rfl) x1.xk l1 i1
  rw [if_pos rfl] at e3
  have e3 : L_X10_next_13 Θ 5000 (gb Θ) (-1) 0 0 (laz Θ S1 ω) n = _ := e3
  have hI3 := xk.idle hI i3
  refine ⟨nxO (zA S 219) lw (cP (zA S 219)) 0 (-1, -100000000), S3, ω, n, ?_, fun n2 => ?_⟩
  · show F_X10_next Θ (gb Θ) (laz Θ S ω) n = _
    unfold F_X10_next
    rw [r10_8, d202, e1, kV_v, e3]
  · obtain ⟨S5, e5, x5⟩ := m_nx13_L (Θ := Θ) (ω := ω) (n := n2) hC.1.1 hL.2 (cP (zA S 219)) 0 5000 (-1, -100000000) (uF S3 218 0 0) (by omega) (by omega) xk.w
    have e5 : L_X11_next_13 Θ 5000 (gb Θ + 218) (-1) (-100000000) 0 (laz Θ (uF S3 218 0 0) ω) n2 = _ := e5
    refine ⟨S5, n2, ?_, ((hC.kp xk.kp).thr).kp x5.kp, x5.idle (hI3.thr)⟩
    show F_X11_next Θ (gb Θ + 218) (laz Θ S3 ω) n2 = _
    unfold F_X11_next
    rw [b218_0, e5]
