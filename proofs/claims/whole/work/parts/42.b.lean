/-! a line of the court, read by the reference -/
theorem mT_uA (S : PZ) (p b k : Nat) (f : Nat → Int32) : uA (mT S p b) k f = mT (uA S k f) p b := rfl
theorem MTx.nA {S : PZ} {x : TX} (h : MTx S x) {f : Nat → Int32} : MTx (uA S 219 f) x := ⟨h.1, h.2.1, h.2.2⟩
/-- where the reference ends: the answer, the world, where it reads, where something begins -/
def MO (Θ : GP) (S : PZ) (ω : OW) (n : Nat) (x : TX) (o : LO) (r : RO) : Prop := ∃ p b, r = some (.inl (some (.int (b01 o.2.2)), laz Θ (mT (uA S 219 o.2.1) p b) ω, n)) ∧ p ≤ x.1 ∧ (if o.2.2 = true then p = o.1 else b = o.1)
section RC
variable {Θ : GP} {S : PZ} {ω : OW} {n : Nat} {x : TX} {w : Nat → Int32}
theorem MO.f {o : LO} {r : RO} {p b : Nat} (e : r = some (.inl (some (.int 0), laz Θ (mT (uA S 219 w) p b) ω, n))) (hp : p ≤ x.1) (ho : o = (b, w, false)) : MO Θ S ω n x o r := by
  subst ho
  exact ⟨p, b, e, hp, by rw [if_neg (show ¬ false = true by decide)]⟩
theorem MO.t {o : LO} {r : RO} {p b : Nat} {w' : Nat → Int32} (e : r = some (.inl (some (.int 1), laz Θ (mT (uA S 219 w') p b) ω, n))) (hp : p ≤ x.1) (ho : o = (p, w', true)) : MO Θ S ω n x o r := by
  subst ho
  exact ⟨p, b, e, hp, by rw [if_pos rfl]⟩
theorem ge0 {v : Nat} (h : v ≤ 999) : (0 : Int32) ≤ nI v := nI_pos' (by omega)
theorem m_rp106 (hW : WB w) (h7 : cP w < 8) {d : Nat} (hd : d < 6) {j sl : Int32} {wo p b : Nat} (hwo : wo ≤ 999) : J_X11_readProp_106 Θ (gb Θ + 218) (nI (cP w)) (nI (2 ^ d)) j sl (nI wo) (laz Θ (mT (uA S 219 w) p b) ω) n = some (.inl (some (.int 1), laz Θ (mT (uA S 219 (prW w (nI d) j (nI wo) sl)) p b) ω, n)) := by
  have h8 := hW.P8
  unfold J_X11_readProp_106 F_X11_propAt
  rw [if_pos (ge0 hwo), a218_1, kI_v, ixp0, ntz_tab d hd, kI_v, s_219 (by omega), a218_1, kI_v, ixp1, s_219 (by omega), uA_uA, a218_1, kI_v, ixp2, s_219 (by omega), uA_uA, a218_1, kI_v, ixp3, s_219 (by omega), uA_uA, a218_1, lI_lit, l_219 (by decide), sI_lit, s_219 (by decide), uA_uA]
  have e : ∀ f g : Nat → Int32, f = g → (some (.inl (some (.int 1), laz Θ (uA (mT (uA S 219 w) p b) 219 f) ω, n)) : RO) = some (.inl (some (.int 1), laz Θ (mT (uA S 219 g) p b) ω, n)) := by
    intro f g hfg
    subst hfg
    rw [mT_uA, uA_uA]
  apply e
  simp only [zA_eq]
  rw [show zA (mT (uA S 219 w) p b) 219 = w from zA_eq _ _ _]
  unfold prW
  rw [upd_ne _ _ (show 0 ≠ 4 * cP w + 12 by omega), upd_ne _ _ (show 0 ≠ 4 * cP w + 11 by omega), upd_ne _ _ (show 0 ≠ 4 * cP w + 10 by omega), upd_ne _ _ (show 0 ≠ 4 * cP w + 9 by omega), h8.1, nI_1]
theorem m_rp86 (h : MTx S x) (hW : WB w) (h7 : cP w < 8) {d : Nat} (hd : d < 6) {j sl : Int32} {p b : Nat} (hp : p ≤ x.1) : MO Θ S ω n x (lnP4 x w (nI d) j sl p) (J_X11_readProp_86 Θ (gb Θ + 218) (nI (cP w)) (nI (2 ^ d)) j sl (laz Θ (mT (uA S 219 w) p b) ω) n) := by
  have hq := skT_b hp
  have hw := weT_b hq.2
  have hq2 := skT_b hw.2
  have hd2 := deT_b hq2.2
  unfold J_X11_readProp_86 lnP4
  rw [d218, m_passes h.nA (by decide) hp, kI_v]
  cases hz : isWd x (skT x p) 2 with
  | false =>
    rw [if_pos (show b01 false = 0 from rfl), if_neg (show ¬ false = true by decide), if_neg (show ¬ false = true by decide)]
    exact MO.t (m_rp106 hW h7 hd (wo := 0) (by omega)) hq.2 rfl
  | true =>
    rw [if_neg (show ¬ b01 true = 0 by decide), if_pos rfl, if_pos rfl, d218, m_number h.nA hw.2, kI_v]
    by_cases y : nmR x (skT x (weT x (skT x p))) 0 99 = -1
    · rw [y, if_pos rfl]
      refine MO.f (b := skT x (weT x (skT x p))) ?_ hd2.2 rfl
      unfold J_X11_readProp_106
      rw [if_neg (by decide)]
    · obtain ⟨v, v1, v2, _⟩ := nm_rg hq2.2 y
      rw [if_neg y, v2]
      exact MO.t (m_rp106 hW h7 hd v1) hd2.2 rfl
theorem m_readProp (h : MTx S x) (hW : WB w) {q : Nat} (hq0 : q ≤ x.1) : MO Θ S ω n x (lnP x w q) (F_X11_readProp Θ (gb Θ + 218) (laz Θ (mT (uA S 219 w) (weT x q) q) ω) n) := by
  have h8 := hW.P8
  have hw0 := weT_b hq0
  have hq1 := skT_b hw0.2
  have hw1 := weT_b hq1.2
  have hq2 := skT_b hw1.2
  have hw2 := weT_b hq2.2
  have hq3 := skT_b hw2.2
  have hd3 := deT_b hq3.2
  have hq4 := skT_b hd3.2
  have hw4 := weT_b hq4.2
  have hq5 := skT_b hw4.2
  have hd5 := deT_b hq5.2
  have hw219 : ∀ p b, zA (mT (uA S 219 w) p b) 219 = w := fun p b => zA_eq _ _ _
  unfold F_X11_readProp J_X11_readProp_30 J_X11_readProp_84 lnP
  rw [d218, m_props, kI_v, hw219, h8.1]
  by_cases z : 8 ≤ cP w
  · rw [if_pos z, if_pos (show nI (cP w) = 8 by rw [show cP w = 8 by omega]; rfl)]
    exact MO.f rfl hw0.2 rfl
  · rw [if_neg z, if_neg (show ¬ nI (cP w) = 8 from fun u => z (by have := (nI_eq (b := 8) (by omega) (by omega)).mp u; omega)), d218, m_deedsTold h.nA hw0.2, kI_v]
    rcases le_dd hq1.2 with ⟨e1, e2⟩ | ⟨d, hd, e1, e2⟩
    · rw [if_pos e1]
      rcases e2 with e2 | ⟨k, k1, k2, k3⟩
      · rw [e2, if_pos (by decide)]
        exact MO.f rfl hw1.2 rfl
      · rw [k2, if_neg (nI_pos (by omega)), e_bc, kI_v, if_neg k3]
        exact MO.f rfl hw1.2 rfl
    · have h2d : (2 : Nat) ^ d < 64 := Nat.lt_of_lt_of_le (Nat.pow_lt_pow_right (by omega) hd) (by decide)
      rw [e1, if_neg (show ¬ nI d = -1 by rw [q_m1 (by omega)]; exact id), e2, if_neg (nI_pos (by omega)), e_bc, kI_v, bit_cnt d hd, if_pos rfl, d218, m_after h.nA (by decide) hw1.2, kI_v]
      unfold lnP2
      cases hz : isWd x (skT x (weT x (skT x (weT x q)))) 0 with
      | false =>
        simp only [Bool.false_eq_true, if_false]
        rw [if_neg (show ¬ (0 : Int32) ≤ -1 by decide)]
        exact MO.f rfl hw2.2 rfl
      | true =>
        rw [if_pos rfl, if_pos rfl, if_pos rfl]
        by_cases y : nmR x (skT x (weT x (skT x (weT x (skT x (weT x q)))))) 0 20 = -1
        · rw [y, if_neg (show ¬ (0 : Int32) ≤ -1 by decide), if_pos rfl]
          exact MO.f rfl hd3.2 rfl
        · obtain ⟨v, v1, v2, _⟩ := nm_rg hq3.2 y
          rw [if_neg y, v2, if_pos (ge0 v1), d218, m_passes h.nA (by decide) hd3.2, kI_v]
          unfold lnP3
          cases hz2 : isWd x (skT x (deT x (skT x (weT x (skT x (weT x (skT x (weT x q)))))))) 1 with
          | false =>
            rw [if_pos (show b01 false = 0 from rfl), if_neg (show ¬ false = true by decide), if_neg (show ¬ false = true by decide)]
            exact m_rp86 h hW (by omega) hd hq4.2
          | true =>
            rw [if_neg (show ¬ b01 true = 0 by decide), if_pos rfl, if_pos rfl, d218, m_number h.nA hw4.2, kI_v]
            by_cases u : nmR x (skT x (weT x (skT x (deT x (skT x (weT x (skT x (weT x (skT x (weT x q)))))))))) 0 9 = -1
            · rw [u, if_pos (Or.inl rfl : (-1:Int32) = -1 ∨ ¬ pin w (-1) = -1), if_pos (show (-1:Int32) < 0 by decide)]
              exact MO.f rfl hd5.2 rfl
            · obtain ⟨s, s1, s2, _⟩ := nm_rg hq5.2 u
              rw [s2, if_neg (nI_pos (by omega)), d218, m_propIn' (hw219 _ _) hW, kI_v]
              by_cases t : pin w (nI s) = -1
              · rw [if_pos t, if_neg (show ¬ (nI s = -1 ∨ ¬ pin w (nI s) = -1) from fun g => g.elim (fun g => (q_m1 (by omega)).mp g) (fun g => g t))]
                exact m_rp86 h hW (by omega) hd hd5.2
              · rw [if_neg t, if_pos (Or.inr t)]
                exact MO.f rfl hd5.2 rfl
theorem m_ra91 (hW : WB w) (h5 : cO' w < 6) {nv dd kn : Int32} {p b : Nat} : J_X11_readAccused_91 Θ (gb Θ + 218) (nI (cO' w)) nv dd kn (laz Θ (mT (uA S 219 w) p b) ω) n = some (.inl (some (.int 1), laz Θ (mT (uA S 219 (acW w nv dd kn)) p b) ω, n)) := by
  have h6 := hW.O6
  unfold J_X11_readAccused_91 F_X11_oneAt
  rw [a218_1, kI_v, ixa0, s_219 (by omega), a218_1, kI_v, ixa1, s_219 (by omega), uA_uA, a218_1, kI_v, ixa2, s_219 (by omega), uA_uA, a218_1, kI_v, ixa3, s_219 (by omega), uA_uA, a218_1, lI_lit, l_219 (by decide), sI_lit, s_219 (by decide), uA_uA]
  have e : ∀ f g : Nat → Int32, f = g → (some (.inl (some (.int 1), laz Θ (uA (mT (uA S 219 w) p b) 219 f) ω, n)) : RO) = some (.inl (some (.int 1), laz Θ (mT (uA S 219 g) p b) ω, n)) := by
    intro f g hfg
    subst hfg
    rw [mT_uA, uA_uA]
  apply e
  simp only [zA_eq]
  rw [show zA (mT (uA S 219 w) p b) 219 = w from zA_eq _ _ _]
  unfold acW
  rw [upd_ne _ _ (show 1 ≠ 4 * cO' w + 44 by omega), upd_ne _ _ (show 1 ≠ 4 * cO' w + 43 by omega), upd_ne _ _ (show 1 ≠ 4 * cO' w + 42 by omega), upd_ne _ _ (show 1 ≠ 4 * cO' w + 41 by omega), h6.1, nI_1]
theorem m_ra46 (h : MTx S x) (hW : WB w) (h5 : cO' w < 6) {nv dd : Int32} (hdd : (0 : Int32) ≤ dd) {p b : Nat} (hp : p ≤ x.1) : MO Θ S ω n x (lnA3 x w nv dd p) (J_X11_readAccused_46 Θ (gb Θ + 218) (nI (cO' w)) nv dd (laz Θ (mT (uA S 219 w) p b) ω) n) := by
  have hq := skT_b hp
  have hw := weT_b hq.2
  have hq2 := skT_b hw.2
  have hd2 := deT_b hq2.2
  have hw219 : ∀ p b, zA (mT (uA S 219 w) p b) 219 = w := fun p b => zA_eq _ _ _
  unfold J_X11_readAccused_46 lnA3
  rw [if_pos hdd, d218, m_passes h.nA (by decide) hp, kI_v]
  cases hz : isWd x (skT x p) 5 with
  | false =>
    rw [if_pos (show b01 false = 0 from rfl), if_neg (show ¬ false = true by decide), if_neg (show ¬ false = true by decide)]
    exact MO.t (m_ra91 hW h5) hq.2 rfl
  | true =>
    rw [if_neg (show ¬ b01 true = 0 by decide), if_pos rfl, if_pos rfl, d218, m_props, kI_v, hw219, d218, m_number h.nA hw.2, kI_v]
    by_cases y : nmR x (skT x (weT x (skT x p))) 0 (w 0 - 1) = -1
    · rw [y, if_neg (show ¬ (0 : Int32) ≤ -1 by decide), if_pos rfl]
      exact MO.f rfl hd2.2 rfl
    · obtain ⟨v, v1, v2, _⟩ := nm_rg hq2.2 y
      rw [if_neg y, v2, if_pos (ge0 v1)]
      exact MO.t (m_ra91 hW h5) hd2.2 rfl
theorem m_readAccused (h : MTx S x) (hW : WB w) {q : Nat} (hq0 : q ≤ x.1) : MO Θ S ω n x (lnA x w q) (F_X11_readAccused Θ (gb Θ + 218) (laz Θ (mT (uA S 219 w) (weT x q) q) ω) n) := by
  have h6 := hW.O6
  have hw0 := weT_b hq0
  have hq1 := skT_b hw0.2
  have hw1 := weT_b hq1.2
  have hq2 := skT_b hw1.2
  have hd2 := deT_b hq2.2
  have hq3 := skT_b hd2.2
  have hw3 := weT_b hq3.2
  have hq4 := skT_b hw3.2
  have hw4 := weT_b hq4.2
  have hw219 : ∀ p b, zA (mT (uA S 219 w) p b) 219 = w := fun p b => zA_eq _ _ _
  unfold F_X11_readAccused lnA
  rw [d218, m_oneCount, kI_v, hw219, h6.1]
  by_cases z : 6 ≤ cO' w
  · rw [if_pos z, if_pos (show nI (cO' w) = 6 by rw [show cO' w = 6 by omega]; rfl)]
    exact MO.f rfl hw0.2 rfl
  · rw [if_neg z, if_neg (show ¬ nI (cO' w) = 6 from fun u => z (by have := (nI_eq (b := 6) (by omega) (by omega)).mp u; omega)), d218, m_after h.nA (by decide) hw0.2, kI_v]
    cases hz : isWd x (skT x (weT x q)) 3 with
    | false =>
      simp only [Bool.false_eq_true, if_false]
      rw [if_neg (show ¬ (0 : Int32) ≤ -1 by decide)]
      exact MO.f rfl hw1.2 rfl
    | true =>
      rw [if_pos rfl, if_pos rfl, if_pos rfl]
      by_cases y : nmR x (skT x (weT x (skT x (weT x q)))) 1 60 = -1
      · rw [y, if_neg (show ¬ (0 : Int32) ≤ -1 by decide), if_pos rfl]
        exact MO.f rfl hd2.2 rfl
      · obtain ⟨v, v1, v2, _⟩ := nm_rg hq2.2 y
        rw [if_neg y, v2, if_pos (ge0 v1), d218, m_passes h.nA (by decide) hd2.2, kI_v]
        unfold lnA2
        cases hz2 : isWd x (skT x (deT x (skT x (weT x (skT x (weT x q)))))) 4 with
        | false =>
          rw [if_pos (show b01 false = 0 from rfl), if_neg (show ¬ false = true by decide), if_neg (show ¬ false = true by decide)]
          exact m_ra46 h hW (by omega) (by decide) hq3.2
        | true =>
          rw [if_neg (show ¬ b01 true = 0 by decide), if_pos rfl, if_pos rfl, d218, m_deedsTold h.nA hw3.2, kI_v]
          rcases dd_rg hq4.2 with e | ⟨k, k1, k2, _⟩
          · rw [e, if_pos rfl]
            refine MO.f (b := skT x (weT x (skT x (deT x (skT x (weT x (skT x (weT x q)))))))) ?_ hw4.2 rfl
            unfold J_X11_readAccused_46
            rw [if_neg (by decide)]
          · rw [k2, if_neg (show ¬ nI k = -1 by rw [q_m1 (by omega)]; exact id)]
            exact m_ra46 h hW (by omega) (nI_pos' (by omega)) hw4.2
theorem m_readNumber (h : MTx S x) {q i : Nat} {c : Int32} (hq0 : q ≤ x.1) (hc : c = nI i) (hi : i < 65) (hi' : Int32) : MO Θ S ω n x (lnN x w q i hi') (F_X11_readNumber Θ (gb Θ + 218) c 0 hi' (laz Θ (mT (uA S 219 w) (weT x q) q) ω) n) := by
  have hw0 := weT_b hq0
  have hq1 := skT_b hw0.2
  have hd1 := deT_b hq1.2
  have hw219 : ∀ p b, zA (mT (uA S 219 w) p b) 219 = w := fun p b => zA_eq _ _ _
  subst hc
  unfold F_X11_readNumber J_X11_readNumber_29 J_X11_readNumber_40 lnN
  rw [d218, m_number h.nA hw0.2, kI_v, a218_1]
  by_cases y : nmR x (skT x (weT x q)) 0 hi' = -1
  · rw [y, if_neg (show ¬ (0 : Int32) ≤ -1 by decide), a218_1, l_219 (by omega), hw219, s_219 (by omega), hw219, if_pos rfl, if_pos (show (-1 : Int32) < 0 by decide), bz_0, mT_uA, uA_uA]
    have e : upd w i (w i) = w := by
      funext k
      by_cases z : k = i
      · subst z; rw [upd_same]
      · rw [upd_ne _ _ z]
    rw [e]
    exact MO.f rfl hd1.2 rfl
  · obtain ⟨v, v1, v2, _⟩ := nm_rg hq1.2 y
    rw [if_neg y, v2, if_pos (ge0 v1), s_219 (by omega), hw219, if_neg (nI_pos (by omega)), bz_1, mT_uA, uA_uA]
    exact MO.t rfl hd1.2 rfl
theorem MO.bz {o : LO} {r : RO} (h : MO Θ S ω n x o r) : MO Θ S ω n x o (kI r (fun v ω n => bz v (some (.inl (some (.int v), ω, n))))) := by
  obtain ⟨p, b, e, o'⟩ := h
  refine ⟨p, b, ?_, o'⟩
  rw [e, kI_v, bz_b]
theorem m_courtLine (h : MTx S x) (hW : WB w) {q : Nat} (hq0 : q ≤ x.1) : MO Θ S ω n x (lnC x w q) (F_X11_readCourtLine Θ (gb Θ + 218) (laz Θ (mT (uA S 219 w) (weT x q) q) ω) n) := by
  have hw0 := weT_b hq0
  unfold F_X11_readCourtLine J_X11_readCourtLine_90 J_X11_readCourtLine_91 lnC
  rw [d218, m_isWord h.nA (by decide) hq0, kI_v]
  cases h6 : isWd x q 6 with
  | true =>
    rw [if_neg (show ¬ b01 true = 0 by decide), if_pos rfl, d218]
    exact (m_readProp h hW hq0).bz
  | false =>
    rw [if_pos (show b01 false = 0 from rfl), if_neg (show ¬ false = true by decide), d218, m_isWord h.nA (by decide) hq0, kI_v]
    cases h7 : isWd x q 7 with
    | true =>
      rw [if_neg (show ¬ b01 true = 0 by decide), if_pos rfl, d218]
      exact (m_readAccused h hW hq0).bz
    | false =>
      rw [if_pos (show b01 false = 0 from rfl), if_neg (show ¬ false = true by decide), d218, m_isWord h.nA (by decide) hq0, kI_v]
      cases h8 : isWd x q 8 with
      | true =>
        rw [if_neg (show ¬ b01 true = 0 by decide), if_pos rfl, d218]
        exact (m_readNumber h hq0 rfl (by omega) 9).bz
      | false =>
        rw [if_pos (show b01 false = 0 from rfl), if_neg (show ¬ false = true by decide), d218, m_isWord h.nA (by decide) hq0, kI_v]
        cases h9 : isWd x q 9 with
        | true =>
          rw [if_neg (show ¬ b01 true = 0 by decide), if_pos rfl, d218]
          exact (m_readNumber h hq0 rfl (by omega) 20).bz
        | false =>
          rw [if_pos (show b01 false = 0 from rfl), if_neg (show ¬ false = true by decide), d218, m_isWord h.nA (by decide) hq0, kI_v]
          cases h10 : isWd x q 10 with
          | true =>
            rw [if_neg (show ¬ b01 true = 0 by decide), if_pos rfl, d218]
            obtain ⟨p, b, e, o'⟩ := m_readNumber (Θ := Θ) (ω := ω) (n := n) (w := w) h hq0 (i := 4) (c := 4) rfl (by omega) 999
            refine ⟨p, b, ?_, o'⟩
            rw [e, kI_v]
            cases (lnN x w q 4 999).2.2
            · rw [if_pos (show b01 false = 0 from rfl), bz_0]; rfl
            · rw [if_neg (show ¬ b01 true = 0 by decide), bz_1]; rfl
          | false =>
            rw [if_pos (show b01 false = 0 from rfl), if_neg (show ¬ false = true by decide), bz_0]
            exact MO.f rfl hw0.2 rfl
end RC
